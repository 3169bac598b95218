/-! copies: written by wip/whole/copies.py -/
theorem cpy_s {f g : Nat → Int32} {a b i : Nat} : upd (va_cpy f g a b i) (b + i) (f (a + i)) = va_cpy f g a b (i + 1) := by
  funext q
  by_cases e : q = b + i
  · subst e
    rw [pk_us, pk_cpy_in (by omega) (by omega)]
    congr 1; omega
  · rw [pk_un e]
    by_cases w : b ≤ q ∧ q < b + i
    · rw [pk_cpy_in w.1 w.2, pk_cpy_in w.1 (by omega)]
    · rw [pk_cpy_out (by omega), pk_cpy_out (by omega)]
theorem cpyL_s {f g : Nat → Int64} {a b i : Nat} : vp_updL (va_cpy f g a b i) (b + i) (f (a + i)) = va_cpy f g a b (i + 1) := by
  funext q
  by_cases e : q = b + i
  · subst e
    rw [pk_uLs, pk_cpy_in (by omega) (by omega)]
    congr 1; omega
  · rw [pk_uLn e]
    by_cases w : b ≤ q ∧ q < b + i
    · rw [pk_cpy_in w.1 w.2, pk_cpy_in w.1 (by omega)]
    · rw [pk_cpy_out (by omega), pk_cpy_out (by omega)]
theorem cpy_0 {α : Type} {f g : Nat → α} {a b : Nat} : va_cpy f g a b 0 = g := by
  funext q; rw [pk_cpy_out (by omega)]
theorem nI_2250 (k i : Nat) : (2250 : Int32) * nI k + nI i = nI (2250 * k + i) := by rw [show (2250 : Int32) = nI 2250 from rfl, pk_mul, nI_add]
theorem nI_340 (k i : Nat) : (340 : Int32) * nI k + nI i = nI (340 * k + i) := by rw [show (340 : Int32) = nI 340 from rfl, pk_mul, nI_add]

theorem MS.cc_row_kept (u : MS) (a b : Nat → Int32) : (u.setKept a).setKept b = u.setKept b := rfl
theorem MS.ck_row_kept (u : MS) (a b : Nat → Int64) : (u.setKeptKeys a).setKeptKeys b = u.setKeptKeys b := rfl
theorem copy_row_kept {x y : Nat} (hx : 2250 * x + 2250 ≤ 2250) (hy : 2250 * y + 2250 ≤ 4500) (hx2 : 340 * x + 340 ≤ 340) (hy2 : 340 * y + 340 ≤ 680) (uv : MS) : f_X5_copy_row_kept (nI x) (nI y) uv = some ((uv.setKept (va_cpy uv.row uv.kept (2250 * x) (2250 * y) 2250)).setKeptKeys (va_cpy uv.keys uv.keptKeys (340 * x) (340 * y) 340)) := by
  have k2 : ∀ (w : MS) (m i F : Nat), i + m = 340 → m < F → f_X5_copy_row_kept_41 F (nI x) (nI y) (nI i) (w.setKeptKeys (va_cpy w.keys w.keptKeys (340 * x) (340 * y) i)) = some (w.setKeptKeys (va_cpy w.keys w.keptKeys (340 * x) (340 * y) 340)) := by
    intro w m
    induction m with
    | zero =>
      intro i F hi hF
      obtain ⟨F, rfl⟩ : ∃ n, F = n + 1 := ⟨F - 1, by omega⟩
      obtain rfl : i = 340 := by omega
      show f_X5_copy_row_kept_B41 (f_X5_copy_row_kept_41 F) (nI x) (nI y) (nI 340) _ = _
      unfold f_X5_copy_row_kept_B41
      rw [if_pos (show (340 : Int32) ≤ nI 340 by decide)]
    | succ m ih =>
      intro i F hi hF
      obtain ⟨F, rfl⟩ : ∃ n, F = n + 1 := ⟨F - 1, by omega⟩
      show f_X5_copy_row_kept_B41 (f_X5_copy_row_kept_41 F) (nI x) (nI y) (nI i) _ = _
      unfold f_X5_copy_row_kept_B41
      rw [if_neg (show ¬ (340 : Int32) ≤ nI i from nI_ge (b := 340) (by omega) (by decide))]
      simp (disch := omega) only [nI_340, ckI, nI_clamp, MS.setKeptKeys_ac, MS.ck_row_kept, cpyL_s, bnd_s, nI_1]
      exact ih (i + 1) F (by omega) (by omega)
  have k1 : ∀ (m i F : Nat), i + m = 2250 → m < F → f_X5_copy_row_kept_3 F (nI x) (nI y) (nI i) (uv.setKept (va_cpy uv.row uv.kept (2250 * x) (2250 * y) i)) = some ((uv.setKept (va_cpy uv.row uv.kept (2250 * x) (2250 * y) 2250)).setKeptKeys (va_cpy uv.keys uv.keptKeys (340 * x) (340 * y) 340)) := by
    intro m
    induction m with
    | zero =>
      intro i F hi hF
      obtain ⟨F, rfl⟩ : ∃ n, F = n + 1 := ⟨F - 1, by omega⟩
      obtain rfl : i = 2250 := by omega
      show f_X5_copy_row_kept_B3 (f_X5_copy_row_kept_3 F) (nI x) (nI y) (nI 2250) _ = _
      unfold f_X5_copy_row_kept_B3
      rw [if_pos (show (2250 : Int32) ≤ nI 2250 by decide)]
      have := k2 (uv.setKept (va_cpy uv.row uv.kept (2250 * x) (2250 * y) 2250)) 340 0 FU (by omega) (by rw [FU_e]; omega)
      simp only [MS.setKept_ac, cpy_0] at this
      have e : (uv.setKept (va_cpy uv.row uv.kept (2250 * x) (2250 * y) 2250)).setKeptKeys uv.keptKeys = uv.setKept (va_cpy uv.row uv.kept (2250 * x) (2250 * y) 2250) := rfl
      rw [e] at this
      exact this
    | succ m ih =>
      intro i F hi hF
      obtain ⟨F, rfl⟩ : ∃ n, F = n + 1 := ⟨F - 1, by omega⟩
      show f_X5_copy_row_kept_B3 (f_X5_copy_row_kept_3 F) (nI x) (nI y) (nI i) _ = _
      unfold f_X5_copy_row_kept_B3
      rw [if_neg (show ¬ (2250 : Int32) ≤ nI i from nI_ge (b := 2250) (by omega) (by decide))]
      simp (disch := omega) only [nI_2250, ckI, nI_clamp, MS.setKept_ac, MS.cc_row_kept, cpy_s, bnd_s, nI_1]
      exact ih (i + 1) F (by omega) (by omega)
  have := k1 2250 0 FU (by omega) (by rw [FU_e]; omega)
  rw [cpy_0] at this
  have e : uv.setKept uv.kept = uv := rfl
  rw [e] at this
  exact this

theorem MS.cc_kept_row (u : MS) (a b : Nat → Int32) : (u.setRow a).setRow b = u.setRow b := rfl
theorem MS.ck_kept_row (u : MS) (a b : Nat → Int64) : (u.setKeys a).setKeys b = u.setKeys b := rfl
theorem copy_kept_row {x y : Nat} (hx : 2250 * x + 2250 ≤ 4500) (hy : 2250 * y + 2250 ≤ 2250) (hx2 : 340 * x + 340 ≤ 680) (hy2 : 340 * y + 340 ≤ 340) (uv : MS) : f_X5_copy_kept_row (nI x) (nI y) uv = some ((uv.setRow (va_cpy uv.kept uv.row (2250 * x) (2250 * y) 2250)).setKeys (va_cpy uv.keptKeys uv.keys (340 * x) (340 * y) 340)) := by
  have k2 : ∀ (w : MS) (m i F : Nat), i + m = 340 → m < F → f_X5_copy_kept_row_41 F (nI x) (nI y) (nI i) (w.setKeys (va_cpy w.keptKeys w.keys (340 * x) (340 * y) i)) = some (w.setKeys (va_cpy w.keptKeys w.keys (340 * x) (340 * y) 340)) := by
    intro w m
    induction m with
    | zero =>
      intro i F hi hF
      obtain ⟨F, rfl⟩ : ∃ n, F = n + 1 := ⟨F - 1, by omega⟩
      obtain rfl : i = 340 := by omega
      show f_X5_copy_kept_row_B41 (f_X5_copy_kept_row_41 F) (nI x) (nI y) (nI 340) _ = _
      unfold f_X5_copy_kept_row_B41
      rw [if_pos (show (340 : Int32) ≤ nI 340 by decide)]
    | succ m ih =>
      intro i F hi hF
      obtain ⟨F, rfl⟩ : ∃ n, F = n + 1 := ⟨F - 1, by omega⟩
      show f_X5_copy_kept_row_B41 (f_X5_copy_kept_row_41 F) (nI x) (nI y) (nI i) _ = _
      unfold f_X5_copy_kept_row_B41
      rw [if_neg (show ¬ (340 : Int32) ≤ nI i from nI_ge (b := 340) (by omega) (by decide))]
      simp (disch := omega) only [nI_340, ckI, nI_clamp, MS.setKeys_ac, MS.ck_kept_row, cpyL_s, bnd_s, nI_1]
      exact ih (i + 1) F (by omega) (by omega)
  have k1 : ∀ (m i F : Nat), i + m = 2250 → m < F → f_X5_copy_kept_row_3 F (nI x) (nI y) (nI i) (uv.setRow (va_cpy uv.kept uv.row (2250 * x) (2250 * y) i)) = some ((uv.setRow (va_cpy uv.kept uv.row (2250 * x) (2250 * y) 2250)).setKeys (va_cpy uv.keptKeys uv.keys (340 * x) (340 * y) 340)) := by
    intro m
    induction m with
    | zero =>
      intro i F hi hF
      obtain ⟨F, rfl⟩ : ∃ n, F = n + 1 := ⟨F - 1, by omega⟩
      obtain rfl : i = 2250 := by omega
      show f_X5_copy_kept_row_B3 (f_X5_copy_kept_row_3 F) (nI x) (nI y) (nI 2250) _ = _
      unfold f_X5_copy_kept_row_B3
      rw [if_pos (show (2250 : Int32) ≤ nI 2250 by decide)]
      have := k2 (uv.setRow (va_cpy uv.kept uv.row (2250 * x) (2250 * y) 2250)) 340 0 FU (by omega) (by rw [FU_e]; omega)
      simp only [MS.setRow_ac, cpy_0] at this
      have e : (uv.setRow (va_cpy uv.kept uv.row (2250 * x) (2250 * y) 2250)).setKeys uv.keys = uv.setRow (va_cpy uv.kept uv.row (2250 * x) (2250 * y) 2250) := rfl
      rw [e] at this
      exact this
    | succ m ih =>
      intro i F hi hF
      obtain ⟨F, rfl⟩ : ∃ n, F = n + 1 := ⟨F - 1, by omega⟩
      show f_X5_copy_kept_row_B3 (f_X5_copy_kept_row_3 F) (nI x) (nI y) (nI i) _ = _
      unfold f_X5_copy_kept_row_B3
      rw [if_neg (show ¬ (2250 : Int32) ≤ nI i from nI_ge (b := 2250) (by omega) (by decide))]
      simp (disch := omega) only [nI_2250, ckI, nI_clamp, MS.setRow_ac, MS.cc_kept_row, cpy_s, bnd_s, nI_1]
      exact ih (i + 1) F (by omega) (by omega)
  have := k1 2250 0 FU (by omega) (by rw [FU_e]; omega)
  rw [cpy_0] at this
  have e : uv.setRow uv.row = uv := rfl
  rw [e] at this
  exact this

theorem MS.cc_row_aside (u : MS) (a b : Nat → Int32) : (u.setAside a).setAside b = u.setAside b := rfl
theorem MS.ck_row_aside (u : MS) (a b : Nat → Int64) : (u.setAsideKeys a).setAsideKeys b = u.setAsideKeys b := rfl
theorem copy_row_aside {x y : Nat} (hx : 2250 * x + 2250 ≤ 2250) (hy : 2250 * y + 2250 ≤ 2250) (hx2 : 340 * x + 340 ≤ 340) (hy2 : 340 * y + 340 ≤ 340) (uv : MS) : f_X5_copy_row_aside (nI x) (nI y) uv = some ((uv.setAside (va_cpy uv.row uv.aside (2250 * x) (2250 * y) 2250)).setAsideKeys (va_cpy uv.keys uv.asideKeys (340 * x) (340 * y) 340)) := by
  have k2 : ∀ (w : MS) (m i F : Nat), i + m = 340 → m < F → f_X5_copy_row_aside_41 F (nI x) (nI y) (nI i) (w.setAsideKeys (va_cpy w.keys w.asideKeys (340 * x) (340 * y) i)) = some (w.setAsideKeys (va_cpy w.keys w.asideKeys (340 * x) (340 * y) 340)) := by
    intro w m
    induction m with
    | zero =>
      intro i F hi hF
      obtain ⟨F, rfl⟩ : ∃ n, F = n + 1 := ⟨F - 1, by omega⟩
      obtain rfl : i = 340 := by omega
      show f_X5_copy_row_aside_B41 (f_X5_copy_row_aside_41 F) (nI x) (nI y) (nI 340) _ = _
      unfold f_X5_copy_row_aside_B41
      rw [if_pos (show (340 : Int32) ≤ nI 340 by decide)]
    | succ m ih =>
      intro i F hi hF
      obtain ⟨F, rfl⟩ : ∃ n, F = n + 1 := ⟨F - 1, by omega⟩
      show f_X5_copy_row_aside_B41 (f_X5_copy_row_aside_41 F) (nI x) (nI y) (nI i) _ = _
      unfold f_X5_copy_row_aside_B41
      rw [if_neg (show ¬ (340 : Int32) ≤ nI i from nI_ge (b := 340) (by omega) (by decide))]
      simp (disch := omega) only [nI_340, ckI, nI_clamp, MS.setAsideKeys_ac, MS.ck_row_aside, cpyL_s, bnd_s, nI_1]
      exact ih (i + 1) F (by omega) (by omega)
  have k1 : ∀ (m i F : Nat), i + m = 2250 → m < F → f_X5_copy_row_aside_3 F (nI x) (nI y) (nI i) (uv.setAside (va_cpy uv.row uv.aside (2250 * x) (2250 * y) i)) = some ((uv.setAside (va_cpy uv.row uv.aside (2250 * x) (2250 * y) 2250)).setAsideKeys (va_cpy uv.keys uv.asideKeys (340 * x) (340 * y) 340)) := by
    intro m
    induction m with
    | zero =>
      intro i F hi hF
      obtain ⟨F, rfl⟩ : ∃ n, F = n + 1 := ⟨F - 1, by omega⟩
      obtain rfl : i = 2250 := by omega
      show f_X5_copy_row_aside_B3 (f_X5_copy_row_aside_3 F) (nI x) (nI y) (nI 2250) _ = _
      unfold f_X5_copy_row_aside_B3
      rw [if_pos (show (2250 : Int32) ≤ nI 2250 by decide)]
      have := k2 (uv.setAside (va_cpy uv.row uv.aside (2250 * x) (2250 * y) 2250)) 340 0 FU (by omega) (by rw [FU_e]; omega)
      simp only [MS.setAside_ac, cpy_0] at this
      have e : (uv.setAside (va_cpy uv.row uv.aside (2250 * x) (2250 * y) 2250)).setAsideKeys uv.asideKeys = uv.setAside (va_cpy uv.row uv.aside (2250 * x) (2250 * y) 2250) := rfl
      rw [e] at this
      exact this
    | succ m ih =>
      intro i F hi hF
      obtain ⟨F, rfl⟩ : ∃ n, F = n + 1 := ⟨F - 1, by omega⟩
      show f_X5_copy_row_aside_B3 (f_X5_copy_row_aside_3 F) (nI x) (nI y) (nI i) _ = _
      unfold f_X5_copy_row_aside_B3
      rw [if_neg (show ¬ (2250 : Int32) ≤ nI i from nI_ge (b := 2250) (by omega) (by decide))]
      simp (disch := omega) only [nI_2250, ckI, nI_clamp, MS.setAside_ac, MS.cc_row_aside, cpy_s, bnd_s, nI_1]
      exact ih (i + 1) F (by omega) (by omega)
  have := k1 2250 0 FU (by omega) (by rw [FU_e]; omega)
  rw [cpy_0] at this
  have e : uv.setAside uv.aside = uv := rfl
  rw [e] at this
  exact this

theorem MS.cc_aside_row (u : MS) (a b : Nat → Int32) : (u.setRow a).setRow b = u.setRow b := rfl
theorem MS.ck_aside_row (u : MS) (a b : Nat → Int64) : (u.setKeys a).setKeys b = u.setKeys b := rfl
theorem copy_aside_row {x y : Nat} (hx : 2250 * x + 2250 ≤ 2250) (hy : 2250 * y + 2250 ≤ 2250) (hx2 : 340 * x + 340 ≤ 340) (hy2 : 340 * y + 340 ≤ 340) (uv : MS) : f_X5_copy_aside_row (nI x) (nI y) uv = some ((uv.setRow (va_cpy uv.aside uv.row (2250 * x) (2250 * y) 2250)).setKeys (va_cpy uv.asideKeys uv.keys (340 * x) (340 * y) 340)) := by
  have k2 : ∀ (w : MS) (m i F : Nat), i + m = 340 → m < F → f_X5_copy_aside_row_41 F (nI x) (nI y) (nI i) (w.setKeys (va_cpy w.asideKeys w.keys (340 * x) (340 * y) i)) = some (w.setKeys (va_cpy w.asideKeys w.keys (340 * x) (340 * y) 340)) := by
    intro w m
    induction m with
    | zero =>
      intro i F hi hF
      obtain ⟨F, rfl⟩ : ∃ n, F = n + 1 := ⟨F - 1, by omega⟩
      obtain rfl : i = 340 := by omega
      show f_X5_copy_aside_row_B41 (f_X5_copy_aside_row_41 F) (nI x) (nI y) (nI 340) _ = _
      unfold f_X5_copy_aside_row_B41
      rw [if_pos (show (340 : Int32) ≤ nI 340 by decide)]
    | succ m ih =>
      intro i F hi hF
      obtain ⟨F, rfl⟩ : ∃ n, F = n + 1 := ⟨F - 1, by omega⟩
      show f_X5_copy_aside_row_B41 (f_X5_copy_aside_row_41 F) (nI x) (nI y) (nI i) _ = _
      unfold f_X5_copy_aside_row_B41
      rw [if_neg (show ¬ (340 : Int32) ≤ nI i from nI_ge (b := 340) (by omega) (by decide))]
      simp (disch := omega) only [nI_340, ckI, nI_clamp, MS.setKeys_ac, MS.ck_aside_row, cpyL_s, bnd_s, nI_1]
      exact ih (i + 1) F (by omega) (by omega)
  have k1 : ∀ (m i F : Nat), i + m = 2250 → m < F → f_X5_copy_aside_row_3 F (nI x) (nI y) (nI i) (uv.setRow (va_cpy uv.aside uv.row (2250 * x) (2250 * y) i)) = some ((uv.setRow (va_cpy uv.aside uv.row (2250 * x) (2250 * y) 2250)).setKeys (va_cpy uv.asideKeys uv.keys (340 * x) (340 * y) 340)) := by
    intro m
    induction m with
    | zero =>
      intro i F hi hF
      obtain ⟨F, rfl⟩ : ∃ n, F = n + 1 := ⟨F - 1, by omega⟩
      obtain rfl : i = 2250 := by omega
      show f_X5_copy_aside_row_B3 (f_X5_copy_aside_row_3 F) (nI x) (nI y) (nI 2250) _ = _
      unfold f_X5_copy_aside_row_B3
      rw [if_pos (show (2250 : Int32) ≤ nI 2250 by decide)]
      have := k2 (uv.setRow (va_cpy uv.aside uv.row (2250 * x) (2250 * y) 2250)) 340 0 FU (by omega) (by rw [FU_e]; omega)
      simp only [MS.setRow_ac, cpy_0] at this
      have e : (uv.setRow (va_cpy uv.aside uv.row (2250 * x) (2250 * y) 2250)).setKeys uv.keys = uv.setRow (va_cpy uv.aside uv.row (2250 * x) (2250 * y) 2250) := rfl
      rw [e] at this
      exact this
    | succ m ih =>
      intro i F hi hF
      obtain ⟨F, rfl⟩ : ∃ n, F = n + 1 := ⟨F - 1, by omega⟩
      show f_X5_copy_aside_row_B3 (f_X5_copy_aside_row_3 F) (nI x) (nI y) (nI i) _ = _
      unfold f_X5_copy_aside_row_B3
      rw [if_neg (show ¬ (2250 : Int32) ≤ nI i from nI_ge (b := 2250) (by omega) (by decide))]
      simp (disch := omega) only [nI_2250, ckI, nI_clamp, MS.setRow_ac, MS.cc_aside_row, cpy_s, bnd_s, nI_1]
      exact ih (i + 1) F (by omega) (by omega)
  have := k1 2250 0 FU (by omega) (by rw [FU_e]; omega)
  rw [cpy_0] at this
  have e : uv.setRow uv.row = uv := rfl
  rw [e] at this
  exact this
