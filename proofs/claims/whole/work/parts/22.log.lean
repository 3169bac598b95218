variable {O : Int32}
/-! dispatched and logged -/
def LogR (B : Nat) (u : HS) (row : Nat → Int32) (keys : Nat → Int64) : Prop := ∃ l m, l ≤ B ∧ m = min l 40 ∧ u.logged = nI l ∧ row 2 = nI m ∧ ∀ k, k < m → row (70 + 2 * k) = u.logItem ((l - m + k) % 40) ∧ row (70 + 2 * k + 1) = u.logDesk ((l - m + k) % 40) ∧ keys (300 + k) = u.logKey ((l - m + k) % 40)
theorem LogR.fr {B : Nat} {u u' : HS} {uv uv' : MS} (h : LogR B u uv.row uv.keys) (f : FR u u' uv uv') : LogR B u' uv'.row uv'.keys := by
  obtain ⟨a1, a2, a3, a4, a5, a6, a7, a8, a9, a10, a11⟩ := f
  obtain ⟨l, m, h1, h2, h3, h4, h5⟩ := h
  refine ⟨l, m, h1, h2, by rw [a3]; exact h3, by rw [a10 2 (by omega) (by omega)]; exact h4, fun k hk => ?_⟩
  rw [a4, a5, a6, a10 _ (by omega) (by omega), a10 _ (by omega) (by omega), a11 _ (by omega)]
  exact h5 k hk
theorem LogR.mono {B B' : Nat} {u : HS} {row : Nat → Int32} {keys : Nat → Int64} (h : LogR B u row keys) (hB : B ≤ B') : LogR B' u row keys := by
  obtain ⟨l, m, h1, h2⟩ := h
  exact ⟨l, m, by omega, h2⟩
def shR (row : Nat → Int32) (k : Nat) : Nat → Int32 := fun q => if 70 ≤ q ∧ q < 70 + 2 * k then row (q + 2) else row q
def shK (keys : Nat → Int64) (k : Nat) : Nat → Int64 := fun q => if 300 ≤ q ∧ q < 300 + k then keys (q + 1) else keys q
theorem shR_s (row : Nat → Int32) (k : Nat) : upd (upd (shR row k) (70 + 2 * k) (shR row k (70 + 2 * k + 2))) (70 + 2 * k + 1) (upd (shR row k) (70 + 2 * k) (shR row k (70 + 2 * k + 2)) (70 + 2 * k + 3)) = shR row (k + 1) := by
  funext q
  by_cases e1 : q = 70 + 2 * k + 1
  · subst e1
    rw [pk_us, pk_un (by omega)]
    unfold shR
    rw [if_neg (by omega), if_pos (by omega)]
  · rw [pk_un e1]
    by_cases e2 : q = 70 + 2 * k
    · subst e2
      rw [pk_us]
      unfold shR
      rw [if_neg (by omega), if_pos (by omega)]
    · rw [pk_un e2]
      unfold shR
      by_cases e3 : 70 ≤ q ∧ q < 70 + 2 * k
      · rw [if_pos e3, if_pos (by omega)]
      · rw [if_neg e3, if_neg (by omega)]
theorem shK_s (keys : Nat → Int64) (k : Nat) : vp_updL (shK keys k) (300 + k) (shK keys k (300 + k + 1)) = shK keys (k + 1) := by
  funext q
  by_cases e1 : q = 300 + k
  · subst e1
    rw [pk_uLs]
    unfold shK
    rw [if_neg (by omega), if_pos (by omega)]
  · rw [pk_uLn e1]
    unfold shK
    by_cases e3 : 300 ≤ q ∧ q < 300 + k
    · rw [if_pos e3, if_pos (by omega)]
    · rw [if_neg e3, if_neg (by omega)]
theorem MS.rk_1 (u : MS) (a b : Nat → Int32) (k : Nat → Int64) : ((u.setRow a).setKeys k).setRow b = (u.setRow b).setKeys k := rfl
theorem MS.rk_2 (u : MS) (a : Nat → Int32) (k l : Nat → Int64) : ((u.setRow a).setKeys k).setKeys l = (u.setRow a).setKeys l := rfl
theorem nI_70 (k : Nat) : (70 : Int32) + 2 * nI k = nI (70 + 2 * k) := by
  rw [show (70 : Int32) = nI 70 from rfl, show (2 : Int32) = nI 2 from rfl, pk_mul, nI_add]
theorem nI_300 (k : Nat) : (300 : Int32) + nI k = nI (300 + k) := nI_add 300 k
theorem disp29 {x : Nat} {d : Int32} (v : MS) (h2 : v.row 2 = nI 39) : ∀ (m k F : Nat), k + m = 39 → m < F → f_X5_dispatch_29 F d (nI x) (nI k) ((v.setRow (shR v.row k)).setKeys (shK v.keys k)) = f_X5_dispatch_117 d (nI x) ((v.setRow (shR v.row 39)).setKeys (shK v.keys 39)) := by
  have r2 : ∀ k, shR v.row k 2 = nI 39 := fun k => by unfold shR; rw [if_neg (by omega)]; exact h2
  intro m
  induction m with
  | zero =>
    intro k F hk hF
    obtain ⟨F, rfl⟩ : ∃ n, F = n + 1 := ⟨F - 1, by omega⟩
    obtain rfl : k = 39 := by omega
    show f_X5_dispatch_B29 (f_X5_dispatch_29 F) d (nI x) (nI 39) _ = _
    unfold f_X5_dispatch_B29
    simp only [ck_2, cn_2, MS.setKeys_ac, MS.setRow_ac, r2]
    rw [if_pos (Int32.le_refl _)]
  | succ m ih =>
    intro k F hk hF
    obtain ⟨F, rfl⟩ : ∃ n, F = n + 1 := ⟨F - 1, by omega⟩
    show f_X5_dispatch_B29 (f_X5_dispatch_29 F) d (nI x) (nI k) _ = _
    unfold f_X5_dispatch_B29
    simp only [ck_2, cn_2, MS.setKeys_ac, MS.setRow_ac, r2]
    rw [if_neg (nI_ge (by omega) (by omega))]
    simp (disch := omega) only [nI_70, nI_300, nI_p1, nI_p2, nI_p3, ckI, nI_clamp, MS.setKeys_ac, MS.setRow_ac, bnd_s, nI_1, MS.rk_1, MS.rk_2, shR_s, shK_s]
    exact ih (k + 1) F (by omega) (by omega)
/-- the log written, whatever was there -/
theorem disp5 {x B : Nat} {d : Nat} (hd : d < 6) (hx : x < 300) {u : HS} {uv vT : MS} (ht : f_X5_takeRoot (nI d) uv = some (nI x, vT)) (hl : LogR B u vT.row vT.keys) (hB : B < 2 ^ 30) (hk : vT.keys x = u.keyOf x) :
    ∃ (l : Nat) (R : Nat → Int32) (K : Nat → Int64) (v : MS), u.logged = nI l ∧ l ≤ B ∧ v = (vT.setRow (upd R (150 + 7 * x + 1) (-1))).setKeys K ∧ f_X5_dispatch (nI d) uv = (cl1 (f_X5_sweep v) fun w => some (nI x, w)) ∧ (∀ q, q ≠ 2 → (q < 70 ∨ 150 ≤ q) → R q = vT.row q) ∧ (∀ q, q < 300 → K q = vT.keys q) ∧
      ∀ u' : HS, u'.logged = nI (l + 1) → u'.logItem = upd u.logItem (l % 40) (nI x) → u'.logDesk = upd u.logDesk (l % 40) (nI d) → u'.logKey = vp_updL u.logKey (l % 40) (u.keyOf x) → LogR (B + 1) u' R K := by
  obtain ⟨l, m, hlB, hm, hll, h2, hh⟩ := hl
  -- the last steps
  have e117 : ∀ (v : MS) (n : Nat), n < 40 → v.row 2 = nI n → v.keys x = u.keyOf x → f_X5_dispatch_117 (nI d) (nI x) v = (cl1 (f_X5_sweep ((v.setRow (upd (upd (upd (upd v.row (70 + 2 * n) (nI x)) (70 + 2 * n + 1) (nI d)) 2 (nI (n + 1))) (150 + 7 * x + 1) (-1))).setKeys (vp_updL v.keys (300 + n) (u.keyOf x)))) fun w => some (nI x, w)) := by
    intro v n hn hv hvk
    unfold f_X5_dispatch_117
    have e2 : upd (upd v.row (70 + 2 * n) (nI x)) (70 + 2 * n + 1) (nI d) 2 = nI n := by rw [pk_un (by omega), pk_un (by omega)]; exact hv
    have e3 : ∀ (k : Nat → Int64) (a b : Nat → Int32), ((v.setRow a).setKeys k).setRow b = (v.setRow b).setKeys k := fun k a b => MS.rk_1 v a b k
    simp (disch := omega) only [ck_2, cn_2, hv, nI_70, nI_300, nI_p1, ckI, nI_clamp, MS.setKeys_ac, MS.setRow_ac, MS.setRow2, hvk, e2, nI_1, MS.rk_1, goes5, cl1_s]
  unfold f_X5_dispatch
  rw [ht]
  simp only [cl2_s, ck_2, cn_2, h2]
  by_cases q : l < 40
  · have hm2 : m = l := by omega
    subst hm2
    rw [if_neg (fun e => by have := nI_inj (j := 40) (by omega) (by omega) e; omega), e117 vT m q h2 hk]
    refine ⟨m, _, _, _, hll, hlB, rfl, rfl, fun p hp hp2 => ?_, fun p hp => ?_, fun u' a1 a2 a3 a4 => ⟨m + 1, m + 1, by omega, by omega, a1, ?_, fun k hk => ?_⟩⟩
    · rw [pk_un hp, pk_un (by omega), pk_un (by omega)]
    · rw [pk_uLn (by omega)]
    · exact pk_us
    · rw [a2, a3, a4, pk_un (show 70 + 2 * k ≠ 2 by omega), pk_un (show 70 + 2 * k + 1 ≠ 2 by omega), pk_un (show 70 + 2 * k ≠ 70 + 2 * m + 1 by omega)]
      by_cases e : k = m
      · subst e
        have em : (k + 1 - (k + 1) + k) % 40 = k % 40 := by omega
        rw [em, pk_us, pk_us, pk_us, pk_us, pk_uLs, pk_uLs]
        exact ⟨rfl, rfl, rfl⟩
      · have em : (m + 1 - (m + 1) + k) % 40 = (m - m + k) % 40 := by omega
        have ne : (m - m + k) % 40 ≠ m % 40 := by omega
        rw [em, pk_un (show 70 + 2 * k ≠ 70 + 2 * m by omega), pk_un (show 70 + 2 * k + 1 ≠ 70 + 2 * m + 1 by omega), pk_un (show 70 + 2 * k + 1 ≠ 70 + 2 * m by omega), pk_uLn (show 300 + k ≠ 300 + m by omega), pk_un ne, pk_un ne, pk_uLn ne]
        exact hh k (by omega)
  · have hm2 : m = 40 := by omega
    subst hm2
    rw [if_pos (show nI 40 = 40 from rfl)]
    have e39 : nI 40 - 1 = nI 39 := nI_pred 39
    obtain ⟨v0, hv0⟩ : ∃ v, v = vT.setRow (upd vT.row 2 (nI 39)) := ⟨_, rfl⟩
    obtain ⟨bz, br, bk, bs, bw⟩ := MS.srow vT (upd vT.row 2 (nI 39))
    rw [← hv0] at bz br bk bs bw
    rw [e39, ← hv0]
    have r2 : v0.row 2 = nI 39 := by rw [br]; exact pk_us
    have e0 : v0 = (v0.setRow (shR v0.row 0)).setKeys (shK v0.keys 0) := by
      have a : shR v0.row 0 = v0.row := by funext q; unfold shR; rw [if_neg (by omega)]
      have b : shK v0.keys 0 = v0.keys := by funext q; unfold shK; rw [if_neg (by omega)]
      rw [a, b]; rfl
    have e29 := disp29 (x := x) (d := nI d) v0 r2 39 0 FU (by omega) (by rw [FU_e]; omega)
    rw [← e0] at e29
    have z0 : nI 0 = 0 := rfl
    rw [z0] at e29
    rw [e29]
    obtain ⟨v1, hv1⟩ : ∃ v, v = (v0.setRow (shR v0.row 39)).setKeys (shK v0.keys 39) := ⟨_, rfl⟩
    rw [← hv1]
    have r1 : v1.row = shR v0.row 39 := by rw [hv1]; simp only [MS.setKeys_ac, MS.setRow_ac]
    have k1 : v1.keys = shK v0.keys 39 := by rw [hv1]; simp only [MS.setKeys_ac]
    rw [e117 v1 39 (by omega) (by rw [r1]; unfold shR; rw [if_neg (by omega)]; exact r2) (by rw [k1]; unfold shK; rw [if_neg (by omega), bk]; exact hk)]
    have es : ∀ (a : Nat → Int32) (b : Nat → Int64), (v1.setRow a).setKeys b = (vT.setRow a).setKeys b := fun a b => by rw [hv1, MS.rk_1, MS.rk_2, hv0, MS.setRow2]
    have rT : ∀ q, q ≠ 2 → v0.row q = vT.row q := fun q hq => by rw [br]; exact pk_un hq
    rw [es]
    refine ⟨l, _, _, _, hll, hlB, rfl, rfl, fun p hp hp2 => ?_, fun p hp => ?_, fun u' a1 a2 a3 a4 => ⟨l + 1, 40, by omega, by omega, a1, ?_, fun k hk => ?_⟩⟩
    · rw [pk_un hp, pk_un (by omega), pk_un (by omega), r1]
      unfold shR
      rw [if_neg (by omega)]; exact rT p hp
    · rw [pk_uLn (by omega), k1]
      unfold shK
      rw [if_neg (by omega), bk]
    · exact pk_us
    · rw [a2, a3, a4, pk_un (show 70 + 2 * k ≠ 2 by omega), pk_un (show 70 + 2 * k + 1 ≠ 2 by omega), pk_un (show 70 + 2 * k ≠ 70 + 2 * 39 + 1 by omega)]
      by_cases e : k = 39
      · subst e
        have em : (l + 1 - 40 + 39) % 40 = l % 40 := by omega
        rw [em, pk_us, pk_us, pk_us, pk_us, pk_uLs, pk_uLs]
        exact ⟨rfl, rfl, rfl⟩
      · have em : (l + 1 - 40 + k) % 40 = (l - 40 + (k + 1)) % 40 := by omega
        have ne : (l - 40 + (k + 1)) % 40 ≠ l % 40 := by omega
        obtain ⟨g1, g2, g3⟩ := hh (k + 1) (by omega)
        rw [em, pk_un (show 70 + 2 * k ≠ 70 + 2 * 39 by omega), pk_un (show 70 + 2 * k + 1 ≠ 70 + 2 * 39 + 1 by omega), pk_un (show 70 + 2 * k + 1 ≠ 70 + 2 * 39 by omega), pk_uLn (show 300 + k ≠ 300 + 39 by omega), pk_un ne, pk_un ne, pk_uLn ne, r1, k1]
        unfold shR shK
        rw [if_pos (by omega), if_pos (by omega), if_pos (by omega), rT _ (by omega), rT _ (by omega), bk]
        have x1 : 70 + 2 * k + 2 = 70 + 2 * (k + 1) := by omega
        have x2 : 70 + 2 * k + 1 + 2 = 70 + 2 * (k + 1) + 1 := by omega
        have x3 : 300 + k + 1 = 300 + (k + 1) := by omega
        rw [x1, x2, x3]
        exact ⟨g1, g2, g3⟩
