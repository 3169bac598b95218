/-! seek: the two least trees -/
theorem fillInto : ∀ (m k F : Nat) (us : SS), k + m = 8 → m < F → ∃ f : Nat → Int32, f_fill_into_5 F (-1) (nI k) 8 us = some (us.setInto f) ∧ (∀ i, k ≤ i → i < 8 → f i = -1) := by
  intro m
  induction m with
  | zero =>
    intro k F us hk hF
    obtain ⟨F, rfl⟩ : ∃ n, F = n + 1 := ⟨F - 1, by omega⟩
    obtain rfl : k = 8 := by omega
    refine ⟨us.into, ?_, fun i h1 h2 => by omega⟩
    show f_fill_into_B5 (f_fill_into_5 F) (-1) (nI 8) 8 us = _
    unfold f_fill_into_B5
    rw [if_pos (by decide)]; rfl
  | succ m ih =>
    intro k F us hk hF
    obtain ⟨F, rfl⟩ : ∃ n, F = n + 1 := ⟨F - 1, by omega⟩
    have c0 : f_fill_into_5 (F + 1) (-1) (nI k) 8 us = f_fill_into_5 F (-1) (nI (k + 1)) 8 (us.setInto (upd us.into k (-1))) := by
      show f_fill_into_B5 (f_fill_into_5 F) (-1) (nI k) 8 us = _
      unfold f_fill_into_B5
      rw [if_neg (ge8 (by omega))]
      simp (disch := omega) only [ckI, nI_clamp, bnd_s, nI_1]
    obtain ⟨f, f0, f1⟩ := ih (k + 1) F (us.setInto (upd us.into k (-1))) (by omega) (by omega)
    refine ⟨fun i => if i = k then -1 else f i, ?_, fun i h1 h2 => ?_⟩
    · rw [c0, f0]
      have ff : ∀ F' : Nat, ∀ j : Nat, k < j → j ≤ 8 → 8 - j < F' → ∀ v : SS, v.into k = -1 → ∀ g, f_fill_into_5 F' (-1) (nI j) 8 v = some (v.setInto g) → g k = -1 := by
        intro F'
        induction F' with
        | zero => intro j _ _ h; omega
        | succ F' ih2 =>
          intro j h1 h2 h3 v hv g hg
          have hg' : f_fill_into_B5 (f_fill_into_5 F') (-1) (nI j) 8 v = some (v.setInto g) := hg
          unfold f_fill_into_B5 at hg'
          by_cases e : j = 8
          · rw [e, if_pos (by decide)] at hg'
            have q : v = v.setInto g := Option.some.inj hg'
            have q2 : v.into = g := congrArg SS.into q
            rw [← q2]; exact hv
          · rw [if_neg (ge8 (by omega))] at hg'
            simp (disch := omega) only [ckI, nI_clamp, bnd_s, nI_1] at hg'
            exact ih2 (j + 1) (by omega) (by omega) (by omega) (v.setInto (upd v.into j (-1))) (by show upd v.into j (-1) k = -1; rw [pk_un (by omega)]; exact hv) g hg'
      have fk : f k = -1 := ff F (k + 1) (by omega) (by omega) (by omega) _ (by show upd us.into k (-1) k = -1; exact pk_us) f f0
      have fe : (fun i => if i = k then -1 else f i) = f := by
        funext i
        by_cases e : i = k
        · rw [if_pos e, e, fk]
        · rw [if_neg e]
      rw [fe]; rfl
    · by_cases e : i = k
      · show (if i = k then -1 else f i) = -1
        rw [if_pos e]
      · show (if i = k then -1 else f i) = -1
        rw [if_neg e]; exact f1 i (by omega) h2
theorem NO_l : (9223372036854775807 : Int64) = lN NO := by decide +kernel
theorem SS.start_e (us : SS) (a b d : Int32) (e : Int64) (f : Nat → Int32) (S : Int32) (v : SS) (h : v = ((((((us.setRoot a).setBanned b).setForced d).setFirst e).setNext e).setInto f).setReach S) : v.into = f ∧ v.root = a ∧ v.banned = b ∧ v.forced = d ∧ v.reach = S ∧ v.first = e ∧ v.next = e := by
  subst h; exact ⟨rfl, rfl, rfl, rfl, rfl, rfl, rfl⟩
theorem SS.start2 (us : SS) (a b d : Int32) (e : Int64) (f : Nat → Int32) : (((((us.setRoot a).setBanned b).setForced d).setFirst e).setNext e).setInto f = (((((us.setRoot a).setBanned b).setForced d).setFirst e).setNext e).setInto f ∧ ((((((us.setRoot a).setBanned b).setForced d).setFirst e).setNext e).setInto f).root = a ∧ ((((((us.setRoot a).setBanned b).setForced d).setFirst e).setNext e).setInto f).banned = b := ⟨rfl, rfl, rfl⟩
theorem seek_ok {un : NS} (hN : NG un) {bn fo : Int32} (hfo : fo = -1 ∨ ∃ c, c < 20 ∧ fo = nI c) {r : Nat} (hr : r < 8) (us : SS) :
    ∃ (us' : SS) (f n : Nat), f_X3_seek (nI r) bn fo un us = some us' ∧ us'.reach = rch un bn r ∧ us'.first = lN f ∧ us'.next = lN n ∧ T2 un (GT un bn fo r (rch un bn r)) f n := by
  unfold f_X3_seek
  simp only [bnd_s]
  obtain ⟨f, f0, f1⟩ := fillInto 8 0 FU (((((us.setRoot (nI r)).setBanned bn).setForced fo).setFirst 9223372036854775807).setNext 9223372036854775807) (by omega) (by rw [FU_e]; omega)
  have f0' : f_fill_into (-1) (((((us.setRoot (nI r)).setBanned bn).setForced fo).setFirst 9223372036854775807).setNext 9223372036854775807) = some ((((((us.setRoot (nI r)).setBanned bn).setForced fo).setFirst 9223372036854775807).setNext 9223372036854775807).setInto f) := f0
  rw [f0', cl1_s]
  obtain ⟨-, x1, x2⟩ := SS.start2 us (nI r) bn fo 9223372036854775807 f
  have rc := reach_cls hN x1
  rw [x2] at rc
  rw [rc, cl1_s]
  obtain ⟨v, hv⟩ : ∃ v, v = ((((((us.setRoot (nI r)).setBanned bn).setForced fo).setFirst 9223372036854775807).setNext 9223372036854775807).setInto f).setReach (rch un bn r) := ⟨_, rfl⟩
  obtain ⟨v1, v2, v3, v4, v5, v6, v7⟩ := SS.start_e _ _ _ _ _ _ _ _ hv
  rw [← hv]
  rw [NO_l] at v6 v7
  obtain ⟨us', f', n', g0, g1, g2, g3, g4, g5⟩ := choose_ok hN hfo hr 9 0 v (fun _ => -1) NO NO (fun _ => False) (by omega) (by omega) ⟨v2, v3, v4, v5⟩ (fun x hx => by rw [v1]; exact f1 x (by omega) hx) v6 v7 ⟨Or.inl rfl, Or.inl rfl, Or.inr ⟨rfl, rfl⟩, fun b hb => hb.elim, Nat.le_refl _, Nat.le_refl _⟩ (fun b hb => hb.elim) ⟨fun p hp => absurd hp (Nat.not_lt_zero p), fun _ _ _ => rfl, fun q hq => absurd hq (Nat.not_lt_zero q), fun p a hp => absurd hp (Nat.not_lt_zero p)⟩ (fun b _ _ h => h)
  have c00 : Ck un (fun _ => -1) 0 = 0 := rfl
  have b00 : Bk (fun _ => -1) 0 = 0 := rfl
  have w0 : Wk un (fun _ => -1) 0 = 0 := by unfold Wk; rw [c00, b00]
  have l0 : lN 0 = 0 := by decide +kernel
  have n0 : nI 0 = 0 := rfl
  rw [w0, l0, n0] at g0
  rw [g0, cl1_s]
  exact ⟨us', f', n', rfl, g1.2.2.2, g3, g4, g5.cg (fun b => ⟨fun z => z.elim False.elim (fun y => y.1), fun z => Or.inr ⟨z, fun p hp => absurd hp (Nat.not_lt_zero p)⟩⟩)⟩
