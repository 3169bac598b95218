/-! the class' recursion -/
section
variable {un : NS} {bn fo : Int32} {r : Nat} {S : Int32}
theorem SS.into_e (u : SS) (f : Nat → Int32) (v : SS) (h : v = u.setInto f) : v.into = f ∧ v.root = u.root ∧ v.banned = u.banned ∧ v.forced = u.forced ∧ v.reach = u.reach ∧ v.first = u.first ∧ v.next = u.next := by
  subst h; exact ⟨rfl, rfl, rfl, rfl, rfl, rfl, rfl⟩
theorem SS.fn_e (u : SS) (f n : Int64) (v : SS) (h : v = (u.setNext n).setFirst f) : v.into = u.into ∧ v.root = u.root ∧ v.banned = u.banned ∧ v.forced = u.forced ∧ v.reach = u.reach ∧ v.first = f ∧ v.next = n := by
  subst h; exact ⟨rfl, rfl, rfl, rfl, rfl, rfl, rfl⟩
theorem SS.nx_e (u : SS) (n : Int64) (v : SS) (h : v = u.setNext n) : v.into = u.into ∧ v.root = u.root ∧ v.banned = u.banned ∧ v.forced = u.forced ∧ v.reach = u.reach ∧ v.first = u.first ∧ v.next = n := by
  subst h; exact ⟨rfl, rfl, rfl, rfl, rfl, rfl, rfl⟩
theorem Ht.x {k : Nat} {t : Nat → Int32} (h : Ht un bn fo r S k t) : ∀ x, x < 8 → t x = -1 ∨ ∃ a, a < 20 ∧ t x = nI a ∧ un.frm a ≠ -1 := by
  intro x hx
  by_cases q : x < k
  · exact (h.1.at q).imp id (fun ⟨a, a1, a2, a3⟩ => ⟨a, a1, a2, (lv_i.mp (okb_i.mp a3).1).1⟩)
  · exact Or.inl (h.2.1 x (by omega) hx)
theorem cut_cg {b t : Nat → Int32} {q : Nat} (e : ∀ p, p < q → b p = t p) : cut b q = cut t q := by
  funext x
  unfold cut
  by_cases w : x < q
  · rw [if_pos w, if_pos w, e x w]
  · rw [if_neg w, if_neg w]
theorem cut_ht {k : Nat} {t : Nat → Int32} (h : Ht un bn fo r S k t) : ∀ x, x < 8 → cut t k x = t x := by
  intro x hx
  unfold cut
  by_cases w : x < k
  · rw [if_pos w]
  · rw [if_neg w, h.2.1 x (by omega) hx]
theorem pr_x (hN : NG un) {t : Nat → Int32} (hx : ∀ x, x < 8 → t x = -1 ∨ ∃ a, a < 20 ∧ t x = nI a ∧ un.frm a ≠ -1) : ∀ x, x < 8 → t x ≠ -1 → pr un t x < 8 := by
  intro x h8 hn
  obtain ⟨a, a1, a2, a3⟩ := (hx x h8).resolve_left hn
  unfold pr
  rw [a2, nI_clamp (by omega)]
  exact (hN.at a1 a3).1
/-- a choice that goes on from t by the arc a -/
theorem GT.may (hN : NG un) {k a : Nat} {t b : Nat → Int32} (h : Ht un bn fo r S k t) (hk : k < 8) (ha : a < 20) (hg : GT un bn fo r S b) (hb : ∀ p, p < k → b p = t p) (hba : b k = nI a) : okb un bn S k a = true ∧ fok un fo k a = true ∧ cr un t k 8 (pf un a) = false := by
  obtain ⟨⟨g1, g2⟩, g3⟩ := hg
  have nz : b k ≠ -1 := by rw [hba]; exact nI_nm1 (by omega)
  obtain ⟨-, a', a1, a2, a3⟩ := g1.arc hk nz
  have e : a' = a := nI_inj (by omega) (by omega) (a2.symm.trans hba)
  rw [e] at a3
  refine ⟨a3, g3 k a hk ha hba, ?_⟩
  have z := g2 k hk nz
  have pe : pr un b k = pf un a := by unfold pr; rw [hba, nI_clamp (by omega)]
  obtain ⟨p1, -⟩ := hN.at ha (lv_i.mp (okb_i.mp a3).1).1
  rw [pe, cut_cg hb] at z
  rw [← z]
  exact (cr_cg (cut_ht h) (fun x h8 hn => by
    have : pr un (cut t k) x = pr un t x := by unfold pr; rw [cut_ht h x h8]
    rw [this]; exact pr_x hN h.x x h8 (by rw [← cut_ht h x h8]; exact hn)) k 8 _ p1).symm
theorem Ht.step (hN : NG un) {k a : Nat} {t : Nat → Int32} (h : Ht un bn fo r S k t) (hk : k < 8) (ha : a < 20) (hac : act r S k = true) (hm : okb un bn S k a = true ∧ fok un fo k a = true ∧ cr un t k 8 (pf un a) = false) : Ht un bn fo r S (k + 1) (upd t k (nI a)) := by
  obtain ⟨m1, m2, m3⟩ := hm
  have hx := h.x
  have hcut := cut_ht h
  obtain ⟨h1, h2, h3, h4⟩ := h
  refine ⟨fun p hp => ?_, fun p q1 q2 => by rw [pk_un (by omega)]; exact h2 p (by omega) q2, fun q hq hn => ?_, fun p a' hp ha' e => ?_⟩
  · by_cases w : p = k
    · subst w
      refine ⟨fun _ => ⟨a, ha, pk_us, m1⟩, fun z => ?_⟩
      rw [hac] at z; cases z
    · rw [pk_un w]; exact h1 p (by omega)
  · by_cases w : q = k
    · subst w
      have ce : cut (upd t q (nI a)) q = cut t q := cut_cg (fun p hp => pk_un (by omega))
      have pe : pr un (upd t q (nI a)) q = pf un a := by unfold pr; rw [pk_us, nI_clamp (by omega)]
      obtain ⟨p1, -⟩ := hN.at ha (lv_i.mp (okb_i.mp m1).1).1
      rw [ce, pe, ← m3]
      exact cr_cg hcut (fun x h8 hn => by
        have : pr un (cut t q) x = pr un t x := by unfold pr; rw [hcut x h8]
        rw [this]; exact pr_x hN hx x h8 (by rw [← hcut x h8]; exact hn)) q 8 _ p1
    · have ce : cut (upd t k (nI a)) q = cut t q := cut_cg (fun p hp => pk_un (by omega))
      have pe : pr un (upd t k (nI a)) q = pr un t q := by unfold pr; rw [pk_un w]
      rw [pk_un w] at hn
      rw [ce, pe]; exact h3 q (by omega) hn
  · by_cases w : p = k
    · subst w
      rw [pk_us] at e
      rw [← nI_inj (by omega) (by omega) e]; exact m2
    · rw [pk_un w] at e; exact h4 p a' (by omega) ha' e
theorem Ht.skip {k : Nat} {t : Nat → Int32} (h : Ht un bn fo r S k t) (hk : k < 8) (hac : act r S k = false) : Ht un bn fo r S (k + 1) t := by
  obtain ⟨h1, h2, h3, h4⟩ := h
  have tk := h2 k (Nat.le_refl _) hk
  refine ⟨fun p hp => ?_, fun p q1 q2 => h2 p (by omega) q2, fun q hq hn => ?_, fun p a' hp ha' e => ?_⟩
  · by_cases w : p = k
    · subst w
      exact ⟨fun z => (by rw [hac] at z; cases z), fun _ => tk⟩
    · exact h1 p (by omega)
  · by_cases w : q = k
    · subst w; exact absurd tk hn
    · exact h3 q (by omega) hn
  · by_cases w : p = k
    · subst w; rw [tk] at e; exact absurd e.symm (nI_nm1 (by omega))
    · exact h4 p a' (by omega) ha' e
theorem Ht.cg {k : Nat} {t t' : Nat → Int32} (h : Ht un bn fo r S k t) (hk : k ≤ 8) (e : ∀ p, p < 8 → t' p = t p) : Ht un bn fo r S k t' := by
  obtain ⟨h1, h2, h3, h4⟩ := h
  refine ⟨h1.cg (fun p hp => e p (by omega)), fun p q1 q2 => by rw [e p q2]; exact h2 p q1 q2, fun q hq hn => ?_, fun p a hp ha w => h4 p a hp ha (by rw [← e p (by omega)]; exact w)⟩
  have pe : pr un t' q = pr un t q := by unfold pr; rw [e q (by omega)]
  rw [cut_cg (fun p hp => e p (by omega)), pe]
  exact h3 q hq (by rw [← e q (by omega)]; exact hn)
theorem Ht.gt {t : Nat → Int32} (h : Ht un bn fo r S 8 t) : GT un bn fo r S t := ⟨⟨h.1, h.2.2.1⟩, h.2.2.2⟩
theorem Wk_s {k a : Nat} {t : Nat → Int32} (ha : a < 20) (e : t k = nI a) : Wk un t (k + 1) = Wk un t k + (ca un a * 1048576 + 2 ^ a) := by
  show (Ck un t k + _) * 1048576 + (Bk t k + _) = _
  unfold Wk
  rw [e, if_neg (nI_nm1 (by omega)), if_neg (nI_nm1 (by omega)), nI_clamp (by omega), Nat.add_mul]; omega
theorem Wk_n {k : Nat} {t : Nat → Int32} (e : t k = -1) : Wk un t (k + 1) = Wk un t k := by
  show (Ck un t k + _) * 1048576 + (Bk t k + _) = _
  unfold Wk
  rw [if_pos e, if_pos e]; omega
/-- the tree at hand is told -/
theorem note {us : SS} {t : Nat → Int32} {f n : Nat} {Y : (Nat → Int32) → Prop} (hN : NG un) (hs : St bn fo r S us) (ht : ∀ x, x < 8 → us.into x = t x) (h1 : us.first = lN f) (h2 : us.next = lN n) (hT : T2 un Y f n) (hY : ∀ b, Y b → GT un bn fo r S b) (hH : Ht un bn fo r S 8 t) (hf : ∀ b, GT un bn fo r S b → (∀ p, p < 8 → b p = t p) → ¬ Y b) (hw : Wk un t 8 < n) :
    ∃ (us' : SS) (f' n' : Nat), f_X3_noteTree (lN (Wk un t 8)) us = some us' ∧ St bn fo r S us' ∧ (∀ x, x < 8 → us'.into x = t x) ∧ us'.first = lN f' ∧ us'.next = lN n' ∧ T2 un (fun b => Y b ∨ (GT un bn fo r S b ∧ ∀ p, p < 8 → b p = t p)) f' n' := by
  have wl := Wk_lt hN (Nat.le_refl 8) hH.1
  obtain ⟨w, hw0⟩ : ∃ w, w = Wk un t 8 := ⟨_, rfl⟩
  have Zw : ∀ b, (GT un bn fo r S b ∧ ∀ p, p < 8 → b p = t p) → Wk un b 8 = w := fun b hb => by rw [hw0]; exact Wk_cg 8 hb.2
  have Zt : GT un bn fo r S t ∧ ∀ p, p < 8 → t p = t p := ⟨hH.gt, fun _ _ => rfl⟩
  rw [← hw0] at hw wl
  rw [← hw0]
  obtain ⟨q1, q2, q3, q4, q5, q6⟩ := hT
  have e61 : (2 : Nat) ^ 61 = 2305843009213693952 := rfl
  have e63 : (2 : Nat) ^ 63 = 9223372036854775808 := rfl
  have nof : f ≤ 9223372036854775807 := q5
  have non : n ≤ 9223372036854775807 := q6
  have wf : w ≠ f := fun e => by
    rcases q1 with z | ⟨b, b1, b2⟩
    · have z' : f = 9223372036854775807 := z
      omega
    · have hb := hY b b1
      have we : Wk un b 8 = Wk un t 8 := by rw [b2, ← e, hw0]
      exact hf b hb (W_inj hb.1.1 hH.gt.1.1 ((W_lex hb.1.1 hH.gt.1.1).2.mp we).2) b1
  obtain ⟨s1, s2, s3, s4⟩ := hs
  unfold f_X3_noteTree
  by_cases c : f ≤ w
  · rw [h1, if_pos ((lN_le' (by omega) (by omega)).mpr c), bnd_s]
    obtain ⟨v, hv⟩ : ∃ v, v = us.setNext (lN w) := ⟨_, rfl⟩
    obtain ⟨v1, v2, v3, v4, v5, v6, v7⟩ := SS.nx_e _ _ _ hv
    rw [← hv]
    refine ⟨v, f, w, rfl, ⟨v2.trans s1, v3.trans s2, v4.trans s3, v5.trans s4⟩, fun x hx => by rw [v1]; exact ht x hx, v6.trans h1, v7, q1.imp id (fun ⟨b, x, y⟩ => ⟨b, Or.inl x, y⟩), Or.inr ⟨t, Or.inr Zt, hw0.symm⟩, Or.inl (by omega), fun b hb => ?_, q5, by show w ≤ 9223372036854775807; omega⟩
    rcases hb with hb | hb
    · exact (q4 b hb).imp id (fun z => by omega)
    · exact Or.inr (by rw [Zw b hb]; exact Nat.le_refl _)
  · rw [h1, if_neg (fun z => c ((lN_le' (by omega) (by omega)).mp z)), bnd_s, bnd_s]
    obtain ⟨v, hv⟩ : ∃ v, v = (us.setNext (lN f)).setFirst (lN w) := ⟨_, rfl⟩
    obtain ⟨v1, v2, v3, v4, v5, v6, v7⟩ := SS.fn_e _ _ _ _ hv
    rw [← hv]
    refine ⟨v, w, f, rfl, ⟨v2.trans s1, v3.trans s2, v4.trans s3, v5.trans s4⟩, fun x hx => by rw [v1]; exact ht x hx, v6, v7, Or.inr ⟨t, Or.inr Zt, hw0.symm⟩, q1.imp id (fun ⟨b, x, y⟩ => ⟨b, Or.inl x, y⟩), Or.inl (by omega), fun b hb => ?_, by show w ≤ 9223372036854775807; omega, q5⟩
    rcases hb with hb | hb
    · right
      rcases q4 b hb with z | z
      · omega
      · rcases q3 with y | ⟨y1, y2⟩
        · omega
        · rw [y1, ← y2]; exact z
    · exact Or.inl (Zw b hb)
theorem choose_ok (hN : NG un) (hfo : fo = -1 ∨ ∃ c, c < 20 ∧ fo = nI c) (hr : r < 8) : ∀ (d k : Nat) (us : SS) (t : Nat → Int32) (f n : Nat) (Y : (Nat → Int32) → Prop), d + k = 9 → k ≤ 8 → St bn fo r S us → (∀ x, x < 8 → us.into x = t x) → us.first = lN f → us.next = lN n → T2 un Y f n → (∀ b, Y b → GT un bn fo r S b) → Ht un bn fo r S k t → (∀ b, GT un bn fo r S b → (∀ p, p < k → b p = t p) → ¬ Y b) →
    ∃ (us' : SS) (f' n' : Nat), f_X3_choose d (nI k) (lN (Wk un t k)) un us = some us' ∧ St bn fo r S us' ∧ (∀ x, x < 8 → us'.into x = t x) ∧ us'.first = lN f' ∧ us'.next = lN n' ∧ T2 un (fun b => Y b ∨ (GT un bn fo r S b ∧ ∀ p, p < k → b p = t p)) f' n' := by
  intro d
  induction d with
  | zero => intro k us t f n Y hd hk; omega
  | succ d ih =>
    intro k us t f n Y hd hk hs ht h1 h2 hT hY hH hf
    have wl := Wk_lt hN hk hH.1
    have e61 : (2 : Nat) ^ 61 = 2305843009213693952 := rfl
    have e63 : (2 : Nat) ^ 63 = 9223372036854775808 := rfl
    have non : n ≤ 9223372036854775807 := hT.2.2.2.2.2
    show ∃ us' f' n', f_X3_choose_E (f_X3_choose d) (nI k) (lN (Wk un t k)) un us = some us' ∧ _
    unfold f_X3_choose_E
    rw [h2]
    by_cases c : Wk un t k < n
    · rw [if_pos ((lN_lt' (by omega) (by omega)).mpr c)]
      by_cases k8 : k = 8
      · subst k8
        rw [if_neg (by decide)]
        obtain ⟨us', f', n', g0, g⟩ := note hN hs ht h1 h2 hT hY hH hf c
        rw [g0, cl1_s]
        exact ⟨us', f', n', rfl, g⟩
      · have hk8 : k < 8 := by omega
        rw [if_pos (show nI k < 8 from (nI_ltI (b := 8) (by omega) (by omega)).mpr hk8)]
        have tk := hH.2.1 k (Nat.le_refl _) hk8
        have skip : act r S k = false → ∃ (us' : SS) (f' n' : Nat), f_X3_choose_38 (f_X3_choose d) un (nI k) (lN (Wk un t k)) us = some us' ∧ St bn fo r S us' ∧ (∀ x, x < 8 → us'.into x = t x) ∧ us'.first = lN f' ∧ us'.next = lN n' ∧ T2 un (fun b => Y b ∨ (GT un bn fo r S b ∧ ∀ p, p < k → b p = t p)) f' n' := by
          intro ha
          have ag : ∀ b, GT un bn fo r S b → ((∀ p, p < k + 1 → b p = t p) ↔ ∀ p, p < k → b p = t p) := fun b hb => ⟨fun z p hp => z p (by omega), fun z p hp => by
            by_cases w : p = k
            · rw [w, tk]; exact (hb.1.1 k hk8).2 ha
            · exact z p (by omega)⟩
          obtain ⟨us', f', n', g0, g1, g2, g3, g4, g5⟩ := ih (k + 1) us t f n Y (by omega) (by omega) hs ht h1 h2 hT hY (hH.skip hk8 ha) (fun b hb z => hf b hb ((ag b hb).mp z))
          rw [Wk_n tk] at g0
          unfold f_X3_choose_38
          rw [nI_1, g0, cl1_s]
          exact ⟨us', f', n', rfl, g1, g2, g3, g4, g5.cg (fun b => or_congr Iff.rfl ⟨fun z => ⟨z.1, (ag b z.1).mp z.2⟩, fun z => ⟨z.1, (ag b z.1).mpr z.2⟩⟩)⟩
        obtain ⟨s1, s2, s3, s4⟩ := hs
        rw [s1]
        by_cases kr : k = r
        · rw [if_pos (by rw [kr])]
          exact skip (Bool.eq_false_iff.mpr (fun w => (act_i.mp w).1 kr))
        · rw [if_neg (fun w => kr (nI_inj (by omega) (by omega) w)), isReached_e s4 (by omega), cl1_s]
          by_cases kb : bt S k = true
          · rw [if_pos kb, if_neg i10]
            have hac : act r S k = true := act_i.mpr ⟨kr, kb⟩
            have lp : ∀ (m a F : Nat) (us : SS) (f n : Nat), a + m = 20 → m < F → St bn fo r S us → (∀ x, x < 8 → us.into x = t x) → us.first = lN f → us.next = lN n → T2 un (fun b => Y b ∨ (GT un bn fo r S b ∧ (∀ p, p < k → b p = t p) ∧ ∃ a', a' < a ∧ b k = nI a')) f n →
                ∃ (us' : SS) (f' n' : Nat), f_X3_choose_50 (f_X3_choose d) un F (nI k) (lN (Wk un t k)) (nI a) us = some us' ∧ St bn fo r S us' ∧ (∀ x, x < 8 → us'.into x = t x) ∧ us'.first = lN f' ∧ us'.next = lN n' ∧ T2 un (fun b => Y b ∨ (GT un bn fo r S b ∧ (∀ p, p < k → b p = t p) ∧ ∃ a', a' < 20 ∧ b k = nI a')) f' n' := by
              intro m
              induction m with
              | zero =>
                intro a F us f n ha hF hs ht h1 h2 hT
                obtain ⟨F, rfl⟩ : ∃ k, F = k + 1 := ⟨F - 1, by omega⟩
                obtain rfl : a = 20 := by omega
                refine ⟨us, f, n, ?_, hs, ht, h1, h2, hT⟩
                show f_X3_choose_B50 (f_X3_choose d) un (f_X3_choose_50 (f_X3_choose d) un F) _ _ (nI 20) us = _
                unfold f_X3_choose_B50
                rw [if_pos (by decide)]
              | succ m ihm =>
                intro a F us f n ha hF hs ht h1 h2 hT
                obtain ⟨F, rfl⟩ : ∃ k, F = k + 1 := ⟨F - 1, by omega⟩
                have a20 : a < 20 := by omega
                show ∃ us' f' n', f_X3_choose_B50 (f_X3_choose d) un (f_X3_choose_50 (f_X3_choose d) un F) (nI k) (lN (Wk un t k)) (nI a) us = some us' ∧ _
                unfold f_X3_choose_B50 f_X3_choose_97
                rw [if_neg (ge20 a20), may hs ht hN hH.x hfo a20 hk8, cl1_s]
                by_cases ml : okb un bn S k a = true ∧ fok un fo k a = true ∧ cr un t k 8 (pf un a) = false
                · rw [if_pos ml, if_neg i10]
                  obtain ⟨u6, hu6⟩ : ∃ v, v = us.setInto (upd us.into k (nI a)) := ⟨_, rfl⟩
                  obtain ⟨v1, v2, v3, v4, v5, v6, v7⟩ := SS.into_e _ _ _ hu6
                  simp (disch := omega) only [ckI, nI_clamp, ← hu6]
                  rw [weightOf_e hN a20 (lv_i.mp (okb_i.mp ml.1).1).1, cl1_s]
                  obtain ⟨t', ht'⟩ : ∃ t', t' = upd t k (nI a) := ⟨_, rfl⟩
                  have t'k : t' k = nI a := by rw [ht']; exact pk_us
                  have t'n : ∀ p, p ≠ k → t' p = t p := fun p hp => by rw [ht']; exact pk_un hp
                  have we : lN (Wk un t k) + lN (ca un a * 1048576 + 2 ^ a) = lN (Wk un t' (k + 1)) := by
                    rw [lN_add, Wk_s a20 t'k, Wk_cg (b := t') (b' := t) k (fun p hp => t'n p (by omega))]
                  have agr : ∀ b : Nat → Int32, (∀ p, p < k + 1 → b p = t' p) ↔ (∀ p, p < k → b p = t p) ∧ b k = nI a := fun b => ⟨fun z => ⟨fun p hp => by rw [z p (by omega), t'n p (by omega)], by rw [z k (by omega), t'k]⟩, fun z p hp => by
                    by_cases w : p = k
                    · rw [w, t'k]; exact z.2
                    · rw [t'n p w]; exact z.1 p (by omega)⟩
                  obtain ⟨u9, f9, n9, g0, g1, g2, g3, g4, g5⟩ := ih (k + 1) u6 t' f n _ (by omega) (by omega) ⟨v2.trans hs.1, v3.trans hs.2.1, v4.trans hs.2.2.1, v5.trans hs.2.2.2⟩ (fun x hx => by
                    rw [v1]
                    by_cases w : x = k
                    · rw [w, pk_us, t'k]
                    · rw [pk_un w, t'n x w]; exact ht x hx) (v6.trans h1) (v7.trans h2) hT (fun b hb => hb.elim (hY b) (fun z => z.1)) (by rw [ht']; exact hH.step hN hk8 a20 hac ml) (fun b hb z hy => by
                    obtain ⟨z1, z2⟩ := (agr b).mp z
                    rcases hy with y | ⟨-, -, a', y1, y2⟩
                    · exact hf b hb z1 y
                    · have := nI_inj (by omega) (by omega) (y2.symm.trans z2)
                      omega)
                  rw [nI_1, we, g0, cl1_s]
                  obtain ⟨u11, hu11⟩ : ∃ v, v = u9.setInto (upd u9.into k (-1)) := ⟨_, rfl⟩
                  obtain ⟨w1, w2, w3, w4, w5, w6, w7⟩ := SS.into_e _ _ _ hu11
                  simp (disch := omega) only [← hu11, bnd_s, nI_1]
                  refine ihm (a + 1) F u11 f9 n9 (by omega) (by omega) ⟨w2.trans g1.1, w3.trans g1.2.1, w4.trans g1.2.2.1, w5.trans g1.2.2.2⟩ (fun x hx => ?_) (w6.trans g3) (w7.trans g4) (g5.cg (fun b => ?_))
                  · rw [w1]
                    by_cases w : x = k
                    · rw [w, pk_us, tk]
                    · rw [pk_un w, g2 x hx, t'n x w]
                  · rw [agr b]
                    constructor
                    · rintro ((y | ⟨y1, y2, a', y3, y4⟩) | ⟨y1, y2, y3⟩)
                      · exact Or.inl y
                      · exact Or.inr ⟨y1, y2, a', by omega, y4⟩
                      · exact Or.inr ⟨y1, y2, a, by omega, y3⟩
                    · rintro (y | ⟨y1, y2, a', y3, y4⟩)
                      · exact Or.inl (Or.inl y)
                      · by_cases w : a' = a
                        · exact Or.inr ⟨y1, y2, by rw [← w]; exact y4⟩
                        · exact Or.inl (Or.inr ⟨y1, y2, a', by omega, y4⟩)
                · rw [if_neg ml, if_pos rfl, bnd_s, nI_1]
                  refine ihm (a + 1) F us f n (by omega) (by omega) hs ht h1 h2 (hT.cg (fun b => ?_))
                  constructor
                  · rintro (y | ⟨y1, y2, a', y3, y4⟩)
                    · exact Or.inl y
                    · exact Or.inr ⟨y1, y2, a', by omega, y4⟩
                  · rintro (y | ⟨y1, y2, a', y3, y4⟩)
                    · exact Or.inl y
                    · by_cases w : a' = a
                      · exact absurd (GT.may hN hH hk8 a20 y1 y2 (by rw [← w]; exact y4)) ml
                      · exact Or.inr ⟨y1, y2, a', by omega, y4⟩
            obtain ⟨us', f', n', g0, g1, g2, g3, g4, g5⟩ := lp 20 0 FU us f n (by omega) (by rw [FU_e]; omega) ⟨s1, s2, s3, s4⟩ ht h1 h2 (hT.cg (fun b => ⟨Or.inl, fun z => z.elim id (fun ⟨_, _, a', y, _⟩ => absurd y (Nat.not_lt_zero a'))⟩))
            refine ⟨us', f', n', g0, g1, g2, g3, g4, g5.cg (fun b => or_congr Iff.rfl ⟨fun z => ⟨z.1, z.2.1⟩, fun z => ⟨z.1, z.2, ?_⟩⟩)⟩
            obtain ⟨a, a1, a2, -⟩ := (z.1.1.1 k hk8).1 hac
            exact ⟨a, a1, a2⟩
          · rw [if_neg kb, if_pos rfl]
            exact skip (Bool.eq_false_iff.mpr (fun w => kb (act_i.mp w).2))
    · rw [if_neg (fun z => c ((lN_lt' (by omega) (by omega)).mp z))]
      refine ⟨us, f, n, rfl, hs, ht, h1, h2, hT.prune (fun b hb => ?_)⟩
      have e : Wk un b k = Wk un t k := Wk_cg k hb.2
      have l := Wk_mono (un := un) (b := b) (8 - k) k
      rw [show k + (8 - k) = 8 by omega] at l
      omega
end
