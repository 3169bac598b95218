/-! the places that are reached: the same rounds on both sides -/
def NG (un : NS) : Prop := ∀ a, a < 20 → un.frm a = -1 ∨ ∃ p q k, p < 8 ∧ q < 8 ∧ p ≠ q ∧ k ≤ 1000000 ∧ un.frm a = nI p ∧ un.to a = nI q ∧ un.cost a = nI k
theorem NR.ng {un : NS} {row : Nat → Int32} (h : NR un row) : NG un := fun a ha => (h a ha).2.2.2
def lv (un : NS) (bn : Int32) (a : Nat) : Bool := decide (un.frm a ≠ -1) && decide (nI a ≠ bn)
theorem lv_i {un : NS} {bn : Int32} {a : Nat} : lv un bn a = true ↔ un.frm a ≠ -1 ∧ nI a ≠ bn := by
  unfold lv; rw [Bool.and_eq_true, decide_eq_true_iff, decide_eq_true_iff]
def pf (un : NS) (a : Nat) : Nat := (un.frm a).toNatClampNeg
def pt (un : NS) (a : Nat) : Nat := (un.to a).toNatClampNeg
theorem NG.at {un : NS} (h : NG un) {a : Nat} (ha : a < 20) (hf : un.frm a ≠ -1) : pf un a < 8 ∧ pt un a < 8 ∧ pf un a ≠ pt un a ∧ un.frm a = nI (pf un a) ∧ un.to a = nI (pt un a) ∧ ∃ k, k ≤ 1000000 ∧ un.cost a = nI k := by
  obtain ⟨p, q, k, h1, h2, h3, h4, h5, h6, h7⟩ := (h a ha).resolve_left hf
  have e1 : pf un a = p := by unfold pf; rw [h5, nI_clamp (by omega)]
  have e2 : pt un a = q := by unfold pt; rw [h6, nI_clamp (by omega)]
  rw [e1, e2]
  exact ⟨h1, h2, h3, h5, h6, k, h4, h7⟩
def stp (un : NS) (bn : Int32) (S : Int32) (a : Nat) : Int32 := if lv un bn a = true ∧ bt S (pf un a) = true then S ||| ((1 : Int32) <<< (nI (pt un a) &&& 31)) else S
def fr (un : NS) (bn : Int32) : Nat → Nat → Int32 → Int32
  | 0, _, S => S
  | m + 1, a, S => fr un bn m (a + 1) (stp un bn S a)
def rr (un : NS) (bn : Int32) : Nat → Int32 → Int32
  | 0, S => S
  | n + 1, S => rr un bn n (fr un bn 20 0 S)
def rch (un : NS) (bn : Int32) (r : Nat) : Int32 := rr un bn 8 ((1 : Int32) <<< (nI r &&& 31))
theorem ge20 {k : Nat} (h : k < 20) : ¬ (20 : Int32) ≤ nI k := nI_ge (b := 20) h (by decide)
theorem ge8 {k : Nat} (h : k < 8) : ¬ (8 : Int32) ≤ nI k := nI_ge (b := 8) h (by decide)
theorem SS.rr2 (u : SS) (a b : Int32) : (u.setReach a).setReach b = u.setReach b := rfl
theorem SS.rre (u : SS) : u.setReach u.reach = u := rfl
theorem isReached_e {us : SS} {S : Int32} (hS : us.reach = S) {p : Nat} (hp : p < 32) : f_X3_isReached (nI p) us = some (if bt S p = true then 1 else 0) := by
  unfold f_X3_isReached
  rw [hS, bt_test S hp]
  by_cases h : bt S p = true
  · rw [if_pos h, if_pos rfl]
  · rw [if_neg h, if_neg (by decide)]
theorem fr_cls {un : NS} (hN : NG un) {rec12 : Int32 → SS → Option SS} {us : SS} {bn : Int32} (hb : us.banned = bn) {x1 : Int32} : ∀ (m a F : Nat) (S : Int32), a + m = 20 → m < F → f_X3_findReach_20 un rec12 F x1 (nI a) (us.setReach S) = rec12 (x1 + 1) (us.setReach (fr un bn m a S)) := by
  intro m
  induction m with
  | zero =>
    intro a F S ha hF
    obtain ⟨F, rfl⟩ : ∃ k, F = k + 1 := ⟨F - 1, by omega⟩
    obtain rfl : a = 20 := by omega
    show f_X3_findReach_B20 un rec12 (f_X3_findReach_20 un rec12 F) x1 (nI 20) (us.setReach S) = _
    unfold f_X3_findReach_B20
    rw [if_pos (by decide), bnd_s]; rfl
  | succ m ih =>
    intro a F S ha hF
    obtain ⟨F, rfl⟩ : ∃ k, F = k + 1 := ⟨F - 1, by omega⟩
    have nx := fun S' => ih (a + 1) F S' (by omega) (by omega)
    show f_X3_findReach_B20 un rec12 (f_X3_findReach_20 un rec12 F) x1 (nI a) (us.setReach S) = rec12 (x1 + 1) (us.setReach (fr un bn m (a + 1) (stp un bn S a)))
    obtain ⟨w, hw⟩ : ∃ w, w = us.setReach S := ⟨_, rfl⟩
    have wr : w.reach = S := by rw [hw]; rfl
    have wb : w.banned = bn := by rw [hw]; exact hb
    have wn : f_X3_findReach_83 un rec12 (f_X3_findReach_20 un rec12 F) x1 (nI a) w = rec12 (x1 + 1) (us.setReach (fr un bn m (a + 1) S)) := by
      unfold f_X3_findReach_83
      rw [bnd_s, nI_1, hw]; exact nx S
    rw [← hw]
    unfold f_X3_findReach_B20
    rw [if_neg (ge20 (by omega)), wb]
    unfold stp
    by_cases e1 : nI a = bn
    · rw [if_pos e1, if_neg (fun q => (lv_i.mp q.1).2 e1)]; exact wn
    · rw [if_neg e1]
      simp (disch := omega) only [ckI, nI_clamp]
      by_cases e2 : un.frm a = -1
      · rw [if_pos e2, if_neg (fun q => (lv_i.mp q.1).1 e2)]; exact wn
      · obtain ⟨p1, p2, p3, p4, p5, -⟩ := hN.at (show a < 20 by omega) e2
        rw [if_neg e2, p4, isReached_e wr (by omega), cl1_s]
        by_cases e3 : bt S (pf un a) = true
        · rw [if_pos e3, if_neg i10, if_pos ⟨lv_i.mpr ⟨e2, e1⟩, e3⟩, p5, bnd_s, wr]
          unfold f_X3_findReach_83
          rw [bnd_s, nI_1, hw, SS.rr2]
          exact nx _
        · rw [if_neg e3, if_pos rfl, if_neg (fun q => e3 q.2)]; exact wn
theorem rr_cls {un : NS} (hN : NG un) {us : SS} {bn : Int32} (hb : us.banned = bn) : ∀ (m n F : Nat) (S : Int32), n + m = 8 → m < F → f_X3_findReach_12 un F (nI n) (us.setReach S) = some (us.setReach (rr un bn m S)) := by
  intro m
  induction m with
  | zero =>
    intro n F S hn hF
    obtain ⟨F, rfl⟩ : ∃ k, F = k + 1 := ⟨F - 1, by omega⟩
    obtain rfl : n = 8 := by omega
    show f_X3_findReach_B12 un (f_X3_findReach_12 un F) (nI 8) (us.setReach S) = _
    unfold f_X3_findReach_B12
    rw [if_pos (by decide)]; rfl
  | succ m ih =>
    intro n F S hn hF
    obtain ⟨F, rfl⟩ : ∃ k, F = k + 1 := ⟨F - 1, by omega⟩
    show f_X3_findReach_B12 un (f_X3_findReach_12 un F) (nI n) (us.setReach S) = some (us.setReach (rr un bn m (fr un bn 20 0 S)))
    unfold f_X3_findReach_B12
    have z0 : (0 : Int32) = nI 0 := rfl
    rw [if_neg (ge8 (by omega)), z0, fr_cls hN hb 20 0 FU S (by omega) (by rw [FU_e]; omega), nI_1]
    exact ih (n + 1) F _ (by omega) (by omega)
theorem reach_cls {un : NS} (hN : NG un) {us : SS} {r : Nat} (hr : us.root = nI r) : f_X3_findReach un us = some (us.setReach (rch un us.banned r)) := by
  unfold f_X3_findReach
  rw [bnd_s, hr]
  exact rr_cls hN rfl 8 0 FU _ (by omega) (by rw [FU_e]; omega)
theorem fr_ref {un : NS} {uv : MS} (hN : NR un uv.row) {rec7 : Int32 → Int32 → Int32 → Option Int32} {bn x4 : Int32} : ∀ (m a F : Nat) (S : Int32), a + m = 20 → m < F → f_X5_reach_17 uv rec7 F bn S x4 (nI a) = rec7 bn (fr un bn m a S) (x4 + 1) := by
  intro m
  induction m with
  | zero =>
    intro a F S ha hF
    obtain ⟨F, rfl⟩ : ∃ k, F = k + 1 := ⟨F - 1, by omega⟩
    obtain rfl : a = 20 := by omega
    show f_X5_reach_B17 uv rec7 (f_X5_reach_17 uv rec7 F) bn S x4 (nI 20) = _
    unfold f_X5_reach_B17
    rw [if_pos (by decide), bnd_s]; rfl
  | succ m ih =>
    intro a F S ha hF
    obtain ⟨F, rfl⟩ : ∃ k, F = k + 1 := ⟨F - 1, by omega⟩
    have nx := fun S' => ih (a + 1) F S' (by omega) (by omega)
    have a20 : a < 20 := by omega
    show f_X5_reach_B17 uv rec7 (f_X5_reach_17 uv rec7 F) bn S x4 (nI a) = rec7 bn (fr un bn m (a + 1) (stp un bn S a)) (x4 + 1)
    have wn : f_X5_reach_78 uv rec7 (f_X5_reach_17 uv rec7 F) bn S x4 (nI a) = rec7 bn (fr un bn m (a + 1) S) (x4 + 1) := by
      unfold f_X5_reach_78
      rw [bnd_s, nI_1]; exact nx S
    unfold f_X5_reach_B17
    rw [if_neg (ge20 a20), isArcN hN a20, cl1_s]
    unfold stp
    by_cases e2 : un.frm a = -1
    · rw [if_pos e2, if_pos rfl, if_neg (fun q => (lv_i.mp q.1).1 e2)]; exact wn
    · rw [if_neg e2, if_neg i10]
      by_cases e1 : nI a = bn
      · rw [if_pos e1, if_neg (fun q => (lv_i.mp q.1).2 e1)]; exact wn
      · rw [if_neg e1]
        obtain ⟨p1, p2, p3, p4, p5, -⟩ := hN.ng.at a20 e2
        simp (disch := omega) only [nI_10, nI_p1, ckI, nI_clamp, (hN a a20).1, (hN a a20).2.1]
        rw [p4, bt_test S (by omega)]
        by_cases e3 : bt S (pf un a) = true
        · rw [if_pos e3, if_pos rfl, if_pos ⟨lv_i.mpr ⟨e2, e1⟩, e3⟩, p5, bnd_s]
          unfold f_X5_reach_78
          rw [bnd_s, nI_1]
          exact nx _
        · rw [if_neg e3, if_neg (by decide), if_neg (fun q => e3 q.2)]; exact wn
theorem rr_ref {un : NS} {uv : MS} (hN : NR un uv.row) {bn : Int32} : ∀ (m n F : Nat) (S : Int32), n + m = 8 → m < F → f_X5_reach_7 uv F bn S (nI n) = some (rr un bn m S) := by
  intro m
  induction m with
  | zero =>
    intro n F S hn hF
    obtain ⟨F, rfl⟩ : ∃ k, F = k + 1 := ⟨F - 1, by omega⟩
    obtain rfl : n = 8 := by omega
    show f_X5_reach_B7 uv (f_X5_reach_7 uv F) bn S (nI 8) = _
    unfold f_X5_reach_B7
    rw [if_pos (by decide)]; rfl
  | succ m ih =>
    intro n F S hn hF
    obtain ⟨F, rfl⟩ : ∃ k, F = k + 1 := ⟨F - 1, by omega⟩
    show f_X5_reach_B7 uv (f_X5_reach_7 uv F) bn S (nI n) = some (rr un bn m (fr un bn 20 0 S))
    unfold f_X5_reach_B7
    have z0 : (0 : Int32) = nI 0 := rfl
    rw [if_neg (ge8 (by omega)), z0, fr_ref hN 20 0 FU S (by omega) (by rw [FU_e]; omega), nI_1]
    exact ih (n + 1) F _ (by omega) (by omega)
theorem reach_ref {un : NS} {uv : MS} (hN : NR un uv.row) (bn : Int32) (r : Nat) : f_X5_reach (nI r) bn uv = some (rch un bn r) := by
  unfold f_X5_reach
  rw [bnd_s]
  exact rr_ref hN 8 0 FU _ (by omega) (by rw [FU_e]; omega)
/-- what is reached, by an arc from where it was before -/
def RT (un : NS) (bn : Int32) (r : Nat) (S : Int32) (g : Nat → Int32) (dp : Nat → Nat) : Prop :=
  bt S r = true ∧ (∀ p, p < 8 → bt S p = true → p ≠ r → ∃ a, a < 20 ∧ g p = nI a ∧ lv un bn a = true ∧ un.to a = nI p ∧ bt S (pf un a) = true ∧ dp (pf un a) < dp p) ∧ (∀ p, p < 8 → (p = r ∨ bt S p = false) → g p = -1)
theorem stp_rt {un : NS} (hN : NG un) {bn : Int32} {r : Nat} {S : Int32} {g : Nat → Int32} {dp : Nat → Nat} (h : RT un bn r S g dp) (hr : r < 8) {a : Nat} (ha : a < 20) : ∃ g' dp', RT un bn r (stp un bn S a) g' dp' := by
  unfold stp
  by_cases q : lv un bn a = true ∧ bt S (pf un a) = true
  · rw [if_pos q]
    obtain ⟨p1, p2, p3, p4, p5, -⟩ := hN.at ha (lv_i.mp q.1).1
    have bs : ∀ i, i < 32 → bt (S ||| ((1 : Int32) <<< (nI (pt un a) &&& 31))) i = (bt S i || decide (i = pt un a)) := fun i hi => bt_set S (by omega) hi
    by_cases z : bt S (pt un a) = true
    · have e : S ||| ((1 : Int32) <<< (nI (pt un a) &&& 31)) = S := b_ext (fun i hi => by
        rw [bs i hi]
        by_cases w : i = pt un a
        · rw [w, z]; rfl
        · rw [decide_eq_false w, Bool.or_false])
      rw [e]; exact ⟨g, dp, h⟩
    · obtain ⟨h1, h2, h3⟩ := h
      have nr : r ≠ pt un a := fun w => z (by rw [← w]; exact h1)
      have nq : pf un a ≠ pt un a := p3
      refine ⟨upd g (pt un a) (nI a), fun x => if x = pt un a then dp (pf un a) + 1 else dp x, ?_, fun p hp hb hpr => ?_, fun p hp hb => ?_⟩
      · rw [bs r (by omega), h1]; rfl
      · by_cases w : p = pt un a
        · subst w
          refine ⟨a, ha, pk_us, q.1, p5, ?_, ?_⟩
          · rw [bs _ (by omega), q.2]; rfl
          · show (if pf un a = pt un a then dp (pf un a) + 1 else dp (pf un a)) < (if pt un a = pt un a then dp (pf un a) + 1 else dp (pt un a))
            rw [if_neg nq, if_pos rfl]; omega
        · rw [bs p (by omega), decide_eq_false w, Bool.or_false] at hb
          obtain ⟨a2, k1, k2, k3, k4, k5, k6⟩ := h2 p hp hb hpr
          obtain ⟨t1, -, -, -, -, -⟩ := hN.at k1 (lv_i.mp k3).1
          have n2 : pf un a2 ≠ pt un a := fun y => z (by rw [← y]; exact k5)
          refine ⟨a2, k1, by rw [pk_un w]; exact k2, k3, k4, ?_, ?_⟩
          · rw [bs _ (by omega), k5]; rfl
          · show (if pf un a2 = pt un a then dp (pf un a) + 1 else dp (pf un a2)) < (if p = pt un a then dp (pf un a) + 1 else dp p)
            rw [if_neg n2, if_neg w]; exact k6
      · have w : p ≠ pt un a := fun y => by
          rcases hb with e | e
          · exact nr (e.symm.trans y)
          · rw [bs p (by omega), decide_eq_true y, Bool.or_true] at e; cases e
        rw [pk_un w]
        refine h3 p hp (hb.imp id (fun e => ?_))
        rw [bs p (by omega), decide_eq_false w, Bool.or_false] at e; exact e
  · rw [if_neg q]; exact ⟨g, dp, h⟩
theorem fr_rt {un : NS} (hN : NG un) {bn : Int32} {r : Nat} (hr : r < 8) : ∀ (m a : Nat) (S : Int32) (g : Nat → Int32) (dp : Nat → Nat), a + m ≤ 20 → RT un bn r S g dp → ∃ g' dp', RT un bn r (fr un bn m a S) g' dp' := by
  intro m
  induction m with
  | zero => intro a S g dp _ h; exact ⟨g, dp, h⟩
  | succ m ih =>
    intro a S g dp ha h
    obtain ⟨g1, d1, h1⟩ := stp_rt hN h hr (show a < 20 by omega)
    exact ih (a + 1) _ g1 d1 (by omega) h1
theorem rr_rt {un : NS} (hN : NG un) {bn : Int32} {r : Nat} (hr : r < 8) : ∀ (m : Nat) (S : Int32) (g : Nat → Int32) (dp : Nat → Nat), RT un bn r S g dp → ∃ g' dp', RT un bn r (rr un bn m S) g' dp' := by
  intro m
  induction m with
  | zero => intro S g dp h; exact ⟨g, dp, h⟩
  | succ m ih =>
    intro S g dp h
    obtain ⟨g1, d1, h1⟩ := fr_rt hN hr 20 0 S g dp (by omega) h
    exact ih _ g1 d1 h1
theorem rch_rt {un : NS} (hN : NG un) (bn : Int32) {r : Nat} (hr : r < 8) : ∃ g dp, RT un bn r (rch un bn r) g dp := by
  refine rr_rt hN hr 8 _ (fun _ => -1) (fun _ => 0) ⟨?_, fun p hp hb hpr => ?_, fun _ _ _ => rfl⟩
  · rw [bt_one (by omega) (by omega), decide_eq_true rfl]
  · rw [bt_one (by omega) (by omega), decide_eq_false hpr] at hb; cases hb
