/-! the class: all trees are told (the first two rows out of kit/laws/BITS.to-paste) -/
theorem wb_sm : ∀ k, k < 64 → (BitVec.ofNat 64 k).smod 64 = BitVec.ofNat 64 k := by decide +kernel
theorem wb_shl (n : Nat) {k : Nat} (hk : k < 64) : lN n <<< ((nI k).toInt64 &&& 63) = lN (n * 2 ^ k) := by
  rw [wb_c k hk]
  apply wb_inj
  rw [Int64.toBitVec_shiftLeft, wb_tb, wb_tb, wb_tb, wb_sm k hk]
  apply BitVec.eq_of_toNat_eq
  rw [BitVec.shiftLeft_eq', BitVec.toNat_shiftLeft, BitVec.toNat_ofNat, BitVec.toNat_ofNat, BitVec.toNat_ofNat, Nat.mod_eq_of_lt (show k < 2 ^ 64 by omega), Nat.shiftLeft_eq, Nat.mul_mod, Nat.mod_mod, ← Nat.mul_mod]
def NO : Nat := 9223372036854775807
theorem NO_e : NO = 2 ^ 63 - 1 := rfl
def fok (un : NS) (fo : Int32) (p a : Nat) : Bool := decide (fo = -1) || (!(decide (un.to fo.toNatClampNeg = nI p)) || decide (nI a = fo))
def T2 (un : NS) (Y : (Nat → Int32) → Prop) (f n : Nat) : Prop :=
  (f = NO ∨ ∃ b, Y b ∧ Wk un b 8 = f) ∧ (n = NO ∨ ∃ b, Y b ∧ Wk un b 8 = n) ∧ (f < n ∨ (f = NO ∧ n = NO)) ∧ (∀ b, Y b → Wk un b 8 = f ∨ n ≤ Wk un b 8) ∧ f ≤ NO ∧ n ≤ NO
theorem T2.cg {un : NS} {Y Y' : (Nat → Int32) → Prop} {f n : Nat} (h : T2 un Y f n) (e : ∀ b, Y b ↔ Y' b) : T2 un Y' f n := by
  obtain ⟨h1, h2, h3, h4, h5⟩ := h
  exact ⟨h1.imp id (fun ⟨b, x, y⟩ => ⟨b, (e b).mp x, y⟩), h2.imp id (fun ⟨b, x, y⟩ => ⟨b, (e b).mp x, y⟩), h3, fun b hb => h4 b ((e b).mpr hb), h5⟩
theorem T2.prune {un : NS} {Y Z : (Nat → Int32) → Prop} {f n : Nat} (h : T2 un Y f n) (e : ∀ b, Z b → n ≤ Wk un b 8) : T2 un (fun b => Y b ∨ Z b) f n := by
  obtain ⟨h1, h2, h3, h4, h5⟩ := h
  exact ⟨h1.imp id (fun ⟨b, x, y⟩ => ⟨b, Or.inl x, y⟩), h2.imp id (fun ⟨b, x, y⟩ => ⟨b, Or.inl x, y⟩), h3, fun b hb => hb.elim (h4 b) (fun z => Or.inr (e b z)), h5⟩
section
variable {un : NS} {bn fo : Int32} {r : Nat} {S : Int32}
def St (bn fo : Int32) (r : Nat) (S : Int32) (us : SS) : Prop := us.root = nI r ∧ us.banned = bn ∧ us.forced = fo ∧ us.reach = S
def GT (un : NS) (bn fo : Int32) (r : Nat) (S : Int32) (b : Nat → Int32) : Prop := (Full un bn r S b ∧ good un b) ∧ ∀ p a, p < 8 → a < 20 → b p = nI a → fok un fo p a = true
def Ht (un : NS) (bn fo : Int32) (r : Nat) (S : Int32) (k : Nat) (t : Nat → Int32) : Prop := Fk un bn r S k t ∧ (∀ p, k ≤ p → p < 8 → t p = -1) ∧ (∀ q, q < k → t q ≠ -1 → cr un (cut t q) q 8 (pr un t q) = false) ∧ (∀ p a, p < k → a < 20 → t p = nI a → fok un fo p a = true)
theorem cr_cg {t t' : Nat → Int32} (e : ∀ x, x < 8 → t x = t' x) (hp : ∀ x, x < 8 → t x ≠ -1 → pr un t x < 8) (q : Nat) : ∀ n o, o < 8 → cr un t q n o = cr un t' q n o := by
  intro n
  induction n with
  | zero => intro o _; rfl
  | succ n ih =>
    intro o ho
    show (if o = q then true else (if t o = -1 then false else cr un t q n (pr un t o))) = (if o = q then true else (if t' o = -1 then false else cr un t' q n (pr un t' o)))
    by_cases z : t o = -1
    · have z' : t' o = -1 := by rw [← e o ho]; exact z
      rw [if_pos z, if_pos z']
    · have pe : pr un t' o = pr un t o := by unfold pr; rw [e o ho]
      have z' : ¬ t' o = -1 := by rw [← e o ho]; exact z
      rw [if_neg z, if_neg z', pe, ih _ (hp o ho z)]
theorem closes {us : SS} {t : Nat → Int32} (ht : ∀ x, x < 8 → us.into x = t x) (hN : NG un) (hx : ∀ x, x < 8 → t x = -1 ∨ ∃ a, a < 20 ∧ t x = nI a ∧ un.frm a ≠ -1) {q : Nat} (hq : q < 8) : ∀ (n i o F : Nat), i + n = 8 → n < F → o < 8 → f_X3_closesRing_5 un us F (nI q) (nI o) (nI i) = some (if cr un t q n o = true then 1 else 0) := by
  have fin : ∀ o, o < 8 → f_X3_closesRing_48 un us (nI q) (nI o) = some (if o = q then 1 else 0) := by
    intro o ho
    unfold f_X3_closesRing_48
    by_cases e : o = q
    · rw [if_pos (by rw [e]), if_pos e]
    · rw [if_neg (fun w => e (nI_inj (by omega) (by omega) w)), if_neg e]
  intro n
  induction n with
  | zero =>
    intro i o F hi hF ho
    obtain ⟨F, rfl⟩ : ∃ k, F = k + 1 := ⟨F - 1, by omega⟩
    obtain rfl : i = 8 := by omega
    show f_X3_closesRing_B5 un us (f_X3_closesRing_5 un us F) (nI q) (nI o) (nI 8) = _
    unfold f_X3_closesRing_B5
    rw [if_pos (by decide), fin o ho]
    show _ = some (if decide (o = q) = true then 1 else 0)
    by_cases e : o = q
    · rw [if_pos e, if_pos (decide_eq_true e)]
    · rw [if_neg e, if_neg (fun w => e (of_decide_eq_true w))]
  | succ n ih =>
    intro i o F hi hF ho
    obtain ⟨F, rfl⟩ : ∃ k, F = k + 1 := ⟨F - 1, by omega⟩
    show f_X3_closesRing_B5 un us (f_X3_closesRing_5 un us F) (nI q) (nI o) (nI i) = some (if (if o = q then true else (if t o = -1 then false else cr un t q n (pr un t o))) = true then 1 else 0)
    unfold f_X3_closesRing_B5
    rw [if_neg (ge8 (by omega))]
    by_cases e : o = q
    · rw [if_pos (by rw [e]), fin o ho, if_pos e, if_pos e, if_pos rfl]
    · rw [if_neg (fun w => e (nI_inj (by omega) (by omega) w)), if_neg e]
      simp (disch := omega) only [ckI, nI_clamp, ht o ho]
      rcases hx o ho with z | ⟨a, a1, a2, a3⟩
      · rw [if_pos z, if_pos z, fin o ho, if_neg e]; rfl
      · have nz : ¬ t o = -1 := by rw [a2]; exact nI_nm1 (by omega)
        rw [if_neg nz, if_neg nz, a2]
        obtain ⟨p1, p2, p3, p4, p5, -⟩ := hN.at a1 a3
        have pe : pr un t o = pf un a := by unfold pr; rw [a2, nI_clamp (by omega)]
        simp (disch := omega) only [ckI, nI_clamp, p4, bnd_s, nI_1]
        rw [pe]
        exact ih (i + 1) _ F (by omega) (by omega) p1
theorem may {us : SS} {t : Nat → Int32} (hs : St bn fo r S us) (ht : ∀ x, x < 8 → us.into x = t x) (hN : NG un) (hx : ∀ x, x < 8 → t x = -1 ∨ ∃ a, a < 20 ∧ t x = nI a ∧ un.frm a ≠ -1) (hfo : fo = -1 ∨ ∃ c, c < 20 ∧ fo = nI c) {a k : Nat} (ha : a < 20) (hk : k < 8) : f_X3_mayLead (nI a) (nI k) un us = some (if okb un bn S k a = true ∧ fok un fo k a = true ∧ cr un t k 8 (pf un a) = false then 1 else 0) := by
  obtain ⟨s1, s2, s3, s4⟩ := hs
  unfold f_X3_mayLead
  simp (disch := omega) only [ckI, nI_clamp]
  by_cases e1 : un.frm a = -1
  · rw [if_pos e1, if_neg (fun w => (lv_i.mp (okb_i.mp w.1).1).1 e1)]
  · rw [if_neg e1]
    obtain ⟨p1, p2, p3, p4, p5, -⟩ := hN.at ha e1
    by_cases e2 : un.to a = nI k
    · rw [if_pos e2, s2]
      by_cases e3 : nI a = bn
      · rw [if_pos e3, if_neg (fun w => (lv_i.mp (okb_i.mp w.1).1).2 e3)]
      · rw [if_neg e3, p4, isReached_e s4 (by omega), cl1_s]
        by_cases e4 : bt S (pf un a) = true
        · have ok : okb un bn S k a = true := okb_i.mpr ⟨lv_i.mpr ⟨e1, e3⟩, e2, e4⟩
          rw [if_pos e4, if_neg i10, s3]
          have last : f_X3_mayLead_86 un us (nI a) (nI k) = some (if cr un t k 8 (pf un a) = false then 1 else 0) := by
            unfold f_X3_mayLead_86 f_X3_closesRing
            simp (disch := omega) only [ckI, nI_clamp]
            rw [p4, show (0 : Int32) = nI 0 from rfl, closes ht hN hx hk 8 0 _ FU (by omega) (by rw [FU_e]; omega) p1, cl1_s]
            by_cases w : cr un t k 8 (pf un a) = true
            · rw [if_pos w, if_neg (by decide), if_neg (by rw [w]; decide)]
            · rw [if_neg w, if_pos (by decide), if_pos (Bool.eq_false_iff.mpr w)]
          have fin : fok un fo k a = true → some (if cr un t k 8 (pf un a) = false then (1 : Int32) else 0) = some (if okb un bn S k a = true ∧ fok un fo k a = true ∧ cr un t k 8 (pf un a) = false then 1 else 0) := fun fk => by
            by_cases w : cr un t k 8 (pf un a) = false
            · rw [if_pos w, if_pos ⟨ok, fk, w⟩]
            · rw [if_neg w, if_neg (fun z => w z.2.2)]
          by_cases e5 : fo = -1
          · rw [if_pos e5, last]
            exact fin (by unfold fok; rw [decide_eq_true e5]; rfl)
          · rw [if_neg e5]
            obtain ⟨c, c1, c2⟩ := hfo.resolve_left e5
            rw [c2]
            simp (disch := omega) only [ckI, nI_clamp]
            by_cases e6 : un.to c = nI k
            · rw [if_pos e6]
              by_cases e7 : nI a = nI c
              · rw [if_pos e7, last, ← c2]
                exact fin (by unfold fok; rw [c2, decide_eq_true e7, Bool.or_true, Bool.or_true])
              · rw [if_neg e7, if_neg (fun w => by
                  have z := w.2.1
                  unfold fok at z
                  rw [nI_clamp (by omega), decide_eq_false (nI_nm1 (by omega)), decide_eq_true e6, decide_eq_false e7] at z
                  cases z)]
            · rw [if_neg e6, last, ← c2]
              exact fin (by unfold fok; rw [c2, nI_clamp (by omega), decide_eq_false e6]; simp)
        · rw [if_neg e4, if_pos rfl, if_neg (fun w => e4 (okb_i.mp w.1).2.2)]
    · rw [if_neg e2, if_neg (fun w => e2 (okb_i.mp w.1).2.1)]
theorem weightOf_e (hN : NG un) {a : Nat} (ha : a < 20) (hf : un.frm a ≠ -1) (us : SS) : f_X3_weightOf (nI a) un us = some (lN (ca un a * 1048576 + 2 ^ a)) := by
  obtain ⟨c1, c2⟩ := hN.cst ha hf
  unfold f_X3_weightOf
  simp (disch := omega) only [ckI, nI_clamp]
  rw [c2, nI_l (by omega), show (20 : Int32) = nI 20 from rfl, wb_shl _ (by omega), show (1 : Int64) = lN 1 from rfl, wb_shl _ (by omega), lN_add, Nat.one_mul]
end
