/-! bits (the first rows out of kit/laws/BITS.to-paste) -/
def bt (x : Int32) (i : Nat) : Bool := x.toBitVec.getLsbD i
theorem b_ext {x y : Int32} (h : ∀ i, i < 32 → bt x i = bt y i) : x = y := Int32.toBitVec_inj.mp (BitVec.eq_of_getLsbD_eq (fun i hi => h i hi))
theorem b_or (x y : Int32) (i : Nat) : bt (x ||| y) i = (bt x i || bt y i) := by unfold bt; rw [Int32.toBitVec_or, BitVec.getLsbD_or]
theorem b_and (x y : Int32) (i : Nat) : bt (x &&& y) i = (bt x i && bt y i) := by unfold bt; rw [Int32.toBitVec_and, BitVec.getLsbD_and]
theorem b_big {x : Int32} {i : Nat} (h : 32 ≤ i) : bt x i = false := BitVec.getLsbD_of_ge _ _ h
theorem b_0 (i : Nat) : bt 0 i = false := BitVec.getLsbD_zero
theorem s_l : ∀ n, n < 32 → ((nI n &&& 31).toBitVec.smod 32).toNat = n := by decide +kernel
theorem b_shl (n : Nat) (hn : n < 32) (x : Int32) {i : Nat} (hi : i < 32) : bt (x <<< (nI n &&& 31)) i = (decide (n ≤ i) && bt x (i - n)) := by
  unfold bt
  rw [Int32.toBitVec_shiftLeft]
  show (x.toBitVec <<< ((nI n &&& 31).toBitVec.smod 32).toNat).getLsbD i = _
  rw [s_l n hn, BitVec.getLsbD_shiftLeft]
  rcases Nat.lt_or_ge i n with h | h
  · simp [h, Nat.not_le.mpr h]
  · simp [hi, h, Nat.not_lt.mpr h]
theorem b_sshr (n : Nat) (hn : n < 32) (x : Int32) {i : Nat} (hi : i < 32) : bt (x >>> (nI n &&& 31)) i = if n + i < 32 then bt x (n + i) else bt x 31 := by
  unfold bt
  rw [Int32.toBitVec_shiftRight]
  show (x.toBitVec.sshiftRight ((nI n &&& 31).toBitVec.smod 32).toNat).getLsbD i = _
  rw [s_l n hn, BitVec.getLsbD_sshiftRight, BitVec.msb_eq_getLsbD_last]
  simp [hi]
theorem pf_lI {a : Nat} (h : a < 2 ^ 63) : (lN a).toInt = (a : Int) := lg_ofNat_toInt h
theorem pf_shr {a d : Nat} {D : Int64} (hD : (D.toBitVec.smod 64).toNat = d) (h : a < 2 ^ 62) : lN a >>> D = lN (a / 2 ^ d) := by
  have hd : a / 2 ^ d ≤ a := Nat.div_le_self _ _
  apply Int64.toInt_inj.mp
  have e : (lN a >>> D).toInt = (lN a).toInt >>> d := by
    rw [← hD]
    exact BitVec.toInt_sshiftRight ..
  rw [e, Int.shiftRight_eq_div_pow, pf_lI (by omega), pf_lI (by omega)]
  rfl
theorem wb_tb (n : Nat) : (lN n).toBitVec = BitVec.ofNat 64 n := rfl
theorem wb_inj {a b : Int64} (h : a.toBitVec = b.toBitVec) : a = b := Int64.toBitVec_inj.mp h
theorem wb_c : ∀ k, k < 64 → ((nI k).toInt64 &&& 63) = lN k := by decide +kernel
theorem b_1 (i : Nat) : bt 1 i = decide (i = 0) := by
  rcases Nat.lt_or_ge i 32 with h | h
  · exact (by decide +kernel : ∀ i, i < 32 → bt 1 i = decide (i = 0)) i h
  · rw [b_big h, decide_eq_false (by omega)]
theorem bt_test (x : Int32) {p : Nat} (hp : p < 32) : (x >>> (nI p &&& 31)) &&& 1 = if bt x p = true then 1 else 0 := by
  refine b_ext (fun i hi => ?_)
  rw [b_and, b_sshr p hp x hi, b_1]
  by_cases e : i = 0
  · subst e
    rw [Nat.add_zero, if_pos hp, decide_eq_true rfl, Bool.and_true]
    by_cases h : bt x p = true
    · rw [if_pos h, b_1, h]; rfl
    · rw [if_neg h, b_0]; exact Bool.eq_false_iff.mpr h
  · rw [decide_eq_false e, Bool.and_false]
    by_cases h : bt x p = true
    · rw [if_pos h, b_1, decide_eq_false e]
    · rw [if_neg h, b_0]
theorem bt_one {q i : Nat} (hq : q < 32) (hi : i < 32) : bt ((1 : Int32) <<< (nI q &&& 31)) i = decide (i = q) := by
  rw [b_shl q hq 1 hi, b_1]
  by_cases e : i = q
  · rw [decide_eq_true e, decide_eq_true (show q ≤ i by omega), decide_eq_true (show i - q = 0 by omega)]; rfl
  · rw [decide_eq_false e]
    by_cases h : q ≤ i
    · rw [decide_eq_false (show ¬ i - q = 0 by omega), Bool.and_false]
    · rw [decide_eq_false h, Bool.false_and]
theorem bt_set (x : Int32) {q i : Nat} (hq : q < 32) (hi : i < 32) : bt (x ||| ((1 : Int32) <<< (nI q &&& 31))) i = (bt x i || decide (i = q)) := by
  rw [b_or, bt_one hq hi]
theorem one_shl : ∀ a, a < 31 → ((1 : Int32) <<< (nI a &&& 31)) = nI (2 ^ a) := by decide +kernel
theorem or_add {x : Int32} {a : Nat} (ha : a < 31) (h : bt x a = false) : x ||| ((1 : Int32) <<< (nI a &&& 31)) = x + nI (2 ^ a) := by
  have z : x &&& ((1 : Int32) <<< (nI a &&& 31)) = 0 := b_ext (fun i hi => by
    rw [b_and, bt_one (by omega) hi, b_0]
    by_cases e : i = a
    · rw [e, h]; rfl
    · rw [decide_eq_false e, Bool.and_false])
  rw [← one_shl a ha]
  refine (Int32.toBitVec_inj.mp ?_).symm
  rw [Int32.toBitVec_add, Int32.toBitVec_or]
  refine BitVec.add_eq_or_of_and_eq_zero _ _ ?_
  rw [← Int32.toBitVec_and, z]; rfl
theorem bt_nI (n : Nat) {i : Nat} (hi : i < 32) : bt (nI n) i = decide (n / 2 ^ i % 2 = 1) := by
  show (BitVec.ofNat 32 n).getLsbD i = _
  rw [BitVec.getLsbD_ofNat, decide_eq_true hi, Bool.true_and, Nat.testBit_eq_decide_div_mod_eq]
theorem sh64 : ∀ k, k < 64 → (((nI k).toInt64 &&& 63).toBitVec.smod 64).toNat = k := by decide +kernel
theorem lN_shr {a k : Nat} (hk : k < 64) (h : a < 2 ^ 62) : lN a >>> ((nI k).toInt64 &&& 63) = lN (a / 2 ^ k) := pf_shr (sh64 k hk) h
theorem lN_lt' {a b : Nat} (ha : a < 2 ^ 63) (hb : b < 2 ^ 63) : lN a < lN b ↔ a < b := by
  rw [Int64.lt_iff_toInt_lt, pf_lI ha, pf_lI hb]; omega
theorem lN_le' {a b : Nat} (ha : a < 2 ^ 63) (hb : b < 2 ^ 63) : lN a ≤ lN b ↔ a ≤ b := by
  rw [Int64.le_iff_toInt_le, pf_lI ha, pf_lI hb]; omega
theorem lN_inj' {a b : Nat} (ha : a < 2 ^ 63) (hb : b < 2 ^ 63) : lN a = lN b ↔ a = b := by
  rw [← Int64.toInt_inj, pf_lI ha, pf_lI hb]; omega
