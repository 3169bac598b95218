def f_X3_isReached (p1 : Int32) (us : SS) : Option (Int32) := if (((us.reach) >>> (p1 &&& 31)) &&& 1) = 1 then (some (1)) else (some (0))
def f_X3_noteTree (p1 : Int64) (us : SS) : Option (SS) := if (us.first) ≤ p1 then (bnd (us.setNext p1) fun us2 => some (us2)) else (bnd (us.setNext (us.first)) fun us3 => bnd (us3.setFirst p1) fun us4 => some (us4))
def f_X3_closesRing_48 (un : NS) (us : SS)  (x2 : Int32) (x3 : Int32) : Option (Int32) := if x3 = x2 then (some (1)) else (some (0))
def f_X3_closesRing_B5 (un : NS) (us : SS)  (rec5 : Int32 → Int32 → Int32 → Option (Int32)) (x2 : Int32) (x3 : Int32) (x4 : Int32) : Option (Int32) := if (8 : Int32) ≤ x4 then (f_X3_closesRing_48 un us x2 x3) else (if x3 = x2 then (f_X3_closesRing_48 un us x2 x3) else (ck x3 8 (us.into x3.toNatClampNeg) fun v4 => if v4 = ((-1)) then (f_X3_closesRing_48 un us x2 x3) else (ck x3 8 (us.into x3.toNatClampNeg) fun v6 => ck v6 20 (un.frm v6.toNatClampNeg) fun v7 => bnd (x4 + 1) fun y8 => rec5 x2 v7 y8)))
def f_X3_closesRing_5 (un : NS) (us : SS)  : Nat → Int32 → Int32 → Int32 → Option (Int32)
  | 0 => fun _ _ _ => none
  | n + 1 => fun x2 x3 x4 => f_X3_closesRing_B5 un us  (f_X3_closesRing_5 un us  n) x2 x3 x4
def f_X3_closesRing (p1 : Int32) (p2 : Int32) (un : NS) (us : SS) : Option (Int32) := f_X3_closesRing_5 un us FU p2 p1 0
def f_X3_weightOf (p1 : Int32) (un : NS) (us : SS) : Option (Int64) := ck p1 20 (un.cost p1.toNatClampNeg) fun v1 => some (((v1.toInt64) <<< ((20 : Int32).toInt64 &&& 63)) + (1 <<< (p1.toInt64 &&& 63)))
def f_X3_costOf (p1 : Int64)  : Option (Int32) := some ((p1 >>> ((20 : Int32).toInt64 &&& 63)).toInt32)
def f_X3_bitsOf (p1 : Int64)  : Option (Int32) := some ((p1 &&& 1048575).toInt32)
def f_X3_firstHas (p1 : Int32) (us : SS) : Option (Int32) := if (us.first) = 9223372036854775807 then (some (0)) else (if (((us.first) >>> (p1.toInt64 &&& 63)) &&& 1) = 1 then (some (1)) else (some (0)))
def f_X3_arcInto_31 (un : NS) (us : SS) (rec2 : Int32 → Int32 → Option (Int32)) (x1 : Int32) (x2 : Int32) : Option (Int32) := bnd (x2 + 1) fun y1 => rec2 x1 y1
def f_X3_arcInto_B2 (un : NS) (us : SS)  (rec2 : Int32 → Int32 → Option (Int32)) (x1 : Int32) (x2 : Int32) : Option (Int32) := if (20 : Int32) ≤ x2 then (some ((-1))) else (cl1 (f_X3_firstHas x2 us) fun r3 => if r3 = 0 then (f_X3_arcInto_31 un us rec2 x1 x2) else (ck x2 20 (un.to x2.toNatClampNeg) fun v6 => if v6 = x1 then (some (x2)) else (f_X3_arcInto_31 un us rec2 x1 x2)))
def f_X3_arcInto_2 (un : NS) (us : SS)  : Nat → Int32 → Int32 → Option (Int32)
  | 0 => fun _ _ => none
  | n + 1 => fun x1 x2 => f_X3_arcInto_B2 un us  (f_X3_arcInto_2 un us  n) x1 x2
def f_X3_arcInto (p1 : Int32) (un : NS) (us : SS) : Option (Int32) := f_X3_arcInto_2 un us FU p1 0
def f_X3_mostStillBelow (p1 : Int64) (p3 : Int64)  : Option (Int32) := some ((((p3 - p1) - 1) >>> ((20 : Int32).toInt64 &&& 63)).toInt32)
def f_X3_leastToPass (p1 : Int64) (p3 : Int64)  : Option (Int32) := some ((((p1 - p3) >>> ((20 : Int32).toInt64 &&& 63)).toInt32) + 1)
def f_J6_bitCount_0f7a4 (p0 : Int32)  : Option (Int32) := bnd (p0 - (((p0.toUInt32 >>> ((1 : Int32).toUInt32 &&& Int32.toUInt32 31)).toInt32) &&& 1431655765)) fun y1 => bnd ((y1 &&& 858993459) + (((y1.toUInt32 >>> ((2 : Int32).toUInt32 &&& Int32.toUInt32 31)).toInt32) &&& 858993459)) fun y2 => bnd ((y2 + ((y2.toUInt32 >>> ((4 : Int32).toUInt32 &&& Int32.toUInt32 31)).toInt32)) &&& 252645135) fun y3 => bnd (y3 + ((y3.toUInt32 >>> ((8 : Int32).toUInt32 &&& Int32.toUInt32 31)).toInt32)) fun y4 => bnd (y4 + ((y4.toUInt32 >>> ((16 : Int32).toUInt32 &&& Int32.toUInt32 31)).toInt32)) fun y5 => some (y5 &&& 63)
def f_X3_findReach_83 (un : NS) (rec12 : Int32 → SS → Option (SS)) (rec20 : Int32 → Int32 → SS → Option (SS)) (x1 : Int32) (x2 : Int32) (us : SS) : Option (SS) := bnd (x2 + 1) fun y1 => rec20 x1 y1 us
def f_X3_findReach_B20 (un : NS) (rec12 : Int32 → SS → Option (SS)) (rec20 : Int32 → Int32 → SS → Option (SS)) (x1 : Int32) (x2 : Int32) (us : SS) : Option (SS) := if (20 : Int32) ≤ x2 then (bnd (x1 + 1) fun y3 => rec12 y3 us) else (if x2 = (us.banned) then (f_X3_findReach_83 un rec12 rec20 x1 x2 us) else (ck x2 20 (un.frm x2.toNatClampNeg) fun v5 => if v5 = ((-1)) then (f_X3_findReach_83 un rec12 rec20 x1 x2 us) else (ck x2 20 (un.frm x2.toNatClampNeg) fun v7 => cl1 (f_X3_isReached v7 us) fun r8 => if r8 = 0 then (f_X3_findReach_83 un rec12 rec20 x1 x2 us) else (ck x2 20 (un.to x2.toNatClampNeg) fun v11 => bnd (us.setReach ((us.reach) ||| (1 <<< (v11 &&& 31)))) fun us12 => f_X3_findReach_83 un rec12 rec20 x1 x2 us12))))
def f_X3_findReach_20 (un : NS) (rec12 : Int32 → SS → Option (SS)) : Nat → Int32 → Int32 → SS → Option (SS)
  | 0 => fun _ _ _ => none
  | n + 1 => fun x1 x2 us => f_X3_findReach_B20 un rec12 (f_X3_findReach_20 un rec12 n) x1 x2 us
def f_X3_findReach_B12 (un : NS)  (rec12 : Int32 → SS → Option (SS)) (x1 : Int32) (us : SS) : Option (SS) := if (8 : Int32) ≤ x1 then (some (us)) else (f_X3_findReach_20 un rec12 FU x1 0 us)
def f_X3_findReach_12 (un : NS)  : Nat → Int32 → SS → Option (SS)
  | 0 => fun _ _ => none
  | n + 1 => fun x1 us => f_X3_findReach_B12 un  (f_X3_findReach_12 un  n) x1 us
def f_X3_findReach  (un : NS) (us : SS) : Option (SS) := bnd (us.setReach (1 <<< ((us.root) &&& 31))) fun us14 => f_X3_findReach_12 un FU 0 us14
def f_X3_mayLead_86 (un : NS) (us : SS)  (x1 : Int32) (x2 : Int32) : Option (Int32) := ck x1 20 (un.frm x1.toNatClampNeg) fun v1 => cl1 (f_X3_closesRing v1 x2 un us) fun r2 => if r2 = 0 then (some (1)) else (some (0))
def f_X3_mayLead (p1 : Int32) (p2 : Int32) (un : NS) (us : SS) : Option (Int32) := ck p1 20 (un.frm p1.toNatClampNeg) fun v5 => if v5 = ((-1)) then (some (0)) else (ck p1 20 (un.to p1.toNatClampNeg) fun v7 => if v7 = p2 then (if p1 = (us.banned) then (some (0)) else (ck p1 20 (un.frm p1.toNatClampNeg) fun v10 => cl1 (f_X3_isReached v10 us) fun r11 => if r11 = 0 then (some (0)) else (if (us.forced) = ((-1)) then (f_X3_mayLead_86 un us p1 p2) else (ck (us.forced) 20 (un.to (us.forced).toNatClampNeg) fun v15 => if v15 = p2 then (if p1 = (us.forced) then (f_X3_mayLead_86 un us p1 p2) else (some (0))) else (f_X3_mayLead_86 un us p1 p2))))) else (some (0)))
def f_X3_choose_97 (cal : Int32 → Int64 → NS → SS → Option (SS)) (un : NS) (rec50 : Int32 → Int64 → Int32 → SS → Option (SS)) (x1 : Int32) (x2 : Int64) (x4 : Int32) (us : SS) : Option (SS) := bnd (x4 + 1) fun y1 => rec50 x1 x2 y1 us
def f_X3_choose_B50 (cal : Int32 → Int64 → NS → SS → Option (SS)) (un : NS)  (rec50 : Int32 → Int64 → Int32 → SS → Option (SS)) (x1 : Int32) (x2 : Int64) (x4 : Int32) (us : SS) : Option (SS) := if (20 : Int32) ≤ x4 then (some (us)) else (cl1 (f_X3_mayLead x4 x1 un us) fun r3 => if r3 = 0 then (f_X3_choose_97 cal un rec50 x1 x2 x4 us) else (ck x1 8 (us.setInto (upd us.into x1.toNatClampNeg x4)) fun us6 => cl1 (f_X3_weightOf x4 un us6) fun r7 => cl1 (cal (x1 + 1) (x2 + r7) un us6) fun us9 => ck x1 8 (us9.setInto (upd us9.into x1.toNatClampNeg ((-1)))) fun us11 => f_X3_choose_97 cal un rec50 x1 x2 x4 us11))
def f_X3_choose_50 (cal : Int32 → Int64 → NS → SS → Option (SS)) (un : NS)  : Nat → Int32 → Int64 → Int32 → SS → Option (SS)
  | 0 => fun _ _ _ _ => none
  | n + 1 => fun x1 x2 x4 us => f_X3_choose_B50 cal un  (f_X3_choose_50 cal un  n) x1 x2 x4 us
def f_X3_choose_38 (cal : Int32 → Int64 → NS → SS → Option (SS)) (un : NS)  (x1 : Int32) (x2 : Int64) (us : SS) : Option (SS) := cl1 (cal (x1 + 1) x2 un us) fun us12 => some (us12)
def f_X3_choose_E (cal : Int32 → Int64 → NS → SS → Option (SS)) (p1 : Int32) (p2 : Int64) (un : NS) (us : SS) : Option (SS) := if p2 < (us.next) then (if p1 < 8 then (if p1 = (us.root) then (f_X3_choose_38 cal un p1 p2 us) else (cl1 (f_X3_isReached p1 us) fun r17 => if r17 = 0 then (f_X3_choose_38 cal un p1 p2 us) else (f_X3_choose_50 cal un FU p1 p2 0 us))) else (cl1 (f_X3_noteTree p2 us) fun us20 => some (us20))) else (some (us))
def f_X3_choose : Nat → Int32 → Int64 → NS → SS → Option (SS)
  | 0 => fun _ _ _ _ => none
  | d + 1 => fun p1 p2 un us => f_X3_choose_E (f_X3_choose d) p1 p2 un us
def f_X3_seek (p1 : Int32) (p2 : Int32) (p3 : Int32) (un : NS) (us : SS) : Option (SS) := bnd (us.setRoot p1) fun us1 => bnd (us1.setBanned p2) fun us2 => bnd (us2.setForced p3) fun us3 => bnd (us3.setFirst 9223372036854775807) fun us4 => bnd (us4.setNext 9223372036854775807) fun us5 => cl1 (f_fill_into ((-1)) us5) fun us6 => cl1 (f_X3_findReach un us6) fun us8 => cl1 (f_X3_choose 9 0 0 un us8) fun us10 => some (us10)
