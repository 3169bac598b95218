def f_X0_isThere (p1 : Int32) (uh : HS) : Option (Int32) := if p1 < 0 then (some (0)) else (if (uh.came) ≤ p1 then (some (0)) else (ck p1 300 (uh.deskOf p1.toNatClampNeg) fun v3 => if v3 = ((-1)) then (some (0)) else (some (1))))
def f_X0_isPlainIn (p1 : Int32) (p2 : Int32) (uh : HS) : Option (Int32) := ck p1 300 (uh.deskOf p1.toNatClampNeg) fun v1 => if v1 = p2 then (ck p1 300 (uh.crossed p1.toNatClampNeg) fun v3 => if v3 = 0 then (some (1)) else (some (0))) else (some (0))
def f_X0_isLess (p1 : Int32) (p2 : Int32) (uh : HS) : Option (Int32) := ck p1 300 (uh.keyOf p1.toNatClampNeg) fun v1 => ck p2 300 (uh.keyOf p2.toNatClampNeg) fun v2 => if v1 < v2 then (some (1)) else (ck p1 300 (uh.keyOf p1.toNatClampNeg) fun v4 => ck p2 300 (uh.keyOf p2.toNatClampNeg) fun v5 => if v4 = v5 then (if p2 ≤ p1 then (some (0)) else (some (1))) else (some (0)))
def f_X0_rankOf (p1 : Int32) (uh : HS) : Option (Int32) := if p1 = ((-1)) then (some (0)) else (ck p1 300 (uh.rank p1.toNatClampNeg) fun v2 => some (v2))
def f_X0_newItem (p1 : Int32) (p2 : Int32) (uh : HS) : Option (Int32 × HS) := bnd (uh.came) fun y1 => bnd (uh.setCame ((uh.came) + 1)) fun uh2 => ck y1 300 (uh2.setKeyOf (vp_updL uh2.keyOf y1.toNatClampNeg (p1.toInt64))) fun uh3 => ck y1 300 (uh3.setTagOf (upd uh3.tagOf y1.toNatClampNeg p2)) fun uh4 => ck y1 300 (uh4.setCrossed (upd uh4.crossed y1.toNatClampNeg 0)) fun uh5 => ck y1 300 (uh5.setDeskOf (upd uh5.deskOf y1.toNatClampNeg ((-1)))) fun uh6 => some (y1, uh6)
def f_X0_settle_101   (s1 : Int32) (s2 : Int32) (s3 : Int32) (uh : HS) : Option (HS) := ck s1 300 (uh.setRank (upd uh.rank s1.toNatClampNeg (s2 + s3))) fun uh1 => some (uh1)
def f_X0_settle_85   (x1 : Int32) (x2 : Int32) (x3 : Int32) (uh : HS) : Option (HS) := if x3 ≤ x2 then (f_X0_settle_101 x1 1 x3 uh) else (f_X0_settle_101 x1 1 x2 uh)
def f_X0_settle_51   (x1 : Int32) (x2 : Int32) (s0 : Int32) (uh : HS) : Option (HS) := if s0 ≤ x2 then (f_X0_settle_85 x1 x2 s0 uh) else (ck x1 300 (uh.left x1.toNatClampNeg) fun v4 => ck x1 300 (uh.right x1.toNatClampNeg) fun v5 => ck x1 300 (uh.setLeft (upd uh.left x1.toNatClampNeg v5)) fun uh6 => ck x1 300 (uh6.setRight (upd uh6.right x1.toNatClampNeg v4)) fun uh7 => f_X0_settle_85 x1 x2 s0 uh7)
def f_X0_settle_25   (x1 : Int32) (s0 : Int32) (uh : HS) : Option (HS) := ck x1 300 (uh.right x1.toNatClampNeg) fun v8 => if v8 = ((-1)) then (f_X0_settle_51 x1 s0 0 uh) else (ck x1 300 (uh.right x1.toNatClampNeg) fun v10 => ck v10 300 (uh.rank v10.toNatClampNeg) fun v11 => f_X0_settle_51 x1 s0 v11 uh)
def f_X0_settle (p1 : Int32) (uh : HS) : Option (HS) := ck p1 300 (uh.left p1.toNatClampNeg) fun v12 => if v12 = ((-1)) then (f_X0_settle_25 p1 0 uh) else (ck p1 300 (uh.left p1.toNatClampNeg) fun v14 => ck v14 300 (uh.rank v14.toNatClampNeg) fun v15 => f_X0_settle_25 p1 v15 uh)
def f_X0_join_167   (x6 : Int32) (uh : HS) : Option (Int32 × HS) := if x6 = ((-1)) then (some (x6, uh)) else (ck x6 300 (uh.setUp (upd uh.up x6.toNatClampNeg ((-1)))) fun uh2 => some (x6, uh2))
def f_X0_join_147  (rec100 : Int32 → Int32 → Int32 → HS → Option (Int32 × HS)) (x5 : Int32) (x7 : Int32) (x8 : Int32) (uh : HS) : Option (Int32 × HS) := cl1 (f_X0_settle x5 uh) fun uh3 => bnd (x7 + 1) fun y5 => rec100 x8 x5 y5 uh3
def f_X0_join_B100   (rec100 : Int32 → Int32 → Int32 → HS → Option (Int32 × HS)) (x5 : Int32) (x6 : Int32) (x7 : Int32) (uh : HS) : Option (Int32 × HS) := if (300 : Int32) ≤ x7 then (f_X0_join_167 x6 uh) else (if x5 = ((-1)) then (f_X0_join_167 x6 uh) else (ck x5 300 (uh.up x5.toNatClampNeg) fun v8 => ck x5 300 (uh.setRight (upd uh.right x5.toNatClampNeg x6)) fun uh9 => if x6 = ((-1)) then (f_X0_join_147 rec100 x5 x7 v8 uh9) else (ck x6 300 (uh9.setUp (upd uh9.up x6.toNatClampNeg x5)) fun uh11 => f_X0_join_147 rec100 x5 x7 v8 uh11)))
def f_X0_join_100   : Nat → Int32 → Int32 → Int32 → HS → Option (Int32 × HS)
  | 0 => fun _ _ _ _ => none
  | n + 1 => fun x5 x6 x7 uh => f_X0_join_B100   (f_X0_join_100   n) x5 x6 x7 uh
def f_X0_join_95   (x5 : Int32) (s0 : Int32) (uh : HS) : Option (Int32 × HS) := f_X0_join_100 FU x5 s0 0 uh
def f_X0_join_84   (x3 : Int32) (x4 : Int32) (x5 : Int32) (uh : HS) : Option (Int32 × HS) := if x3 = ((-1)) then (f_X0_join_95 x5 x4 uh) else (f_X0_join_95 x5 x3 uh)
def f_X0_join_50  (rec11 : Int32 → Int32 → Int32 → Int32 → HS → Option (Int32 × HS)) (x3 : Int32) (x4 : Int32) (x5 : Int32) (x6 : Int32) (uh : HS) : Option (Int32 × HS) := ck x3 300 (uh.setUp (upd uh.up x3.toNatClampNeg x5)) fun uh13 => ck x3 300 (uh13.right x3.toNatClampNeg) fun v14 => bnd (uh13.setSteps ((uh13.steps) + 1)) fun uh15 => bnd (x6 + 1) fun y16 => rec11 v14 x4 x3 y16 uh15
def f_X0_join_B11   (rec11 : Int32 → Int32 → Int32 → Int32 → HS → Option (Int32 × HS)) (x3 : Int32) (x4 : Int32) (x5 : Int32) (x6 : Int32) (uh : HS) : Option (Int32 × HS) := if (300 : Int32) ≤ x6 then (f_X0_join_84 x3 x4 x5 uh) else (if x3 = ((-1)) then (f_X0_join_84 x3 x4 x5 uh) else (if x4 = ((-1)) then (f_X0_join_84 x3 x4 x5 uh) else (cl1 (f_X0_isLess x4 x3 uh) fun r20 => if r20 = 0 then (f_X0_join_50 rec11 x3 x4 x5 x6 uh) else (f_X0_join_50 rec11 x4 x3 x5 x6 uh))))
def f_X0_join_11   : Nat → Int32 → Int32 → Int32 → Int32 → HS → Option (Int32 × HS)
  | 0 => fun _ _ _ _ _ => none
  | n + 1 => fun x3 x4 x5 x6 uh => f_X0_join_B11   (f_X0_join_11   n) x3 x4 x5 x6 uh
def f_X0_join (p1 : Int32) (p2 : Int32) (uh : HS) : Option (Int32 × HS) := f_X0_join_11 FU p1 p2 ((-1)) 0 uh
def f_X0_place (p1 : Int32) (p2 : Int32) (uh : HS) : Option (HS) := ck p1 300 (uh.setLeft (upd uh.left p1.toNatClampNeg ((-1)))) fun uh1 => ck p1 300 (uh1.setRight (upd uh1.right p1.toNatClampNeg ((-1)))) fun uh2 => ck p1 300 (uh2.setUp (upd uh2.up p1.toNatClampNeg ((-1)))) fun uh3 => ck p1 300 (uh3.setRank (upd uh3.rank p1.toNatClampNeg 1)) fun uh4 => ck p1 300 (uh4.setDeskOf (upd uh4.deskOf p1.toNatClampNeg p2)) fun uh5 => ck p2 6 (uh5.root p2.toNatClampNeg) fun v6 => cl2 (f_X0_join v6 p1 uh5) fun r7 uh8 => ck p2 6 (uh8.setRoot (upd uh8.root p2.toNatClampNeg r7)) fun uh10 => some (uh10)
def f_X0_takeRoot (p1 : Int32) (uh : HS) : Option (Int32 × HS) := ck p1 6 (uh.root p1.toNatClampNeg) fun v1 => if v1 = ((-1)) then (some (v1, uh)) else (ck v1 300 (uh.left v1.toNatClampNeg) fun v3 => ck v1 300 (uh.right v1.toNatClampNeg) fun v4 => cl2 (f_X0_join v3 v4 uh) fun r5 uh6 => ck p1 6 (uh6.setRoot (upd uh6.root p1.toNatClampNeg r5)) fun uh8 => ck v1 300 (uh8.setDeskOf (upd uh8.deskOf v1.toNatClampNeg ((-1)))) fun uh9 => some (v1, uh9))
def f_X0_sweep_64  (rec2 : Int32 → HS → Option (HS)) (x1 : Int32) (uh : HS) : Option (HS) := bnd (x1 + 1) fun y1 => rec2 y1 uh
def f_X0_sweep_B10  (rec2 : Int32 → HS → Option (HS)) (rec10 : Int32 → Int32 → HS → Option (HS)) (x1 : Int32) (x2 : Int32) (uh : HS) : Option (HS) := if (300 : Int32) ≤ x2 then (f_X0_sweep_64 rec2 x1 uh) else (ck x1 6 (uh.root x1.toNatClampNeg) fun v3 => if v3 = ((-1)) then (f_X0_sweep_64 rec2 x1 uh) else (ck x1 6 (uh.root x1.toNatClampNeg) fun v5 => ck v5 300 (uh.crossed v5.toNatClampNeg) fun v6 => if v6 = 1 then (cl2 (f_X0_takeRoot x1 uh) fun r8 uh9 => bnd (uh9.setSwept ((uh9.swept) + 1)) fun uh11 => bnd (x2 + 1) fun y12 => rec10 x1 y12 uh11) else (f_X0_sweep_64 rec2 x1 uh)))
def f_X0_sweep_10  (rec2 : Int32 → HS → Option (HS)) : Nat → Int32 → Int32 → HS → Option (HS)
  | 0 => fun _ _ _ => none
  | n + 1 => fun x1 x2 uh => f_X0_sweep_B10  rec2 (f_X0_sweep_10  rec2 n) x1 x2 uh
def f_X0_sweep_B2   (rec2 : Int32 → HS → Option (HS)) (x1 : Int32) (uh : HS) : Option (HS) := if (6 : Int32) ≤ x1 then (some (uh)) else (f_X0_sweep_10 rec2 FU x1 0 uh)
def f_X0_sweep_2   : Nat → Int32 → HS → Option (HS)
  | 0 => fun _ _ => none
  | n + 1 => fun x1 uh => f_X0_sweep_B2   (f_X0_sweep_2   n) x1 uh
def f_X0_sweep  (uh : HS) : Option (HS) := f_X0_sweep_2 FU 0 uh
def f_X0_dispatch (p1 : Int32) (uh : HS) : Option (Int32 × HS) := cl2 (f_X0_takeRoot p1 uh) fun r1 uh2 => if r1 = ((-1)) then (some (r1, uh2)) else (bnd ((uh2.logged) - (uh2.logged) / 40 * 40) fun y5 => ck y5 40 (uh2.setLogItem (upd uh2.logItem y5.toNatClampNeg r1)) fun uh6 => ck r1 300 (uh6.keyOf r1.toNatClampNeg) fun v7 => ck y5 40 (uh6.setLogKey (vp_updL uh6.logKey y5.toNatClampNeg v7)) fun uh8 => ck y5 40 (uh8.setLogDesk (upd uh8.logDesk y5.toNatClampNeg p1)) fun uh9 => bnd (uh9.setLogged ((uh9.logged) + 1)) fun uh10 => cl1 (f_X0_sweep uh10) fun uh11 => some (r1, uh11))
def f_X0_callNext_21   (x1 : Int32) (s1 : Int32) (uh : HS) : Option (Int32 × HS) := bnd (uh.setTurn s1) fun uh1 => cl2 (f_X0_dispatch x1 uh1) fun r2 uh3 => some (r2, uh3)
def f_X0_callNext  (uh : HS) : Option (Int32 × HS) := bnd (uh.turn) fun y5 => if (6 : Int32) ≤ (y5 + 1) then (f_X0_callNext_21 y5 0 uh) else (f_X0_callNext_21 y5 (y5 + 1) uh)
def f_X0_moveLeast_21   (x3 : Int32) (uh : HS) : Option (Int32 × HS) := cl1 (f_X0_sweep uh) fun uh1 => some (x3, uh1)
def f_X0_moveLeast (p1 : Int32) (p2 : Int32) (uh : HS) : Option (Int32 × HS) := cl2 (f_X0_takeRoot p1 uh) fun r3 uh4 => cl1 (f_X0_sweep uh4) fun uh6 => if r3 = ((-1)) then (f_X0_moveLeast_21 r3 uh6) else (cl1 (f_X0_place r3 p2 uh6) fun uh9 => f_X0_moveLeast_21 r3 uh9)
def f_X0_cutOut_B93   (rec93 : Int32 → Int32 → HS → Option (HS)) (x2 : Int32) (x4 : Int32) (uh : HS) : Option (HS) := if (300 : Int32) ≤ x4 then (some (uh)) else (if x2 = ((-1)) then (some (uh)) else (cl1 (f_X0_settle x2 uh) fun uh3 => ck x2 300 (uh3.up x2.toNatClampNeg) fun v5 => bnd (x4 + 1) fun y6 => rec93 v5 y6 uh3))
def f_X0_cutOut_93   : Nat → Int32 → Int32 → HS → Option (HS)
  | 0 => fun _ _ _ => none
  | n + 1 => fun x2 x4 uh => f_X0_cutOut_B93   (f_X0_cutOut_93   n) x2 x4 uh
def f_X0_cutOut_83   (x1 : Int32) (x2 : Int32) (uh : HS) : Option (HS) := ck x1 300 (uh.setDeskOf (upd uh.deskOf x1.toNatClampNeg ((-1)))) fun uh7 => f_X0_cutOut_93 FU x2 0 uh7
def f_X0_cutOut_71   (x1 : Int32) (x2 : Int32) (x3 : Int32) (uh : HS) : Option (HS) := if x3 = ((-1)) then (f_X0_cutOut_83 x1 x2 uh) else (ck x3 300 (uh.setUp (upd uh.up x3.toNatClampNeg x2)) fun uh9 => f_X0_cutOut_83 x1 x2 uh9)
def f_X0_cutOut (p1 : Int32) (uh : HS) : Option (HS) := ck p1 300 (uh.up p1.toNatClampNeg) fun v10 => ck p1 300 (uh.left p1.toNatClampNeg) fun v11 => ck p1 300 (uh.right p1.toNatClampNeg) fun v12 => cl2 (f_X0_join v11 v12 uh) fun r13 uh14 => if v10 = ((-1)) then (ck p1 300 (uh14.deskOf p1.toNatClampNeg) fun v21 => ck v21 6 (uh14.setRoot (upd uh14.root v21.toNatClampNeg r13)) fun uh22 => f_X0_cutOut_71 p1 v10 r13 uh22) else (ck v10 300 (uh14.left v10.toNatClampNeg) fun v17 => if v17 = p1 then (ck v10 300 (uh14.setLeft (upd uh14.left v10.toNatClampNeg r13)) fun uh20 => f_X0_cutOut_71 p1 v10 r13 uh20) else (ck v10 300 (uh14.setRight (upd uh14.right v10.toNatClampNeg r13)) fun uh19 => f_X0_cutOut_71 p1 v10 r13 uh19))
def f_X0_raiseAll_31  (rec2 : Int32 → Int32 → Int32 → HS → Option (HS)) (x1 : Int32) (x2 : Int32) (x3 : Int32) (uh : HS) : Option (HS) := bnd (x3 + 1) fun y1 => rec2 x1 x2 y1 uh
def f_X0_raiseAll_B2   (rec2 : Int32 → Int32 → Int32 → HS → Option (HS)) (x1 : Int32) (x2 : Int32) (x3 : Int32) (uh : HS) : Option (HS) := if (uh.came) ≤ x3 then (some (uh)) else (ck x3 300 (uh.deskOf x3.toNatClampNeg) fun v3 => if v3 = x1 then (ck x3 300 (uh.keyOf x3.toNatClampNeg) fun v5 => ck x3 300 (uh.setKeyOf (vp_updL uh.keyOf x3.toNatClampNeg (v5 + (x2.toInt64)))) fun uh6 => f_X0_raiseAll_31 rec2 x1 x2 x3 uh6) else (f_X0_raiseAll_31 rec2 x1 x2 x3 uh))
def f_X0_raiseAll_2   : Nat → Int32 → Int32 → Int32 → HS → Option (HS)
  | 0 => fun _ _ _ _ => none
  | n + 1 => fun x1 x2 x3 uh => f_X0_raiseAll_B2   (f_X0_raiseAll_2   n) x1 x2 x3 uh
def f_X0_raiseAll (p1 : Int32) (p2 : Int32) (uh : HS) : Option (HS) := f_X0_raiseAll_2 FU p1 p2 0 uh
def f_X0_relabel_27  (rec2 : Int32 → Int32 → Int32 → HS → Option (HS)) (x1 : Int32) (x2 : Int32) (x3 : Int32) (uh : HS) : Option (HS) := bnd (x3 + 1) fun y1 => rec2 x1 x2 y1 uh
def f_X0_relabel_B2   (rec2 : Int32 → Int32 → Int32 → HS → Option (HS)) (x1 : Int32) (x2 : Int32) (x3 : Int32) (uh : HS) : Option (HS) := if (uh.came) ≤ x3 then (some (uh)) else (ck x3 300 (uh.deskOf x3.toNatClampNeg) fun v3 => if v3 = x1 then (ck x3 300 (uh.setDeskOf (upd uh.deskOf x3.toNatClampNeg x2)) fun uh5 => f_X0_relabel_27 rec2 x1 x2 x3 uh5) else (f_X0_relabel_27 rec2 x1 x2 x3 uh))
def f_X0_relabel_2   : Nat → Int32 → Int32 → Int32 → HS → Option (HS)
  | 0 => fun _ _ _ _ => none
  | n + 1 => fun x1 x2 x3 uh => f_X0_relabel_B2   (f_X0_relabel_2   n) x1 x2 x3 uh
def f_X0_relabel (p1 : Int32) (p2 : Int32) (uh : HS) : Option (HS) := f_X0_relabel_2 FU p1 p2 0 uh
def f_X0_howManyAbove_B9 (uh : HS)  (rec9 : Int32 → Int32 → Option (Int32)) (x2 : Int32) (x3 : Int32) : Option (Int32) := if x3 = ((-1)) then (some (x2)) else (if (300 : Int32) ≤ x2 then (some (x2)) else (bnd (x2 + 1) fun y3 => ck x3 300 (uh.up x3.toNatClampNeg) fun v4 => rec9 y3 v4))
def f_X0_howManyAbove_9 (uh : HS)  : Nat → Int32 → Int32 → Option (Int32)
  | 0 => fun _ _ => none
  | n + 1 => fun x2 x3 => f_X0_howManyAbove_B9 uh  (f_X0_howManyAbove_9 uh  n) x2 x3
def f_X0_howManyAbove (p1 : Int32) (uh : HS) : Option (Int32) := ck p1 300 (uh.up p1.toNatClampNeg) fun v5 => f_X0_howManyAbove_9 uh FU 0 v5
def f_X0_allIn_28 (uh : HS) (rec4 : Int32 → Int32 → Int32 → Option (Int32)) (x1 : Int32) (x3 : Int32) (s0 : Int32) (s1 : Int32) : Option (Int32) := bnd (s0 + s1) fun y1 => bnd (x3 + 1) fun y2 => rec4 x1 y1 y2
def f_X0_allIn_B4 (uh : HS)  (rec4 : Int32 → Int32 → Int32 → Option (Int32)) (x1 : Int32) (x2 : Int32) (x3 : Int32) : Option (Int32) := if (uh.came) ≤ x3 then (some (x2)) else (ck x3 300 (uh.deskOf x3.toNatClampNeg) fun v4 => if v4 = x1 then (f_X0_allIn_28 uh rec4 x1 x3 x2 1) else (f_X0_allIn_28 uh rec4 x1 x3 x2 0))
def f_X0_allIn_4 (uh : HS)  : Nat → Int32 → Int32 → Int32 → Option (Int32)
  | 0 => fun _ _ _ => none
  | n + 1 => fun x1 x2 x3 => f_X0_allIn_B4 uh  (f_X0_allIn_4 uh  n) x1 x2 x3
def f_X0_allIn (p1 : Int32) (uh : HS) : Option (Int32) := f_X0_allIn_4 uh FU p1 0 0
def f_X0_plainIn_27 (uh : HS) (rec4 : Int32 → Int32 → Int32 → Option (Int32)) (x1 : Int32) (x3 : Int32) (s0 : Int32) (s1 : Int32) : Option (Int32) := bnd (s0 + s1) fun y1 => bnd (x3 + 1) fun y2 => rec4 x1 y1 y2
def f_X0_plainIn_B4 (uh : HS)  (rec4 : Int32 → Int32 → Int32 → Option (Int32)) (x1 : Int32) (x2 : Int32) (x3 : Int32) : Option (Int32) := if (uh.came) ≤ x3 then (some (x2)) else (cl1 (f_X0_isPlainIn x3 x1 uh) fun r4 => if r4 = 0 then (f_X0_plainIn_27 uh rec4 x1 x3 x2 0) else (f_X0_plainIn_27 uh rec4 x1 x3 x2 1))
def f_X0_plainIn_4 (uh : HS)  : Nat → Int32 → Int32 → Int32 → Option (Int32)
  | 0 => fun _ _ _ => none
  | n + 1 => fun x1 x2 x3 => f_X0_plainIn_B4 uh  (f_X0_plainIn_4 uh  n) x1 x2 x3
def f_X0_plainIn (p1 : Int32) (uh : HS) : Option (Int32) := f_X0_plainIn_4 uh FU p1 0 0
def f_X0_plainLess_40 (uh : HS) (rec5 : Int32 → Int32 → Int32 → Int32 → Option (Int32)) (x1 : Int32) (x2 : Int32) (x4 : Int32) (s0 : Int32) (s1 : Int32) : Option (Int32) := bnd (s0 + s1) fun y1 => bnd (x4 + 1) fun y2 => rec5 x1 x2 y1 y2
def f_X0_plainLess_39 (uh : HS) (rec5 : Int32 → Int32 → Int32 → Int32 → Option (Int32)) (x1 : Int32) (x2 : Int32) (x4 : Int32) (s0 : Int32) : Option (Int32) := f_X0_plainLess_40 uh rec5 x1 x2 x4 s0 0
def f_X0_plainLess_B5 (uh : HS)  (rec5 : Int32 → Int32 → Int32 → Int32 → Option (Int32)) (x1 : Int32) (x2 : Int32) (x3 : Int32) (x4 : Int32) : Option (Int32) := if (uh.came) ≤ x4 then (some (x3)) else (cl1 (f_X0_isPlainIn x4 x1 uh) fun r4 => if r4 = 0 then (f_X0_plainLess_39 uh rec5 x1 x2 x4 x3) else (cl1 (f_X0_isLess x4 x2 uh) fun r7 => if r7 = 0 then (f_X0_plainLess_39 uh rec5 x1 x2 x4 x3) else (f_X0_plainLess_40 uh rec5 x1 x2 x4 x3 1)))
def f_X0_plainLess_5 (uh : HS)  : Nat → Int32 → Int32 → Int32 → Int32 → Option (Int32)
  | 0 => fun _ _ _ _ => none
  | n + 1 => fun x1 x2 x3 x4 => f_X0_plainLess_B5 uh  (f_X0_plainLess_5 uh  n) x1 x2 x3 x4
def f_X0_plainLess (p1 : Int32) (p2 : Int32) (uh : HS) : Option (Int32) := f_X0_plainLess_5 uh FU p1 p2 0 0
def f_X0_plainBelow_44 (uh : HS) (rec6 : Int32 → Int64 → Int32 → Int32 → Option (Int32)) (x1 : Int32) (x2 : Int64) (x5 : Int32) (s0 : Int32) (s1 : Int32) : Option (Int32) := bnd (s0 + s1) fun y1 => bnd (x5 + 1) fun y2 => rec6 x1 x2 y1 y2
def f_X0_plainBelow_43 (uh : HS) (rec6 : Int32 → Int64 → Int32 → Int32 → Option (Int32)) (x1 : Int32) (x2 : Int64) (x5 : Int32) (s0 : Int32) : Option (Int32) := f_X0_plainBelow_44 uh rec6 x1 x2 x5 s0 0
def f_X0_plainBelow_B6 (uh : HS)  (rec6 : Int32 → Int64 → Int32 → Int32 → Option (Int32)) (x1 : Int32) (x2 : Int64) (x4 : Int32) (x5 : Int32) : Option (Int32) := if (uh.came) ≤ x5 then (some (x4)) else (cl1 (f_X0_isPlainIn x5 x1 uh) fun r4 => if r4 = 0 then (f_X0_plainBelow_43 uh rec6 x1 x2 x5 x4) else (ck x5 300 (uh.keyOf x5.toNatClampNeg) fun v7 => if x2 ≤ v7 then (f_X0_plainBelow_43 uh rec6 x1 x2 x5 x4) else (f_X0_plainBelow_44 uh rec6 x1 x2 x5 x4 1)))
def f_X0_plainBelow_6 (uh : HS)  : Nat → Int32 → Int64 → Int32 → Int32 → Option (Int32)
  | 0 => fun _ _ _ _ => none
  | n + 1 => fun x1 x2 x4 x5 => f_X0_plainBelow_B6 uh  (f_X0_plainBelow_6 uh  n) x1 x2 x4 x5
def f_X0_plainBelow (p1 : Int32) (p2 : Int64) (uh : HS) : Option (Int32) := f_X0_plainBelow_6 uh FU p1 p2 0 0
def f_X0_plainWithTag_41 (uh : HS) (rec5 : Int32 → Int32 → Int32 → Int32 → Option (Int32)) (x1 : Int32) (x2 : Int32) (x4 : Int32) (s0 : Int32) (s1 : Int32) : Option (Int32) := bnd (s0 + s1) fun y1 => bnd (x4 + 1) fun y2 => rec5 x1 x2 y1 y2
def f_X0_plainWithTag_40 (uh : HS) (rec5 : Int32 → Int32 → Int32 → Int32 → Option (Int32)) (x1 : Int32) (x2 : Int32) (x4 : Int32) (s0 : Int32) : Option (Int32) := f_X0_plainWithTag_41 uh rec5 x1 x2 x4 s0 0
def f_X0_plainWithTag_B5 (uh : HS)  (rec5 : Int32 → Int32 → Int32 → Int32 → Option (Int32)) (x1 : Int32) (x2 : Int32) (x3 : Int32) (x4 : Int32) : Option (Int32) := if (uh.came) ≤ x4 then (some (x3)) else (cl1 (f_X0_isPlainIn x4 x1 uh) fun r4 => if r4 = 0 then (f_X0_plainWithTag_40 uh rec5 x1 x2 x4 x3) else (ck x4 300 (uh.tagOf x4.toNatClampNeg) fun v7 => if v7 = x2 then (f_X0_plainWithTag_41 uh rec5 x1 x2 x4 x3 1) else (f_X0_plainWithTag_40 uh rec5 x1 x2 x4 x3)))
def f_X0_plainWithTag_5 (uh : HS)  : Nat → Int32 → Int32 → Int32 → Int32 → Option (Int32)
  | 0 => fun _ _ _ _ => none
  | n + 1 => fun x1 x2 x3 x4 => f_X0_plainWithTag_B5 uh  (f_X0_plainWithTag_5 uh  n) x1 x2 x3 x4
def f_X0_plainWithTag (p1 : Int32) (p2 : Int32) (uh : HS) : Option (Int32) := f_X0_plainWithTag_5 uh FU p1 p2 0 0
def f_X0_rankedIn_42 (uh : HS) (rec5 : Int32 → Int32 → Int32 → Int32 → Option (Int32)) (x1 : Int32) (x2 : Int32) (x4 : Int32) (s0 : Int32) (s1 : Int32) : Option (Int32) := bnd (s0 + s1) fun y1 => bnd (x4 + 1) fun y2 => rec5 x1 x2 y1 y2
def f_X0_rankedIn_41 (uh : HS) (rec5 : Int32 → Int32 → Int32 → Int32 → Option (Int32)) (x1 : Int32) (x2 : Int32) (x4 : Int32) (s0 : Int32) : Option (Int32) := f_X0_rankedIn_42 uh rec5 x1 x2 x4 s0 0
def f_X0_rankedIn_B5 (uh : HS)  (rec5 : Int32 → Int32 → Int32 → Int32 → Option (Int32)) (x1 : Int32) (x2 : Int32) (x3 : Int32) (x4 : Int32) : Option (Int32) := if (uh.came) ≤ x4 then (some (x3)) else (ck x4 300 (uh.deskOf x4.toNatClampNeg) fun v4 => if v4 = x1 then (ck x4 300 (uh.rank x4.toNatClampNeg) fun v6 => if v6 = x2 then (f_X0_rankedIn_42 uh rec5 x1 x2 x4 x3 1) else (f_X0_rankedIn_41 uh rec5 x1 x2 x4 x3)) else (f_X0_rankedIn_41 uh rec5 x1 x2 x4 x3))
def f_X0_rankedIn_5 (uh : HS)  : Nat → Int32 → Int32 → Int32 → Int32 → Option (Int32)
  | 0 => fun _ _ _ _ => none
  | n + 1 => fun x1 x2 x3 x4 => f_X0_rankedIn_B5 uh  (f_X0_rankedIn_5 uh  n) x1 x2 x3 x4
def f_X0_rankedIn (p1 : Int32) (p2 : Int32) (uh : HS) : Option (Int32) := f_X0_rankedIn_5 uh FU p1 p2 0 0
def f_X0_allThere_28 (uh : HS) (rec4 : Int32 → Int32 → Option (Int32)) (x2 : Int32) (s0 : Int32) (s1 : Int32) : Option (Int32) := bnd (s0 + s1) fun y1 => bnd (x2 + 1) fun y2 => rec4 y1 y2
def f_X0_allThere_B4 (uh : HS)  (rec4 : Int32 → Int32 → Option (Int32)) (x1 : Int32) (x2 : Int32) : Option (Int32) := if (uh.came) ≤ x2 then (some (x1)) else (ck x2 300 (uh.deskOf x2.toNatClampNeg) fun v4 => if v4 = ((-1)) then (f_X0_allThere_28 uh rec4 x2 x1 0) else (f_X0_allThere_28 uh rec4 x2 x1 1))
def f_X0_allThere_4 (uh : HS)  : Nat → Int32 → Int32 → Option (Int32)
  | 0 => fun _ _ => none
  | n + 1 => fun x1 x2 => f_X0_allThere_B4 uh  (f_X0_allThere_4 uh  n) x1 x2
def f_X0_allThere  (uh : HS) : Option (Int32) := f_X0_allThere_4 uh FU 0 0
def f_X0_plainThere_37 (uh : HS) (rec4 : Int32 → Int32 → Option (Int32)) (x2 : Int32) (s0 : Int32) (s1 : Int32) : Option (Int32) := bnd (s0 + s1) fun y1 => bnd (x2 + 1) fun y2 => rec4 y1 y2
def f_X0_plainThere_36 (uh : HS) (rec4 : Int32 → Int32 → Option (Int32)) (x2 : Int32) (s0 : Int32) : Option (Int32) := f_X0_plainThere_37 uh rec4 x2 s0 0
def f_X0_plainThere_B4 (uh : HS)  (rec4 : Int32 → Int32 → Option (Int32)) (x1 : Int32) (x2 : Int32) : Option (Int32) := if (uh.came) ≤ x2 then (some (x1)) else (ck x2 300 (uh.deskOf x2.toNatClampNeg) fun v4 => if v4 = ((-1)) then (f_X0_plainThere_36 uh rec4 x2 x1) else (ck x2 300 (uh.crossed x2.toNatClampNeg) fun v6 => if v6 = 0 then (f_X0_plainThere_37 uh rec4 x2 x1 1) else (f_X0_plainThere_36 uh rec4 x2 x1)))
def f_X0_plainThere_4 (uh : HS)  : Nat → Int32 → Int32 → Option (Int32)
  | 0 => fun _ _ => none
  | n + 1 => fun x1 x2 => f_X0_plainThere_B4 uh  (f_X0_plainThere_4 uh  n) x1 x2
def f_X0_plainThere  (uh : HS) : Option (Int32) := f_X0_plainThere_4 uh FU 0 0
def f_X0_logSize  (uh : HS) : Option (Int32) := bnd (if 40 < (uh.logged) then 40 else (uh.logged)) fun y1 => some (y1)
def f_X0_logPlace (p1 : Int32) (uh : HS) : Option (Int32) := some ((((uh.logged) - 1) - p1) - (((uh.logged) - 1) - p1) / 40 * 40)
def f_X1_isThere (p1 : Int32) (un : NS) : Option (Int32) := if p1 < 0 then (some (0)) else (if (20 : Int32) ≤ p1 then (some (0)) else (ck p1 20 (un.frm p1.toNatClampNeg) fun v3 => if v3 = ((-1)) then (some (0)) else (some (1))))
def f_X1_firstFree_B2 (un : NS)  (rec2 : Int32 → Option (Int32)) (x1 : Int32) : Option (Int32) := if (20 : Int32) ≤ x1 then (some ((-1))) else (ck x1 20 (un.frm x1.toNatClampNeg) fun v2 => if v2 = ((-1)) then (some (x1)) else (bnd (x1 + 1) fun y4 => rec2 y4))
def f_X1_firstFree_2 (un : NS)  : Nat → Int32 → Option (Int32)
  | 0 => fun _ => none
  | n + 1 => fun x1 => f_X1_firstFree_B2 un  (f_X1_firstFree_2 un  n) x1
def f_X1_firstFree  (un : NS) : Option (Int32) := f_X1_firstFree_2 un FU 0
def f_X1_size_26 (un : NS) (rec4 : Int32 → Int32 → Option (Int32)) (x2 : Int32) (s0 : Int32) (s1 : Int32) : Option (Int32) := bnd (s0 + s1) fun y1 => bnd (x2 + 1) fun y2 => rec4 y1 y2
def f_X1_size_B4 (un : NS)  (rec4 : Int32 → Int32 → Option (Int32)) (x1 : Int32) (x2 : Int32) : Option (Int32) := if (20 : Int32) ≤ x2 then (some (x1)) else (ck x2 20 (un.frm x2.toNatClampNeg) fun v4 => if v4 = ((-1)) then (f_X1_size_26 un rec4 x2 x1 0) else (f_X1_size_26 un rec4 x2 x1 1))
def f_X1_size_4 (un : NS)  : Nat → Int32 → Int32 → Option (Int32)
  | 0 => fun _ _ => none
  | n + 1 => fun x1 x2 => f_X1_size_B4 un  (f_X1_size_4 un  n) x1 x2
def f_X1_size  (un : NS) : Option (Int32) := f_X1_size_4 un FU 0 0
def f_X0_copyFrom  (uh : HS) (uk : HS) : Option (HS) := bnd (uh.setCame (uk.came)) fun uh1 => bnd (uh1.setTurn (uk.turn)) fun uh2 => bnd (uh2.setSwept (uk.swept)) fun uh3 => bnd (uh3.setLogged (uk.logged)) fun uh4 => ckc 6 6 6 (uh4.setRoot (va_cpy uk.root uh4.root 0 0 (6 : Int32).toNatClampNeg)) fun uh5 => ckc (uh5.came) 300 300 (uh5.setKeyOf (va_cpy uk.keyOf uh5.keyOf 0 0 (uh5.came).toNatClampNeg)) fun uh6 => ckc (uh6.came) 300 300 (uh6.setTagOf (va_cpy uk.tagOf uh6.tagOf 0 0 (uh6.came).toNatClampNeg)) fun uh7 => ckc (uh7.came) 300 300 (uh7.setDeskOf (va_cpy uk.deskOf uh7.deskOf 0 0 (uh7.came).toNatClampNeg)) fun uh8 => ckc (uh8.came) 300 300 (uh8.setCrossed (va_cpy uk.crossed uh8.crossed 0 0 (uh8.came).toNatClampNeg)) fun uh9 => ckc (uh9.came) 300 300 (uh9.setLeft (va_cpy uk.left uh9.left 0 0 (uh9.came).toNatClampNeg)) fun uh10 => ckc (uh10.came) 300 300 (uh10.setRight (va_cpy uk.right uh10.right 0 0 (uh10.came).toNatClampNeg)) fun uh11 => ckc (uh11.came) 300 300 (uh11.setUp (va_cpy uk.up uh11.up 0 0 (uh11.came).toNatClampNeg)) fun uh12 => ckc (uh12.came) 300 300 (uh12.setRank (va_cpy uk.rank uh12.rank 0 0 (uh12.came).toNatClampNeg)) fun uh13 => ckc 40 40 40 (uh13.setLogItem (va_cpy uk.logItem uh13.logItem 0 0 (40 : Int32).toNatClampNeg)) fun uh14 => ckc 40 40 40 (uh14.setLogKey (va_cpy uk.logKey uh14.logKey 0 0 (40 : Int32).toNatClampNeg)) fun uh15 => ckc 40 40 40 (uh15.setLogDesk (va_cpy uk.logDesk uh15.logDesk 0 0 (40 : Int32).toNatClampNeg)) fun uh16 => some (uh16)
def f_X1_copyFrom  (un : NS) (um : NS) : Option (NS) := ckc 20 20 20 (un.setFrm (va_cpy um.frm un.frm 0 0 (20 : Int32).toNatClampNeg)) fun un1 => ckc 20 20 20 (un1.setTo (va_cpy um.to un1.to 0 0 (20 : Int32).toNatClampNeg)) fun un2 => ckc 20 20 20 (un2.setCost (va_cpy um.cost un2.cost 0 0 (20 : Int32).toNatClampNeg)) fun un3 => some (un3)
def f_fill_root_B5   (rec5 : Int32 → Int32 → Int32 → HS → Option (HS)) (x1 : Int32) (x2 : Int32) (x3 : Int32) (uh : HS) : Option (HS) := if x3 ≤ x2 then (some (uh)) else (ck x2 6 (uh.setRoot (upd uh.root x2.toNatClampNeg x1)) fun uh2 => bnd (x2 + 1) fun y3 => rec5 x1 y3 x3 uh2)
def f_fill_root_5   : Nat → Int32 → Int32 → Int32 → HS → Option (HS)
  | 0 => fun _ _ _ _ => none
  | n + 1 => fun x1 x2 x3 uh => f_fill_root_B5   (f_fill_root_5   n) x1 x2 x3 uh
def f_fill_root (p1 : Int32) (uh : HS) : Option (HS) := f_fill_root_5 FU p1 0 6 uh
def f_fill_nextOf_B5   (rec5 : Int32 → Int32 → Int32 → RS → Option (RS)) (x1 : Int32) (x2 : Int32) (x3 : Int32) (ur : RS) : Option (RS) := if x3 ≤ x2 then (some (ur)) else (ck x2 40 (ur.setNextOf (upd ur.nextOf x2.toNatClampNeg x1)) fun ur2 => bnd (x2 + 1) fun y3 => rec5 x1 y3 x3 ur2)
def f_fill_nextOf_5   : Nat → Int32 → Int32 → Int32 → RS → Option (RS)
  | 0 => fun _ _ _ _ => none
  | n + 1 => fun x1 x2 x3 ur => f_fill_nextOf_B5   (f_fill_nextOf_5   n) x1 x2 x3 ur
def f_fill_nextOf (p1 : Int32) (ur : RS) : Option (RS) := f_fill_nextOf_5 FU p1 0 40 ur
def f_fill_into_B5   (rec5 : Int32 → Int32 → Int32 → SS → Option (SS)) (x1 : Int32) (x2 : Int32) (x3 : Int32) (us : SS) : Option (SS) := if x3 ≤ x2 then (some (us)) else (ck x2 8 (us.setInto (upd us.into x2.toNatClampNeg x1)) fun us2 => bnd (x2 + 1) fun y3 => rec5 x1 y3 x3 us2)
def f_fill_into_5   : Nat → Int32 → Int32 → Int32 → SS → Option (SS)
  | 0 => fun _ _ _ _ => none
  | n + 1 => fun x1 x2 x3 us => f_fill_into_B5   (f_fill_into_5   n) x1 x2 x3 us
def f_fill_into (p1 : Int32) (us : SS) : Option (SS) := f_fill_into_5 FU p1 0 8 us
def f_X0_meldInto (p1 : Int32) (p2 : Int32) (uh : HS) : Option (HS) := ck p1 6 (uh.root p1.toNatClampNeg) fun v1 => ck p2 6 (uh.root p2.toNatClampNeg) fun v2 => cl2 (f_X0_join v1 v2 uh) fun r3 uh4 => ck p1 6 (uh4.setRoot (upd uh4.root p1.toNatClampNeg r3)) fun uh6 => ck p2 6 (uh6.setRoot (upd uh6.root p2.toNatClampNeg ((-1)))) fun uh7 => cl1 (f_X0_relabel p2 p1 uh7) fun uh8 => some (uh8)
