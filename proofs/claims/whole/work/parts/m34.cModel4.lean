set_option maxRecDepth 100000 in
set_option maxHeartbeats 4000000 in
theorem c_X5_second (l : Launch) (D : va_G) (κ : Nat → ClassId) (a : Nat → Nat) (sz : Nat) (p1 : Int32) (p2 : Int32) (uv : MS) (r' : Int32) (uv' : MS) (hf : f_X5_second p1 p2 uv = some (r', uv')) : Met l yX5_second wsX5_second ({ frames := 5, cells := 0, slots := 0, locals := 118 } : Room) (xPc D κ [.ref (a 0), .int p1, .int p2] (WM κ a uv) sz) (xQi D κ r' (WM κ a uv') (va_A (WM κ a uv) sz)) 0 0 (va_A (WM κ a uv) sz) := by
  refine x_ofW (cc := cX5_second) (maxL := 3) (ret := (some .int)) (Qf := fun A => xQi D κ r' (WM κ a uv') A) (by decide) rfl (Nat.le_of_ble_eq_true rfl) ?_
  intro p e s m below meth c hx hb hr hlk hml hown hts hK A hA H locs hG ls hl
  have hown : s.vm.findClass RX5 = some m.cls := hown
  have hl : lv_has ls 3 [(0, .ref (a 0)), (1, .int p1), (2, .int p2)] := hl
  have iX5 : ∀ w ∈ u_ws RX5 TX5 27, w ∈ wsX5_second := fun _ h => List.mem_cons_of_mem _ (List.mem_append_right _ h)
  have k268 := hts (.fieldLink RX5 268 "SpineDesksModel" "isBest" "Z") (List.mem_of_getElem? (i := 3) rfl)
  have k278 := hts (.fieldLink RX5 278 "SpineDesksModel" "bestCost" "I") (List.mem_of_getElem? (i := 4) rfl)
  have k281 := hts (.fieldLink RX5 281 "SpineDesksModel" "bestArcs" "I") (List.mem_of_getElem? (i := 2) rfl)
  have k63 := hts (.fieldLink RX5 63 "SpineDesksModel" "thrown" "I") (List.mem_of_getElem? (i := 1) rfl)
  unfold f_X5_second at hf
  refine lv_aload_n hx hb dX5_second_0 rfl (lv_at hl 0 rfl) ?_
  refine lv_iconst (v := 0) hx hb dX5_second_1 (by decide) ?_
  obtain ⟨uv1, euv1, hf⟩ := bnd_e hf
  refine x_put (C := RX5) (T := TX5) (N := 27) (ci := 5) hx hb hts iX5 tyX5 tyX5_ok nmX5 hown hK hG 0 rfl rfl 0 (by decide) k63 rfl (ty := .int) (v := .int 0) rfl rfl rfl (Nat.le_of_ble_eq_true rfl) (w1 := WM κ a uv1) (by rw [euv1]; rfl) dX5_second_2 (fun H locs hG => ?_)
  refine lv_iload_n hx hb dX5_second_5 rfl (lv_at hl 1 rfl) ?_
  obtain ⟨r2, q3, hf⟩ := cl1_e hf
  refine x_callSi (pre := ([] : va_W)) (wc := ([] : va_W)) (wc1 := ([] : va_W)) (post := WM κ a uv1) (As := [.int p1]) (rest := []) (w1 := WM κ a uv1) ⟨hx, hb, hml, hown, hts⟩ hK hG hA (by simp only [List.append_assoc, List.nil_append, List.append_nil]) (by simp only [List.append_assoc, List.nil_append, List.append_nil]) (c_X5_isPlace l D κ a H.size p1 r2 q3) (va_cwS 1 hts gX5_second_X5_isPlace rfl rfl rfl (by decide +kernel) ⟨Nat.le_of_ble_eq_true rfl, Nat.le_of_ble_eq_true rfl⟩) rfl hl.1 rfl (Nat.le_of_ble_eq_true rfl) dX5_second_6 ⟨Nat.zero_le _, Nat.zero_le _⟩ (fun H locs hG => ?_)
  refine lv_if_eq (tgt := 22) hx hb dX5_second_9 (by decide) (fun c4 => ?_) (fun c4 => ?_)
  · replace hf := if_t c4 hf
    refine lv_iconst (v := (-1)) hx hb dX5_second_22 (by decide) ?_
    have hz := Option.some.inj hf
    have z0 := (Prod.mk.inj hz).1
    replace hz := (Prod.mk.inj hz).2
    have z1 := hz
    exact x_iret hx hb hr hlk hK hG z0 (by rw [z1]) dX5_second_23
  · replace hf := if_f c4 hf
    refine lv_iload_n hx hb dX5_second_12 rfl (lv_at hl 2 rfl) ?_
    refine lv_i2l hx hb dX5_second_13 rfl ?_
    refine lv_lconst (v := 0) hx hb dX5_second_14 (by decide) ?_
    refine lv_lconst (v := 1) hx hb dX5_second_15 (by decide) ?_
    obtain ⟨r5, q6, hf⟩ := cl1_e hf
    refine x_callSi (pre := ([] : va_W)) (wc := ([] : va_W)) (wc1 := ([] : va_W)) (post := WM κ a uv1) (As := [.long (p2.toInt64), .long 0, .long 1]) (rest := []) (w1 := WM κ a uv1) ⟨hx, hb, hml, hown, hts⟩ hK hG hA (by simp only [List.append_assoc, List.nil_append, List.append_nil]) (by simp only [List.append_assoc, List.nil_append, List.append_nil]) (c_X5_in l D κ a H.size (p2.toInt64) 0 1 r5 q6) (va_cwS 3 hts gX5_second_X5_in rfl rfl rfl (by decide +kernel) ⟨Nat.le_of_ble_eq_true rfl, Nat.le_of_ble_eq_true rfl⟩) rfl hl.1 rfl (Nat.le_of_ble_eq_true rfl) dX5_second_16 ⟨Nat.zero_le _, Nat.zero_le _⟩ (fun H locs hG => ?_)
    refine lv_if_ne (tgt := 24) hx hb dX5_second_19 (by decide) (fun c7 => ?_) (fun c7 => ?_)
    · replace hf := if_f c7 hf
      refine lv_aload_n hx hb dX5_second_24 rfl (lv_at hl 0 rfl) ?_
      refine lv_iload_n hx hb dX5_second_25 rfl (lv_at hl 1 rfl) ?_
      refine lv_iconst (v := (-1)) hx hb dX5_second_26 (by decide) ?_
      refine lv_iconst (v := (-1)) hx hb dX5_second_27 (by decide) ?_
      obtain ⟨uv8, q9, hf⟩ := cl1_e hf
      refine x_callVv (pre := ([] : va_W)) (wc := WM κ a uv1) (wc1 := WM κ a uv8) (post := ([] : va_W)) (As := [.int p1, .int ((-1)), .int ((-1))]) (rest := []) (w1 := WM κ a uv8) ⟨hx, hb, hml, hown, hts⟩ hK hG hA (by simp only [List.append_assoc, List.nil_append, List.append_nil]) (by simp only [List.append_assoc, List.nil_append, List.append_nil]) (c_X5_findBest l D κ a H.size p1 ((-1)) ((-1)) uv1 uv8 q9) (cwV 3 hts gX5_second_X5_findBest rfl rfl rfl (by decide +kernel) ⟨Nat.le_of_ble_eq_true rfl, Nat.le_of_ble_eq_true rfl⟩) 0 5 rfl rfl rfl rfl hl.1 rfl (Nat.le_of_ble_eq_true rfl) dX5_second_28 ⟨Nat.zero_le _, Nat.zero_le _⟩ (fun H locs hG => ?_)
      refine lv_aload_n hx hb dX5_second_31 rfl (lv_at hl 0 rfl) ?_
      refine lv_iload_n hx hb dX5_second_32 rfl (lv_at hl 1 rfl) ?_
      refine lv_iconst (v := (-1)) hx hb dX5_second_33 (by decide) ?_
      refine lv_aload_n hx hb dX5_second_34 rfl (lv_at hl 0 rfl) ?_
      refine x_get (C := RX5) (T := TX5) (N := 27) (ci := 5) hx hb hts iX5 hown hK hG 0 rfl rfl 25 (by decide) k281 (v := .int (uv8.bestArcs)) rfl dX5_second_35 ?_
      obtain ⟨uv10, q11, hf⟩ := cl1_e hf
      refine x_callVv (pre := ([] : va_W)) (wc := WM κ a uv8) (wc1 := WM κ a uv10) (post := ([] : va_W)) (As := [.int p1, .int ((-1)), .int (uv8.bestArcs)]) (rest := []) (w1 := WM κ a uv10) ⟨hx, hb, hml, hown, hts⟩ hK hG hA (by simp only [List.append_assoc, List.nil_append, List.append_nil]) (by simp only [List.append_assoc, List.nil_append, List.append_nil]) (c_X5_findBest l D κ a H.size p1 ((-1)) (uv8.bestArcs) uv8 uv10 q11) (cwV 3 hts gX5_second_X5_findBest rfl rfl rfl (by decide +kernel) ⟨Nat.le_of_ble_eq_true rfl, Nat.le_of_ble_eq_true rfl⟩) 0 5 rfl rfl rfl rfl hl.1 rfl (Nat.le_of_ble_eq_true rfl) dX5_second_38 ⟨Nat.zero_le _, Nat.zero_le _⟩ (fun H locs hG => ?_)
      refine lv_aload_n hx hb dX5_second_41 rfl (lv_at hl 0 rfl) ?_
      refine x_get (C := RX5) (T := TX5) (N := 27) (ci := 5) hx hb hts iX5 hown hK hG 0 rfl rfl 26 (by decide) k268 (v := .int (uv10.isBest)) rfl dX5_second_42 ?_
      refine lv_if_ne (tgt := 52) hx hb dX5_second_45 (by decide) (fun c12 => ?_) (fun c12 => ?_)
      · replace hf := if_f c12 hf
        refine lv_iload_n hx hb dX5_second_52 rfl (lv_at hl 2 rfl) ?_
        refine lv_if_ne (tgt := 63) hx hb dX5_second_53 (by decide) (fun c13 => ?_) (fun c13 => ?_)
        · replace hf := if_f c13 hf
          refine lv_aload_n hx hb dX5_second_63 rfl (lv_at hl 0 rfl) ?_
          refine x_get (C := RX5) (T := TX5) (N := 27) (ci := 5) hx hb hts iX5 hown hK hG 0 rfl rfl 25 (by decide) k281 (v := .int (uv10.bestArcs)) rfl dX5_second_64 ?_
          have hz := Option.some.inj hf
          have z0 := (Prod.mk.inj hz).1
          replace hz := (Prod.mk.inj hz).2
          have z1 := hz
          exact x_iret hx hb hr hlk hK hG z0 (by rw [z1]) dX5_second_67
        · replace hf := if_t c13 hf
          refine lv_aload_n hx hb dX5_second_56 rfl (lv_at hl 0 rfl) ?_
          refine x_get (C := RX5) (T := TX5) (N := 27) (ci := 5) hx hb hts iX5 hown hK hG 0 rfl rfl 24 (by decide) k278 (v := .int (uv10.bestCost)) rfl dX5_second_57 ?_
          refine lv_goto (tgt := 67) hx hb dX5_second_60 (by decide) ?_
          have hz := Option.some.inj hf
          have z0 := (Prod.mk.inj hz).1
          replace hz := (Prod.mk.inj hz).2
          have z1 := hz
          exact x_iret hx hb hr hlk hK hG z0 (by rw [z1]) dX5_second_67
      · replace hf := if_t c12 hf
        refine lv_iconst (v := (-1)) hx hb dX5_second_48 (by decide) ?_
        refine lv_goto (tgt := 67) hx hb dX5_second_49 (by decide) ?_
        have hz := Option.some.inj hf
        have z0 := (Prod.mk.inj hz).1
        replace hz := (Prod.mk.inj hz).2
        have z1 := hz
        exact x_iret hx hb hr hlk hK hG z0 (by rw [z1]) dX5_second_67
    · replace hf := if_t c7 hf
      refine lv_iconst (v := (-1)) hx hb dX5_second_22 (by decide) ?_
      have hz := Option.some.inj hf
      have z0 := (Prod.mk.inj hz).1
      replace hz := (Prod.mk.inj hz).2
      have z1 := hz
      exact x_iret hx hb hr hlk hK hG z0 (by rw [z1]) dX5_second_23
set_option maxRecDepth 100000 in
set_option maxHeartbeats 4000000 in
theorem c_X5_center (l : Launch) (D : va_G) (κ : Nat → ClassId) (a : Nat → Nat) (sz : Nat) (p1 : Int32) (uv : MS) (r' : Int32) (uv' : MS) (hf : f_X5_center p1 uv = some (r', uv')) : Met l yX5_center wsX5_center ({ frames := 5, cells := 0, slots := 0, locals := 118 } : Room) (xPc D κ [.ref (a 0), .int p1] (WM κ a uv) sz) (xQi D κ r' (WM κ a uv') (va_A (WM κ a uv) sz)) 0 0 (va_A (WM κ a uv) sz) := by
  refine x_ofW (cc := cX5_center) (maxL := 7) (ret := (some .int)) (Qf := fun A => xQi D κ r' (WM κ a uv') A) (by decide) rfl (Nat.le_of_ble_eq_true rfl) ?_
  intro p e s m below meth c hx hb hr hlk hml hown hts hK A hA H locs hG ls hl
  have hown : s.vm.findClass RX5 = some m.cls := hown
  have hl : lv_has ls 7 [(0, .ref (a 0)), (1, .int p1)] := hl
  have iX5 : ∀ w ∈ u_ws RX5 TX5 27, w ∈ wsX5_center := fun _ h => List.mem_cons_of_mem _ (List.mem_append_right _ h)
  have k252 := hts (.fieldLink RX5 252 "SpineDesksModel" "reached" "I") (List.mem_of_getElem? (i := 2) rfl)
  have k278 := hts (.fieldLink RX5 278 "SpineDesksModel" "bestCost" "I") (List.mem_of_getElem? (i := 3) rfl)
  have k63 := hts (.fieldLink RX5 63 "SpineDesksModel" "thrown" "I") (List.mem_of_getElem? (i := 1) rfl)
  have L84 : ∀ (rec27 : Int32 → Int32 → Int32 → Int32 → Int32 → MS → Option (Int32 × MS)) (hr27 : ∀ (y1 : Int32) (y2 : Int32) (y3 : Int32) (y4 : Int32) (y5 : Int32) (uv : MS), rec27 y1 y2 y3 y4 y5 uv = some (r', uv') → ∀ (H : Heap) (locs : List Loc) (ls : Array Slot), xG D A s.heap (WM κ a uv) H locs → lv_has ls 7 [(0, .ref (a 0)), (1, .int y1), (2, .int y2), (3, .int y3), (4, .int y4), (5, .int y5)] → W p l e ({ frames := 5, cells := 0, slots := 0, locals := 118 } : Room) s m (([.ref (a 0), .int p1] : List Value).toArray) below meth c H locs 0 0 (MQ below (xQi D κ r' (WM κ a uv') A) (([.ref (a 0), .int p1] : List Value).toArray) s 0 0 A) (F0 m 27 ls [])), ∀ (x1 : Int32) (x2 : Int32) (x3 : Int32) (x4 : Int32) (x5 : Int32) (uv : MS), f_X5_center_84 rec27 x1 x2 x3 x4 x5 uv = some (r', uv') → ∀ (H : Heap) (locs : List Loc) (ls : Array Slot), xG D A s.heap (WM κ a uv) H locs → lv_has ls 7 [(0, .ref (a 0)), (1, .int x1), (2, .int x2), (3, .int x3), (4, .int x4), (5, .int x5)] → W p l e ({ frames := 5, cells := 0, slots := 0, locals := 118 } : Room) s m (([.ref (a 0), .int p1] : List Value).toArray) below meth c H locs 0 0 (MQ below (xQi D κ r' (WM κ a uv') A) (([.ref (a 0), .int p1] : List Value).toArray) s 0 0 A) (F0 m 84 ls []) := by
    intro rec27 hr27 x1 x2 x3 x4 x5 uv hf H locs ls hG hl
    unfold f_X5_center_84 at hf
    obtain ⟨y1, ey1, hf⟩ := bnd_e hf
    refine lv_iinc (v := y1) (lv' := [(5, .int y1), (0, .ref (a 0)), (1, .int x1), (2, .int x2), (3, .int x3), (4, .int x4)]) hx hb dX5_center_84 hl (k := 5) rfl (by rw [ey1]; rfl) (by decide) rfl (fun ls hl => ?_)
    refine lv_goto (tgt := 27) hx hb dX5_center_87 (by decide) ?_
    exact hr27 x1 x2 x3 x4 y1 uv hf H locs ls hG (lv_sub hl [1, 2, 3, 4, 5, 0] rfl)
  have L72 : ∀ (rec27 : Int32 → Int32 → Int32 → Int32 → Int32 → MS → Option (Int32 × MS)) (hr27 : ∀ (y1 : Int32) (y2 : Int32) (y3 : Int32) (y4 : Int32) (y5 : Int32) (uv : MS), rec27 y1 y2 y3 y4 y5 uv = some (r', uv') → ∀ (H : Heap) (locs : List Loc) (ls : Array Slot), xG D A s.heap (WM κ a uv) H locs → lv_has ls 7 [(0, .ref (a 0)), (1, .int y1), (2, .int y2), (3, .int y3), (4, .int y4), (5, .int y5)] → W p l e ({ frames := 5, cells := 0, slots := 0, locals := 118 } : Room) s m (([.ref (a 0), .int p1] : List Value).toArray) below meth c H locs 0 0 (MQ below (xQi D κ r' (WM κ a uv') A) (([.ref (a 0), .int p1] : List Value).toArray) s 0 0 A) (F0 m 27 ls [])), ∀ (x1 : Int32) (x5 : Int32) (x6 : Int32) (uv : MS), f_X5_center_72 rec27 x1 x5 x6 uv = some (r', uv') → ∀ (H : Heap) (locs : List Loc) (ls : Array Slot), xG D A s.heap (WM κ a uv) H locs → lv_has ls 7 [(0, .ref (a 0)), (1, .int x1), (5, .int x5), (6, .int x6)] → W p l e ({ frames := 5, cells := 0, slots := 0, locals := 118 } : Room) s m (([.ref (a 0), .int p1] : List Value).toArray) below meth c H locs 0 0 (MQ below (xQi D κ r' (WM κ a uv') A) (([.ref (a 0), .int p1] : List Value).toArray) s 0 0 A) (F0 m 72 ls []) := by
    intro rec27 hr27 x1 x5 x6 uv hf H locs ls hG hl
    unfold f_X5_center_72 at hf
    refine lv_iload hx hb dX5_center_72 (lv_at hl 2 rfl) ?_
    refine lv_istore_n (lv' := [(2, .int x5), (0, .ref (a 0)), (1, .int x1), (5, .int x5), (6, .int x6)]) hx hb dX5_center_74 rfl hl (by decide) rfl (fun ls hl => ?_)
    refine lv_iload hx hb dX5_center_75 (lv_at hl 4 rfl) ?_
    refine lv_istore_n (lv' := [(3, .int x6), (2, .int x5), (0, .ref (a 0)), (1, .int x1), (5, .int x5), (6, .int x6)]) hx hb dX5_center_77 rfl hl (by decide) rfl (fun ls hl => ?_)
    refine lv_aload_n hx hb dX5_center_78 rfl (lv_at hl 2 rfl) ?_
    refine x_get (C := RX5) (T := TX5) (N := 27) (ci := 5) hx hb hts iX5 hown hK hG 0 rfl rfl 24 (by decide) k278 (v := .int (uv.bestCost)) rfl dX5_center_79 ?_
    refine lv_topi (fun y2 ey2 => ?_)
    replace hf := bnd_at ey2 hf
    refine lv_istore (lv' := [(4, .int y2), (3, .int x6), (2, .int x5), (0, .ref (a 0)), (1, .int x1), (5, .int x5), (6, .int x6)]) hx hb dX5_center_82 hl (by decide) rfl (fun ls hl => ?_)
    exact L84 rec27 hr27  x1 x5 x6 y2 x5 uv hf H locs ls hG (lv_sub hl [3, 4, 2, 1, 0, 5] rfl)
  have L27 : ∀ (n : Nat), ∀ (x1 : Int32) (x2 : Int32) (x3 : Int32) (x4 : Int32) (x5 : Int32) (uv : MS), f_X5_center_27 n x1 x2 x3 x4 x5 uv = some (r', uv') → ∀ (H : Heap) (locs : List Loc) (ls : Array Slot), xG D A s.heap (WM κ a uv) H locs → lv_has ls 7 [(0, .ref (a 0)), (1, .int x1), (2, .int x2), (3, .int x3), (4, .int x4), (5, .int x5)] → W p l e ({ frames := 5, cells := 0, slots := 0, locals := 118 } : Room) s m (([.ref (a 0), .int p1] : List Value).toArray) below meth c H locs 0 0 (MQ below (xQi D κ r' (WM κ a uv') A) (([.ref (a 0), .int p1] : List Value).toArray) s 0 0 A) (F0 m 27 ls []) := by
    intro  n
    induction n with
    | zero => intro x1 x2 x3 x4 x5 uv hf; cases hf
    | succ n ih =>
      intro x1 x2 x3 x4 x5 uv hf H locs ls hG hl
      replace hf : f_X5_center_B27 (f_X5_center_27 n) x1 x2 x3 x4 x5 uv = some (r', uv') := hf
      unfold f_X5_center_B27 at hf
      refine lv_iload hx hb dX5_center_27 (lv_at hl 5 rfl) ?_
      refine lv_bipush (v := 8) hx hb dX5_center_29 (by decide) ?_
      refine lv_icmp_ge (tgt := 90) hx hb dX5_center_31 (by decide) (fun c3 => ?_) (fun c3 => ?_)
      · replace hf := if_t c3 hf
        refine lv_iload_n hx hb dX5_center_90 rfl (lv_at hl 1 rfl) ?_
        refine lv_if_ne (tgt := 98) hx hb dX5_center_91 (by decide) (fun c4 => ?_) (fun c4 => ?_)
        · replace hf := if_f c4 hf
          refine lv_iload hx hb dX5_center_98 (lv_at hl 4 rfl) ?_
          have hz := Option.some.inj hf
          have z0 := (Prod.mk.inj hz).1
          replace hz := (Prod.mk.inj hz).2
          have z1 := hz
          exact x_iret hx hb hr hlk hK hG z0 (by rw [z1]) dX5_center_100
        · replace hf := if_t c4 hf
          refine lv_iload_n hx hb dX5_center_94 rfl (lv_at hl 2 rfl) ?_
          refine lv_goto (tgt := 100) hx hb dX5_center_95 (by decide) ?_
          have hz := Option.some.inj hf
          have z0 := (Prod.mk.inj hz).1
          replace hz := (Prod.mk.inj hz).2
          have z1 := hz
          exact x_iret hx hb hr hlk hK hG z0 (by rw [z1]) dX5_center_100
      · replace hf := if_f c3 hf
        refine lv_aload_n hx hb dX5_center_34 rfl (lv_at hl 0 rfl) ?_
        refine lv_iload hx hb dX5_center_35 (lv_at hl 5 rfl) ?_
        refine lv_iconst (v := (-1)) hx hb dX5_center_37 (by decide) ?_
        refine lv_iconst (v := (-1)) hx hb dX5_center_38 (by decide) ?_
        obtain ⟨uv5, q6, hf⟩ := cl1_e hf
        refine x_callVv (pre := ([] : va_W)) (wc := WM κ a uv) (wc1 := WM κ a uv5) (post := ([] : va_W)) (As := [.int x5, .int ((-1)), .int ((-1))]) (rest := []) (w1 := WM κ a uv5) ⟨hx, hb, hml, hown, hts⟩ hK hG hA (by simp only [List.append_assoc, List.nil_append, List.append_nil]) (by simp only [List.append_assoc, List.nil_append, List.append_nil]) (c_X5_findBest l D κ a H.size x5 ((-1)) ((-1)) uv uv5 q6) (cwV 3 hts gX5_center_X5_findBest rfl rfl rfl (by decide +kernel) ⟨Nat.le_of_ble_eq_true rfl, Nat.le_of_ble_eq_true rfl⟩) 0 5 rfl rfl rfl rfl hl.1 rfl (Nat.le_of_ble_eq_true rfl) dX5_center_39 ⟨Nat.zero_le _, Nat.zero_le _⟩ (fun H locs hG => ?_)
        refine lv_aload_n hx hb dX5_center_42 rfl (lv_at hl 0 rfl) ?_
        refine x_get (C := RX5) (T := TX5) (N := 27) (ci := 5) hx hb hts iX5 hown hK hG 0 rfl rfl 23 (by decide) k252 (v := .int (uv5.reached)) rfl dX5_center_43 ?_
        obtain ⟨r7, q8, hf⟩ := cl1_e hf
        refine x_callSi (pre := ([] : va_W)) (wc := ([] : va_W)) (wc1 := ([] : va_W)) (post := WM κ a uv5) (As := [.int (uv5.reached)]) (rest := []) (w1 := WM κ a uv5) ⟨hx, hb, hml, hown, hts⟩ hK hG hA (by simp only [List.append_assoc, List.nil_append, List.append_nil]) (by simp only [List.append_assoc, List.nil_append, List.append_nil]) (c_X5_ones l D κ a H.size (uv5.reached) r7 q8) (va_cwS 1 hts gX5_center_X5_ones rfl rfl rfl (by decide +kernel) ⟨Nat.le_of_ble_eq_true rfl, Nat.le_of_ble_eq_true rfl⟩) rfl hl.1 rfl (Nat.le_of_ble_eq_true rfl) dX5_center_46 ⟨Nat.zero_le _, Nat.zero_le _⟩ (fun H locs hG => ?_)
        refine lv_istore (lv' := [(6, .int r7), (0, .ref (a 0)), (1, .int x1), (2, .int x2), (3, .int x3), (4, .int x4), (5, .int x5)]) hx hb dX5_center_49 hl (by decide) rfl (fun ls hl => ?_)
        refine lv_iload hx hb dX5_center_51 (lv_at hl 0 rfl) ?_
        refine lv_iload_n hx hb dX5_center_53 rfl (lv_at hl 4 rfl) ?_
        refine lv_icmp_gt (tgt := 72) hx hb dX5_center_54 (by decide) (fun c9 => ?_) (fun c9 => ?_)
        · replace hf := if_t c9 hf
          exact L72 (f_X5_center_27 n) ih  x1 x5 r7 uv5 hf H locs ls hG (lv_sub hl [1, 2, 6, 0] rfl)
        · replace hf := if_f c9 hf
          refine lv_iload hx hb dX5_center_57 (lv_at hl 0 rfl) ?_
          refine lv_iload_n hx hb dX5_center_59 rfl (lv_at hl 4 rfl) ?_
          refine lv_icmp_ne (tgt := 84) hx hb dX5_center_60 (by decide) (fun c10 => ?_) (fun c10 => ?_)
          · replace hf := if_f c10 hf
            exact L84 (f_X5_center_27 n) ih  x1 x2 x3 x4 x5 uv5 hf H locs ls hG (lv_sub hl [1, 2, 3, 4, 5, 6] rfl)
          · replace hf := if_t c10 hf
            refine lv_aload_n hx hb dX5_center_63 rfl (lv_at hl 1 rfl) ?_
            refine x_get (C := RX5) (T := TX5) (N := 27) (ci := 5) hx hb hts iX5 hown hK hG 0 rfl rfl 24 (by decide) k278 (v := .int (uv5.bestCost)) rfl dX5_center_64 ?_
            refine lv_iload hx hb dX5_center_67 (lv_at hl 5 rfl) ?_
            refine lv_icmp_ge (tgt := 84) hx hb dX5_center_69 (by decide) (fun c11 => ?_) (fun c11 => ?_)
            · replace hf := if_t c11 hf
              exact L84 (f_X5_center_27 n) ih  x1 x2 x3 x4 x5 uv5 hf H locs ls hG (lv_sub hl [1, 2, 3, 4, 5, 6] rfl)
            · replace hf := if_f c11 hf
              exact L72 (f_X5_center_27 n) ih  x1 x5 r7 uv5 hf H locs ls hG (lv_sub hl [1, 2, 6, 0] rfl)
  unfold f_X5_center at hf
  refine lv_aload_n hx hb dX5_center_0 rfl (lv_at hl 0 rfl) ?_
  refine lv_iconst (v := 0) hx hb dX5_center_1 (by decide) ?_
  obtain ⟨uv12, euv12, hf⟩ := bnd_e hf
  refine x_put (C := RX5) (T := TX5) (N := 27) (ci := 5) hx hb hts iX5 tyX5 tyX5_ok nmX5 hown hK hG 0 rfl rfl 0 (by decide) k63 rfl (ty := .int) (v := .int 0) rfl rfl rfl (Nat.le_of_ble_eq_true rfl) (w1 := WM κ a uv12) (by rw [euv12]; rfl) dX5_center_2 (fun H locs hG => ?_)
  refine lv_iload_n hx hb dX5_center_5 rfl (lv_at hl 1 rfl) ?_
  refine lv_i2l hx hb dX5_center_6 rfl ?_
  refine lv_lconst (v := 0) hx hb dX5_center_7 (by decide) ?_
  refine lv_lconst (v := 1) hx hb dX5_center_8 (by decide) ?_
  obtain ⟨r13, q14, hf⟩ := cl1_e hf
  refine x_callSi (pre := ([] : va_W)) (wc := ([] : va_W)) (wc1 := ([] : va_W)) (post := WM κ a uv12) (As := [.long (p1.toInt64), .long 0, .long 1]) (rest := []) (w1 := WM κ a uv12) ⟨hx, hb, hml, hown, hts⟩ hK hG hA (by simp only [List.append_assoc, List.nil_append, List.append_nil]) (by simp only [List.append_assoc, List.nil_append, List.append_nil]) (c_X5_in l D κ a H.size (p1.toInt64) 0 1 r13 q14) (va_cwS 3 hts gX5_center_X5_in rfl rfl rfl (by decide +kernel) ⟨Nat.le_of_ble_eq_true rfl, Nat.le_of_ble_eq_true rfl⟩) rfl hl.1 rfl (Nat.le_of_ble_eq_true rfl) dX5_center_9 ⟨Nat.zero_le _, Nat.zero_le _⟩ (fun H locs hG => ?_)
  refine lv_if_ne (tgt := 17) hx hb dX5_center_12 (by decide) (fun c15 => ?_) (fun c15 => ?_)
  · replace hf := if_f c15 hf
    refine lv_iconst (v := (-1)) hx hb dX5_center_17 (by decide) ?_
    refine lv_istore_n (lv' := [(2, .int ((-1))), (0, .ref (a 0)), (1, .int p1)]) hx hb dX5_center_18 rfl hl (by decide) rfl (fun ls hl => ?_)
    refine lv_iconst (v := 0) hx hb dX5_center_19 (by decide) ?_
    refine lv_istore_n (lv' := [(3, .int 0), (2, .int ((-1))), (0, .ref (a 0)), (1, .int p1)]) hx hb dX5_center_20 rfl hl (by decide) rfl (fun ls hl => ?_)
    refine lv_iconst (v := 0) hx hb dX5_center_21 (by decide) ?_
    refine lv_istore (lv' := [(4, .int 0), (3, .int 0), (2, .int ((-1))), (0, .ref (a 0)), (1, .int p1)]) hx hb dX5_center_22 hl (by decide) rfl (fun ls hl => ?_)
    refine lv_iconst (v := 0) hx hb dX5_center_24 (by decide) ?_
    refine lv_istore (lv' := [(5, .int 0), (4, .int 0), (3, .int 0), (2, .int ((-1))), (0, .ref (a 0)), (1, .int p1)]) hx hb dX5_center_25 hl (by decide) rfl (fun ls hl => ?_)
    exact L27  FU p1 ((-1)) 0 0 0 uv12 hf H locs ls hG (lv_sub hl [4, 5, 3, 2, 1, 0] rfl)
  · replace hf := if_t c15 hf
    refine lv_iconst (v := (-1)) hx hb dX5_center_15 (by decide) ?_
    have hz := Option.some.inj hf
    have z0 := (Prod.mk.inj hz).1
    replace hz := (Prod.mk.inj hz).2
    have z1 := hz
    exact x_iret hx hb hr hlk hK hG z0 (by rw [z1]) dX5_center_16
set_option maxRecDepth 100000 in
set_option maxHeartbeats 4000000 in
theorem c_X5_arcs (l : Launch) (D : va_G) (κ : Nat → ClassId) (a : Nat → Nat) (sz : Nat) (p1 : Int32) (p2 : Int32) (uv : MS) (r' : Int32) (uv' : MS) (hf : f_X5_arcs p1 p2 uv = some (r', uv')) : Met l yX5_arcs wsX5_arcs ({ frames := 2, cells := 0, slots := 0, locals := 46 } : Room) (xPc D κ [.ref (a 0), .int p1, .int p2] (WM κ a uv) sz) (xQi D κ r' (WM κ a uv') (va_A (WM κ a uv) sz)) 0 0 (va_A (WM κ a uv) sz) := by
  refine x_ofW (cc := cX5_arcs) (maxL := 3) (ret := (some .int)) (Qf := fun A => xQi D κ r' (WM κ a uv') A) (by decide) rfl (Nat.le_of_ble_eq_true rfl) ?_
  intro p e s m below meth c hx hb hr hlk hml hown hts hK A hA H locs hG ls hl
  have hown : s.vm.findClass RX5 = some m.cls := hown
  have hl : lv_has ls 3 [(0, .ref (a 0)), (1, .int p1), (2, .int p2)] := hl
  have iX5 : ∀ w ∈ u_ws RX5 TX5 27, w ∈ wsX5_arcs := fun _ h => List.mem_cons_of_mem _ (List.mem_append_right _ h)
  have k13 := hts (.fieldLink RX5 13 "SpineDesksModel" "row" "[I") (List.mem_of_getElem? (i := 3) rfl)
  have k238 := hts (.constantLong RX5 238 (2)) (List.mem_of_getElem? (i := 2) rfl)
  have k63 := hts (.fieldLink RX5 63 "SpineDesksModel" "thrown" "I") (List.mem_of_getElem? (i := 1) rfl)
  unfold f_X5_arcs at hf
  refine lv_aload_n hx hb dX5_arcs_0 rfl (lv_at hl 0 rfl) ?_
  refine lv_iconst (v := 0) hx hb dX5_arcs_1 (by decide) ?_
  obtain ⟨uv1, euv1, hf⟩ := bnd_e hf
  refine x_put (C := RX5) (T := TX5) (N := 27) (ci := 5) hx hb hts iX5 tyX5 tyX5_ok nmX5 hown hK hG 0 rfl rfl 0 (by decide) k63 rfl (ty := .int) (v := .int 0) rfl rfl rfl (Nat.le_of_ble_eq_true rfl) (w1 := WM κ a uv1) (by rw [euv1]; rfl) dX5_arcs_2 (fun H locs hG => ?_)
  refine lv_aload_n hx hb dX5_arcs_5 rfl (lv_at hl 0 rfl) ?_
  refine lv_iload_n hx hb dX5_arcs_6 rfl (lv_at hl 1 rfl) ?_
  obtain ⟨r2, q3, hf⟩ := cl1_e hf
  refine x_callVi (pre := ([] : va_W)) (wc := WM κ a uv1) (wc1 := WM κ a uv1) (post := ([] : va_W)) (As := [.int p1]) (rest := []) (w1 := WM κ a uv1) ⟨hx, hb, hml, hown, hts⟩ hK hG hA (by simp only [List.append_assoc, List.nil_append, List.append_nil]) (by simp only [List.append_assoc, List.nil_append, List.append_nil]) (c_X5_isArc l D κ a H.size p1 uv1 r2 q3) (cwV 1 hts gX5_arcs_X5_isArc rfl rfl rfl (by decide +kernel) ⟨Nat.le_of_ble_eq_true rfl, Nat.le_of_ble_eq_true rfl⟩) 0 5 rfl rfl rfl rfl hl.1 rfl (Nat.le_of_ble_eq_true rfl) dX5_arcs_7 ⟨Nat.zero_le _, Nat.zero_le _⟩ (fun H locs hG => ?_)
  refine lv_if_eq (tgt := 41) hx hb dX5_arcs_10 (by decide) (fun c4 => ?_) (fun c4 => ?_)
  · replace hf := if_t c4 hf
    refine lv_iconst (v := (-1)) hx hb dX5_arcs_41 (by decide) ?_
    have hz := Option.some.inj hf
    have z0 := (Prod.mk.inj hz).1
    replace hz := (Prod.mk.inj hz).2
    have z1 := hz
    exact x_iret hx hb hr hlk hK hG z0 (by rw [z1]) dX5_arcs_42
  · replace hf := if_f c4 hf
    refine lv_iload_n hx hb dX5_arcs_13 rfl (lv_at hl 2 rfl) ?_
    refine lv_i2l hx hb dX5_arcs_14 rfl ?_
    refine lv_lconst (v := 0) hx hb dX5_arcs_15 (by decide) ?_
    refine lv_ldc2 (v := 2) hx hb hown k238 dX5_arcs_16 ?_
    obtain ⟨r5, q6, hf⟩ := cl1_e hf
    refine x_callSi (pre := ([] : va_W)) (wc := ([] : va_W)) (wc1 := ([] : va_W)) (post := WM κ a uv1) (As := [.long (p2.toInt64), .long 0, .long 2]) (rest := []) (w1 := WM κ a uv1) ⟨hx, hb, hml, hown, hts⟩ hK hG hA (by simp only [List.append_assoc, List.nil_append, List.append_nil]) (by simp only [List.append_assoc, List.nil_append, List.append_nil]) (c_X5_in l D κ a H.size (p2.toInt64) 0 2 r5 q6) (va_cwS 3 hts gX5_arcs_X5_in rfl rfl rfl (by decide +kernel) ⟨Nat.le_of_ble_eq_true rfl, Nat.le_of_ble_eq_true rfl⟩) rfl hl.1 rfl (Nat.le_of_ble_eq_true rfl) dX5_arcs_19 ⟨Nat.zero_le _, Nat.zero_le _⟩ (fun H locs hG => ?_)
    refine lv_if_eq (tgt := 41) hx hb dX5_arcs_22 (by decide) (fun c7 => ?_) (fun c7 => ?_)
    · replace hf := if_t c7 hf
      refine lv_iconst (v := (-1)) hx hb dX5_arcs_41 (by decide) ?_
      have hz := Option.some.inj hf
      have z0 := (Prod.mk.inj hz).1
      replace hz := (Prod.mk.inj hz).2
      have z1 := hz
      exact x_iret hx hb hr hlk hK hG z0 (by rw [z1]) dX5_arcs_42
    · replace hf := if_f c7 hf
      refine lv_aload_n hx hb dX5_arcs_25 rfl (lv_at hl 0 rfl) ?_
      refine x_get (C := RX5) (T := TX5) (N := 27) (ci := 5) hx hb hts iX5 hown hK hG 0 rfl rfl 2 (by decide) k13 (v := .ref (a 2)) rfl dX5_arcs_26 ?_
      refine lv_bipush (v := 10) hx hb dX5_arcs_29 (by decide) ?_
      refine lv_iconst (v := 3) hx hb dX5_arcs_31 (by decide) ?_
      refine lv_iload_n hx hb dX5_arcs_32 rfl (lv_at hl 1 rfl) ?_
      refine lv_imul hx hb dX5_arcs_33 ?_
      refine lv_iadd hx hb dX5_arcs_34 ?_
      refine lv_iload_n hx hb dX5_arcs_35 rfl (lv_at hl 2 rfl) ?_
      refine lv_iadd hx hb dX5_arcs_36 ?_
      obtain ⟨v8, ev8, hin, hf⟩ := ck_e hf
      refine x_iald hx hb hK hG 2 rfl ev8 hin dX5_arcs_37 ?_
      refine lv_goto (tgt := 42) hx hb dX5_arcs_38 (by decide) ?_
      have hz := Option.some.inj hf
      have z0 := (Prod.mk.inj hz).1
      replace hz := (Prod.mk.inj hz).2
      have z1 := hz
      exact x_iret hx hb hr hlk hK hG z0 (by rw [z1]) dX5_arcs_42
set_option maxRecDepth 100000 in
set_option maxHeartbeats 4000000 in
theorem c_X5_itemsThere (l : Launch) (D : va_G) (κ : Nat → ClassId) (a : Nat → Nat) (sz : Nat) (p1 : Int32) (uv : MS) (r' : Int32)  (hf : f_X5_itemsThere p1 uv = some (r')) : Met l yX5_itemsThere wsX5_itemsThere ({ frames := 2, cells := 0, slots := 0, locals := 44 } : Room) (xPc D κ [.ref (a 0), .int p1] (WM κ a uv) sz) (xQi D κ r' (WM κ a uv) (va_A (WM κ a uv) sz)) 0 0 (va_A (WM κ a uv) sz) := by
  refine x_ofW (cc := cX5_itemsThere) (maxL := 4) (ret := (some .int)) (Qf := fun A => xQi D κ r' (WM κ a uv) A) (by decide) rfl (Nat.le_of_ble_eq_true rfl) ?_
  intro p e s m below meth c hx hb hr hlk hml hown hts hK A hA H locs hG ls hl
  have hown : s.vm.findClass RX5 = some m.cls := hown
  have hl : lv_has ls 4 [(0, .ref (a 0)), (1, .int p1)] := hl
  have L4 : ∀ (n : Nat), ∀ (x1 : Int32) (x2 : Int32) (x3 : Int32), f_X5_itemsThere_4 uv n x1 x2 x3 = some (r') → ∀ (H : Heap) (locs : List Loc) (ls : Array Slot), xG D A s.heap (WM κ a uv) H locs → lv_has ls 4 [(0, .ref (a 0)), (1, .int x1), (2, .int x2), (3, .int x3)] → W p l e ({ frames := 2, cells := 0, slots := 0, locals := 44 } : Room) s m (([.ref (a 0), .int p1] : List Value).toArray) below meth c H locs 0 0 (MQ below (xQi D κ r' (WM κ a uv) A) (([.ref (a 0), .int p1] : List Value).toArray) s 0 0 A) (F0 m 4 ls []) := by
    intro  n
    induction n with
    | zero => intro x1 x2 x3 hf; cases hf
    | succ n ih =>
      intro x1 x2 x3 hf H locs ls hG hl
      replace hf : f_X5_itemsThere_B4 uv (f_X5_itemsThere_4 uv n) x1 x2 x3 = some (r') := hf
      unfold f_X5_itemsThere_B4 at hf
      refine lv_iload_n hx hb dX5_itemsThere_4 rfl (lv_at hl 3 rfl) ?_
      refine lv_bipush (v := 6) hx hb dX5_itemsThere_5 (by decide) ?_
      refine lv_icmp_ge (tgt := 25) hx hb dX5_itemsThere_7 (by decide) (fun c1 => ?_) (fun c1 => ?_)
      · replace hf := if_t c1 hf
        refine lv_iload_n hx hb dX5_itemsThere_25 rfl (lv_at hl 2 rfl) ?_
        have z0 := Option.some.inj hf
        exact x_iret hx hb hr hlk hK hG z0 rfl dX5_itemsThere_26
      · replace hf := if_f c1 hf
        refine lv_iload_n hx hb dX5_itemsThere_10 rfl (lv_at hl 2 rfl) ?_
        refine lv_aload_n hx hb dX5_itemsThere_11 rfl (lv_at hl 0 rfl) ?_
        refine lv_iload_n hx hb dX5_itemsThere_12 rfl (lv_at hl 3 rfl) ?_
        refine lv_iload_n hx hb dX5_itemsThere_13 rfl (lv_at hl 1 rfl) ?_
        obtain ⟨r2, q3, hf⟩ := cl1_e hf
        refine x_callVi (pre := ([] : va_W)) (wc := WM κ a uv) (wc1 := WM κ a uv) (post := ([] : va_W)) (As := [.int x3, .int x1]) (rest := [.int x2]) (w1 := WM κ a uv) ⟨hx, hb, hml, hown, hts⟩ hK hG hA (by simp only [List.append_assoc, List.nil_append, List.append_nil]) (by simp only [List.append_assoc, List.nil_append, List.append_nil]) (c_X5_many l D κ a H.size x3 x1 uv r2 q3) (cwV 2 hts gX5_itemsThere_X5_many rfl rfl rfl (by decide +kernel) ⟨Nat.le_of_ble_eq_true rfl, Nat.le_of_ble_eq_true rfl⟩) 0 5 rfl rfl rfl rfl hl.1 rfl (Nat.le_of_ble_eq_true rfl) dX5_itemsThere_14 ⟨Nat.zero_le _, Nat.zero_le _⟩ (fun H locs hG => ?_)
        refine lv_iadd hx hb dX5_itemsThere_17 ?_
        refine lv_topi (fun y4 ey4 => ?_)
        replace hf := bnd_at ey4 hf
        refine lv_istore_n (lv' := [(2, .int y4), (0, .ref (a 0)), (1, .int x1), (3, .int x3)]) hx hb dX5_itemsThere_18 rfl hl (by decide) rfl (fun ls hl => ?_)
        obtain ⟨y5, ey5, hf⟩ := bnd_e hf
        refine lv_iinc (v := y5) (lv' := [(3, .int y5), (2, .int y4), (0, .ref (a 0)), (1, .int x1)]) hx hb dX5_itemsThere_19 hl (k := 3) rfl (by rw [ey5]; rfl) (by decide) rfl (fun ls hl => ?_)
        refine lv_goto (tgt := 4) hx hb dX5_itemsThere_22 (by decide) ?_
        exact ih x1 y4 y5 hf H locs ls hG (lv_sub hl [2, 3, 1, 0] rfl)
  unfold f_X5_itemsThere at hf
  refine lv_iconst (v := 0) hx hb dX5_itemsThere_0 (by decide) ?_
  refine lv_istore_n (lv' := [(2, .int 0), (0, .ref (a 0)), (1, .int p1)]) hx hb dX5_itemsThere_1 rfl hl (by decide) rfl (fun ls hl => ?_)
  refine lv_iconst (v := 0) hx hb dX5_itemsThere_2 (by decide) ?_
  refine lv_istore_n (lv' := [(3, .int 0), (2, .int 0), (0, .ref (a 0)), (1, .int p1)]) hx hb dX5_itemsThere_3 rfl hl (by decide) rfl (fun ls hl => ?_)
  exact L4  FU p1 0 0 hf H locs ls hG (lv_sub hl [2, 3, 1, 0] rfl)
set_option maxRecDepth 100000 in
set_option maxHeartbeats 4000000 in
theorem c_X5_count (l : Launch) (D : va_G) (κ : Nat → ClassId) (a : Nat → Nat) (sz : Nat) (p1 : Int32) (uv : MS) (r' : Int32) (uv' : MS) (hf : f_X5_count p1 uv = some (r', uv')) : Met l yX5_count wsX5_count ({ frames := 3, cells := 0, slots := 0, locals := 68 } : Room) (xPc D κ [.ref (a 0), .int p1] (WM κ a uv) sz) (xQi D κ r' (WM κ a uv') (va_A (WM κ a uv) sz)) 0 0 (va_A (WM κ a uv) sz) := by
  refine x_ofW (cc := cX5_count) (maxL := 2) (ret := (some .int)) (Qf := fun A => xQi D κ r' (WM κ a uv') A) (by decide) rfl (Nat.le_of_ble_eq_true rfl) ?_
  intro p e s m below meth c hx hb hr hlk hml hown hts hK A hA H locs hG ls hl
  have hown : s.vm.findClass RX5 = some m.cls := hown
  have hl : lv_has ls 2 [(0, .ref (a 0)), (1, .int p1)] := hl
  have iX5 : ∀ w ∈ u_ws RX5 TX5 27, w ∈ wsX5_count := fun _ h => List.mem_cons_of_mem _ (List.mem_append_right _ h)
  have k13 := hts (.fieldLink RX5 13 "SpineDesksModel" "row" "[I") (List.mem_of_getElem? (i := 2) rfl)
  have k219 := hts (.constantLong RX5 219 (8)) (List.mem_of_getElem? (i := 4) rfl)
  have k306 := hts (.constantLong RX5 306 (12)) (List.mem_of_getElem? (i := 5) rfl)
  have k63 := hts (.fieldLink RX5 63 "SpineDesksModel" "thrown" "I") (List.mem_of_getElem? (i := 1) rfl)
  have k7 := hts (.fieldLink RX5 7 "SpineDesksModel" "refusals" "[I") (List.mem_of_getElem? (i := 6) rfl)
  have k71 := hts (.fieldLink RX5 71 "SpineDesksModel" "steps" "I") (List.mem_of_getElem? (i := 3) rfl)
  unfold f_X5_count at hf
  refine lv_aload_n hx hb dX5_count_0 rfl (lv_at hl 0 rfl) ?_
  refine lv_iconst (v := 0) hx hb dX5_count_1 (by decide) ?_
  obtain ⟨uv1, euv1, hf⟩ := bnd_e hf
  refine x_put (C := RX5) (T := TX5) (N := 27) (ci := 5) hx hb hts iX5 tyX5 tyX5_ok nmX5 hown hK hG 0 rfl rfl 0 (by decide) k63 rfl (ty := .int) (v := .int 0) rfl rfl rfl (Nat.le_of_ble_eq_true rfl) (w1 := WM κ a uv1) (by rw [euv1]; rfl) dX5_count_2 (fun H locs hG => ?_)
  refine lv_iload_n hx hb dX5_count_5 rfl (lv_at hl 1 rfl) ?_
  by_cases c2 : p1 = 0
  · replace hf := if_t c2 hf
    refine lv_tableIn (tgt := 52) (off := 46) hx hb dX5_count_6 (by rw [c2]; decide) (by rw [c2]; decide) (by rw [c2]; rfl) (by decide) ?_
    refine lv_aload_n hx hb dX5_count_52 rfl (lv_at hl 0 rfl) ?_
    refine x_get (C := RX5) (T := TX5) (N := 27) (ci := 5) hx hb hts iX5 hown hK hG 0 rfl rfl 2 (by decide) k13 (v := .ref (a 2)) rfl dX5_count_53 ?_
    refine lv_iconst (v := 0) hx hb dX5_count_56 (by decide) ?_
    obtain ⟨v3, ev3, hin, hf⟩ := ck_e hf
    refine x_iald hx hb hK hG 2 rfl ev3 hin dX5_count_57 ?_
    have hz := Option.some.inj hf
    have z0 := (Prod.mk.inj hz).1
    replace hz := (Prod.mk.inj hz).2
    have z1 := hz
    exact x_iret hx hb hr hlk hK hG z0 (by rw [z1]) dX5_count_58
  replace hf := if_f c2 hf
  by_cases c4 : p1 = 1
  · replace hf := if_t c4 hf
    refine lv_tableIn (tgt := 59) (off := 53) hx hb dX5_count_6 (by rw [c4]; decide) (by rw [c4]; decide) (by rw [c4]; rfl) (by decide) ?_
    refine lv_aload_n hx hb dX5_count_59 rfl (lv_at hl 0 rfl) ?_
    refine lv_iconst (v := 1) hx hb dX5_count_60 (by decide) ?_
    obtain ⟨r5, q6, hf⟩ := cl1_e hf
    refine x_callVi (pre := ([] : va_W)) (wc := WM κ a uv1) (wc1 := WM κ a uv1) (post := ([] : va_W)) (As := [.int 1]) (rest := []) (w1 := WM κ a uv1) ⟨hx, hb, hml, hown, hts⟩ hK hG hA (by simp only [List.append_assoc, List.nil_append, List.append_nil]) (by simp only [List.append_assoc, List.nil_append, List.append_nil]) (c_X5_itemsThere l D κ a H.size 1 uv1 r5 q6) (cwV 1 hts gX5_count_X5_itemsThere rfl rfl rfl (by decide +kernel) ⟨Nat.le_of_ble_eq_true rfl, Nat.le_of_ble_eq_true rfl⟩) 0 5 rfl rfl rfl rfl hl.1 rfl (Nat.le_of_ble_eq_true rfl) dX5_count_61 ⟨Nat.zero_le _, Nat.zero_le _⟩ (fun H locs hG => ?_)
    have hz := Option.some.inj hf
    have z0 := (Prod.mk.inj hz).1
    replace hz := (Prod.mk.inj hz).2
    have z1 := hz
    exact x_iret hx hb hr hlk hK hG z0 (by rw [z1]) dX5_count_64
  replace hf := if_f c4 hf
  by_cases c7 : p1 = 2
  · replace hf := if_t c7 hf
    refine lv_tableIn (tgt := 65) (off := 59) hx hb dX5_count_6 (by rw [c7]; decide) (by rw [c7]; decide) (by rw [c7]; rfl) (by decide) ?_
    refine lv_aload_n hx hb dX5_count_65 rfl (lv_at hl 0 rfl) ?_
    refine lv_iconst (v := 0) hx hb dX5_count_66 (by decide) ?_
    obtain ⟨r8, q9, hf⟩ := cl1_e hf
    refine x_callVi (pre := ([] : va_W)) (wc := WM κ a uv1) (wc1 := WM κ a uv1) (post := ([] : va_W)) (As := [.int 0]) (rest := []) (w1 := WM κ a uv1) ⟨hx, hb, hml, hown, hts⟩ hK hG hA (by simp only [List.append_assoc, List.nil_append, List.append_nil]) (by simp only [List.append_assoc, List.nil_append, List.append_nil]) (c_X5_itemsThere l D κ a H.size 0 uv1 r8 q9) (cwV 1 hts gX5_count_X5_itemsThere rfl rfl rfl (by decide +kernel) ⟨Nat.le_of_ble_eq_true rfl, Nat.le_of_ble_eq_true rfl⟩) 0 5 rfl rfl rfl rfl hl.1 rfl (Nat.le_of_ble_eq_true rfl) dX5_count_67 ⟨Nat.zero_le _, Nat.zero_le _⟩ (fun H locs hG => ?_)
    have hz := Option.some.inj hf
    have z0 := (Prod.mk.inj hz).1
    replace hz := (Prod.mk.inj hz).2
    have z1 := hz
    exact x_iret hx hb hr hlk hK hG z0 (by rw [z1]) dX5_count_70
  replace hf := if_f c7 hf
  by_cases c10 : p1 = 3
  · replace hf := if_t c10 hf
    refine lv_tableIn (tgt := 71) (off := 65) hx hb dX5_count_6 (by rw [c10]; decide) (by rw [c10]; decide) (by rw [c10]; rfl) (by decide) ?_
    refine lv_aload_n hx hb dX5_count_71 rfl (lv_at hl 0 rfl) ?_
    obtain ⟨r11, q12, hf⟩ := cl1_e hf
    refine x_callVi (pre := ([] : va_W)) (wc := WM κ a uv1) (wc1 := WM κ a uv1) (post := ([] : va_W)) (As := []) (rest := []) (w1 := WM κ a uv1) ⟨hx, hb, hml, hown, hts⟩ hK hG hA (by simp only [List.append_assoc, List.nil_append, List.append_nil]) (by simp only [List.append_assoc, List.nil_append, List.append_nil]) (c_X5_arcMany l D κ a H.size uv1 r11 q12) (cwV 0 hts gX5_count_X5_arcMany rfl rfl rfl (by decide +kernel) ⟨Nat.le_of_ble_eq_true rfl, Nat.le_of_ble_eq_true rfl⟩) 0 5 rfl rfl rfl rfl hl.1 rfl (Nat.le_of_ble_eq_true rfl) dX5_count_72 ⟨Nat.zero_le _, Nat.zero_le _⟩ (fun H locs hG => ?_)
    have hz := Option.some.inj hf
    have z0 := (Prod.mk.inj hz).1
    replace hz := (Prod.mk.inj hz).2
    have z1 := hz
    exact x_iret hx hb hr hlk hK hG z0 (by rw [z1]) dX5_count_75
  replace hf := if_f c10 hf
  by_cases c13 : p1 = 4
  · replace hf := if_t c13 hf
    refine lv_tableIn (tgt := 76) (off := 70) hx hb dX5_count_6 (by rw [c13]; decide) (by rw [c13]; decide) (by rw [c13]; rfl) (by decide) ?_
    refine lv_aload_n hx hb dX5_count_76 rfl (lv_at hl 0 rfl) ?_
    refine x_get (C := RX5) (T := TX5) (N := 27) (ci := 5) hx hb hts iX5 hown hK hG 0 rfl rfl 9 (by decide) k71 (v := .int (uv1.steps)) rfl dX5_count_77 ?_
    have hz := Option.some.inj hf
    have z0 := (Prod.mk.inj hz).1
    replace hz := (Prod.mk.inj hz).2
    have z1 := hz
    exact x_iret hx hb hr hlk hK hG z0 (by rw [z1]) dX5_count_80
  replace hf := if_f c13 hf
  by_cases c14 : p1 = 5
  · replace hf := if_t c14 hf
    refine lv_tableIn (tgt := 81) (off := 75) hx hb dX5_count_6 (by rw [c14]; decide) (by rw [c14]; decide) (by rw [c14]; rfl) (by decide) ?_
    refine lv_aload_n hx hb dX5_count_81 rfl (lv_at hl 0 rfl) ?_
    refine x_get (C := RX5) (T := TX5) (N := 27) (ci := 5) hx hb hts iX5 hown hK hG 0 rfl rfl 2 (by decide) k13 (v := .ref (a 2)) rfl dX5_count_82 ?_
    refine lv_iconst (v := 1) hx hb dX5_count_85 (by decide) ?_
    obtain ⟨v15, ev15, hin, hf⟩ := ck_e hf
    refine x_iald hx hb hK hG 2 rfl ev15 hin dX5_count_86 ?_
    have hz := Option.some.inj hf
    have z0 := (Prod.mk.inj hz).1
    replace hz := (Prod.mk.inj hz).2
    have z1 := hz
    exact x_iret hx hb hr hlk hK hG z0 (by rw [z1]) dX5_count_87
  replace hf := if_f c14 hf
  by_cases c16 : p1 = 6
  · replace hf := if_t c16 hf
    refine lv_tableIn (tgt := 88) (off := 82) hx hb dX5_count_6 (by rw [c16]; decide) (by rw [c16]; decide) (by rw [c16]; rfl) (by decide) ?_
    refine lv_aload_n hx hb dX5_count_88 rfl (lv_at hl 0 rfl) ?_
    refine x_get (C := RX5) (T := TX5) (N := 27) (ci := 5) hx hb hts iX5 hown hK hG 0 rfl rfl 2 (by decide) k13 (v := .ref (a 2)) rfl dX5_count_89 ?_
    refine lv_iconst (v := 2) hx hb dX5_count_92 (by decide) ?_
    obtain ⟨v17, ev17, hin, hf⟩ := ck_e hf
    refine x_iald hx hb hK hG 2 rfl ev17 hin dX5_count_93 ?_
    have hz := Option.some.inj hf
    have z0 := (Prod.mk.inj hz).1
    replace hz := (Prod.mk.inj hz).2
    have z1 := hz
    exact x_iret hx hb hr hlk hK hG z0 (by rw [z1]) dX5_count_94
  replace hf := if_f c16 hf
  by_cases c18 : p1 = 7
  · replace hf := if_t c18 hf
    refine lv_tableIn (tgt := 95) (off := 89) hx hb dX5_count_6 (by rw [c18]; decide) (by rw [c18]; decide) (by rw [c18]; rfl) (by decide) ?_
    refine lv_aload_n hx hb dX5_count_95 rfl (lv_at hl 0 rfl) ?_
    refine x_get (C := RX5) (T := TX5) (N := 27) (ci := 5) hx hb hts iX5 hown hK hG 0 rfl rfl 2 (by decide) k13 (v := .ref (a 2)) rfl dX5_count_96 ?_
    refine lv_iconst (v := 3) hx hb dX5_count_99 (by decide) ?_
    obtain ⟨v19, ev19, hin, hf⟩ := ck_e hf
    refine x_iald hx hb hK hG 2 rfl ev19 hin dX5_count_100 ?_
    have hz := Option.some.inj hf
    have z0 := (Prod.mk.inj hz).1
    replace hz := (Prod.mk.inj hz).2
    have z1 := hz
    exact x_iret hx hb hr hlk hK hG z0 (by rw [z1]) dX5_count_101
  replace hf := if_f c18 hf
  refine lv_tableOut (tgt := 102) hx hb dX5_count_6 (x_sw (k := 7) (by decide) (fun j hj => ?_)) (by decide) ?_
  · match j, hj with
    | 0, _ => exact c2
    | 1, _ => exact c4
    | 2, _ => exact c7
    | 3, _ => exact c10
    | 4, _ => exact c13
    | 5, _ => exact c14
    | 6, _ => exact c16
    | 7, _ => exact c18
    | j + 8, hj => exact absurd hj (by omega)
  · refine lv_iload_n hx hb dX5_count_102 rfl (lv_at hl 1 rfl) ?_
    refine lv_i2l hx hb dX5_count_103 rfl ?_
    refine lv_ldc2 (v := 8) hx hb hown k219 dX5_count_104 ?_
    refine lv_ldc2 (v := 12) hx hb hown k306 dX5_count_107 ?_
    obtain ⟨r20, q21, hf⟩ := cl1_e hf
    refine x_callSi (pre := ([] : va_W)) (wc := ([] : va_W)) (wc1 := ([] : va_W)) (post := WM κ a uv1) (As := [.long (p1.toInt64), .long 8, .long 12]) (rest := []) (w1 := WM κ a uv1) ⟨hx, hb, hml, hown, hts⟩ hK hG hA (by simp only [List.append_assoc, List.nil_append, List.append_nil]) (by simp only [List.append_assoc, List.nil_append, List.append_nil]) (c_X5_in l D κ a H.size (p1.toInt64) 8 12 r20 q21) (va_cwS 3 hts gX5_count_X5_in rfl rfl rfl (by decide +kernel) ⟨Nat.le_of_ble_eq_true rfl, Nat.le_of_ble_eq_true rfl⟩) rfl hl.1 rfl (Nat.le_of_ble_eq_true rfl) dX5_count_110 ⟨Nat.zero_le _, Nat.zero_le _⟩ (fun H locs hG => ?_)
    refine lv_if_eq (tgt := 128) hx hb dX5_count_113 (by decide) (fun c22 => ?_) (fun c22 => ?_)
    · replace hf := if_t c22 hf
      refine lv_iconst (v := (-1)) hx hb dX5_count_128 (by decide) ?_
      have hz := Option.some.inj hf
      have z0 := (Prod.mk.inj hz).1
      replace hz := (Prod.mk.inj hz).2
      have z1 := hz
      exact x_iret hx hb hr hlk hK hG z0 (by rw [z1]) dX5_count_129
    · replace hf := if_f c22 hf
      refine lv_aload_n hx hb dX5_count_116 rfl (lv_at hl 0 rfl) ?_
      refine x_get (C := RX5) (T := TX5) (N := 27) (ci := 5) hx hb hts iX5 hown hK hG 0 rfl rfl 1 (by decide) k7 (v := .ref (a 1)) rfl dX5_count_117 ?_
      refine lv_iload_n hx hb dX5_count_120 rfl (lv_at hl 1 rfl) ?_
      refine lv_bipush (v := 7) hx hb dX5_count_121 (by decide) ?_
      refine lv_isub hx hb dX5_count_123 ?_
      obtain ⟨v23, ev23, hin, hf⟩ := ck_e hf
      refine x_iald hx hb hK hG 1 rfl ev23 hin dX5_count_124 ?_
      refine lv_goto (tgt := 129) hx hb dX5_count_125 (by decide) ?_
      have hz := Option.some.inj hf
      have z0 := (Prod.mk.inj hz).1
      replace hz := (Prod.mk.inj hz).2
      have z1 := hz
      exact x_iret hx hb hr hlk hK hG z0 (by rw [z1]) dX5_count_129
set_option maxRecDepth 100000 in
set_option maxHeartbeats 4000000 in
theorem c_X5_split (l : Launch) (D : va_G) (κ : Nat → ClassId) (a : Nat → Nat) (sz : Nat) (p1 : Int32) (p2 : Int32) (p3 : Int32) (uv : MS) (r' : Int32) (uv' : MS) (hf : f_X5_split p1 p2 p3 uv = some (r', uv')) : Met l yX5_split wsX5_split ({ frames := 6, cells := 0, slots := 0, locals := 135 } : Room) (xPc D κ [.ref (a 0), .int p1, .int p2, .int p3] (WM κ a uv) sz) (xQi D κ r' (WM κ a uv') (va_A (WM κ a uv) sz)) 0 0 (va_A (WM κ a uv) sz) := by
  refine x_ofW (cc := cX5_split) (maxL := 8) (ret := (some .int)) (Qf := fun A => xQi D κ r' (WM κ a uv') A) (by decide) rfl (Nat.le_of_ble_eq_true rfl) ?_
  intro p e s m below meth c hx hb hr hlk hml hown hts hK A hA H locs hG ls hl
  have hown : s.vm.findClass RX5 = some m.cls := hown
  have hl : lv_has ls 8 [(0, .ref (a 0)), (1, .int p1), (2, .int p2), (3, .int p3)] := hl
  have iX5 : ∀ w ∈ u_ws RX5 TX5 27, w ∈ wsX5_split := fun _ h => List.mem_cons_of_mem _ (List.mem_append_right _ h)
  have k13 := hts (.fieldLink RX5 13 "SpineDesksModel" "row" "[I") (List.mem_of_getElem? (i := 2) rfl)
  have k16 := hts (.fieldLink RX5 16 "SpineDesksModel" "keys" "[J") (List.mem_of_getElem? (i := 3) rfl)
  have k181 := hts (.fieldLink RX5 181 "SpineDesksModel" "treeMany" "I") (List.mem_of_getElem? (i := 4) rfl)
  have k39 := hts (.fieldLink RX5 39 "SpineDesksModel" "trees" "[I") (List.mem_of_getElem? (i := 6) rfl)
  have k42 := hts (.fieldLink RX5 42 "SpineDesksModel" "stack" "[I") (List.mem_of_getElem? (i := 5) rfl)
  have k45 := hts (.fieldLink RX5 45 "SpineDesksModel" "going" "[I") (List.mem_of_getElem? (i := 7) rfl)
  have k63 := hts (.fieldLink RX5 63 "SpineDesksModel" "thrown" "I") (List.mem_of_getElem? (i := 1) rfl)
  have L223 : ∀ (n : Nat), ∀ (x2 : Int32) (x5 : Int32) (x7 : Int32) (uv : MS), f_X5_split_223 n x2 x5 x7 uv = some (r', uv') → ∀ (H : Heap) (locs : List Loc) (ls : Array Slot), xG D A s.heap (WM κ a uv) H locs → lv_has ls 8 [(0, .ref (a 0)), (2, .int x2), (5, .int x5), (7, .int x7)] → W p l e ({ frames := 6, cells := 0, slots := 0, locals := 135 } : Room) s m (([.ref (a 0), .int p1, .int p2, .int p3] : List Value).toArray) below meth c H locs 0 0 (MQ below (xQi D κ r' (WM κ a uv') A) (([.ref (a 0), .int p1, .int p2, .int p3] : List Value).toArray) s 0 0 A) (F0 m 223 ls []) := by
    intro  n
    induction n with
    | zero => intro x2 x5 x7 uv hf; cases hf
    | succ n ih =>
      intro x2 x5 x7 uv hf H locs ls hG hl
      replace hf : f_X5_split_B223 (f_X5_split_223 n) x2 x5 x7 uv = some (r', uv') := hf
      unfold f_X5_split_B223 at hf
      refine lv_iload hx hb dX5_split_223 (lv_at hl 3 rfl) ?_
      refine lv_iload hx hb dX5_split_225 (lv_at hl 2 rfl) ?_
      refine lv_icmp_ge (tgt := 248) hx hb dX5_split_227 (by decide) (fun c1 => ?_) (fun c1 => ?_)
      · replace hf := if_t c1 hf
        refine lv_aload_n hx hb dX5_split_248 rfl (lv_at hl 0 rfl) ?_
        obtain ⟨uv2, q3, hf⟩ := cl1_e hf
        refine x_callVv (pre := ([] : va_W)) (wc := WM κ a uv) (wc1 := WM κ a uv2) (post := ([] : va_W)) (As := []) (rest := []) (w1 := WM κ a uv2) ⟨hx, hb, hml, hown, hts⟩ hK hG hA (by simp only [List.append_assoc, List.nil_append, List.append_nil]) (by simp only [List.append_assoc, List.nil_append, List.append_nil]) (c_X5_sweep l D κ a H.size uv uv2 q3) (cwV 0 hts gX5_split_X5_sweep rfl rfl rfl (by decide +kernel) ⟨Nat.le_of_ble_eq_true rfl, Nat.le_of_ble_eq_true rfl⟩) 0 5 rfl rfl rfl rfl hl.1 rfl (Nat.le_of_ble_eq_true rfl) dX5_split_249 ⟨Nat.zero_le _, Nat.zero_le _⟩ (fun H locs hG => ?_)
        refine lv_iload hx hb dX5_split_252 (lv_at hl 2 rfl) ?_
        have hz := Option.some.inj hf
        have z0 := (Prod.mk.inj hz).1
        replace hz := (Prod.mk.inj hz).2
        have z1 := hz
        exact x_iret hx hb hr hlk hK hG z0 (by rw [z1]) dX5_split_254
      · replace hf := if_f c1 hf
        refine lv_aload_n hx hb dX5_split_230 rfl (lv_at hl 0 rfl) ?_
        refine lv_aload_n hx hb dX5_split_231 rfl (lv_at hl 0 rfl) ?_
        refine x_get (C := RX5) (T := TX5) (N := 27) (ci := 5) hx hb hts iX5 hown hK hG 0 rfl rfl 15 (by decide) k45 (v := .ref (a 12)) rfl dX5_split_232 ?_
        refine lv_iload hx hb dX5_split_235 (lv_at hl 3 rfl) ?_
        obtain ⟨v4, ev4, hin, hf⟩ := ck_e hf
        refine x_iald hx hb hK hG 12 rfl ev4 hin dX5_split_237 ?_
        refine lv_iload_n hx hb dX5_split_238 rfl (lv_at hl 1 rfl) ?_
        obtain ⟨uv5, q6, hf⟩ := cl1_e hf
        refine x_callVv (pre := ([] : va_W)) (wc := WM κ a uv) (wc1 := WM κ a uv5) (post := ([] : va_W)) (As := [.int v4, .int x2]) (rest := []) (w1 := WM κ a uv5) ⟨hx, hb, hml, hown, hts⟩ hK hG hA (by simp only [List.append_assoc, List.nil_append, List.append_nil]) (by simp only [List.append_assoc, List.nil_append, List.append_nil]) (c_X5_put l D κ a H.size v4 x2 uv uv5 q6) (cwV 2 hts gX5_split_X5_put rfl rfl rfl (by decide +kernel) ⟨Nat.le_of_ble_eq_true rfl, Nat.le_of_ble_eq_true rfl⟩) 0 5 rfl rfl rfl rfl hl.1 rfl (Nat.le_of_ble_eq_true rfl) dX5_split_239 ⟨Nat.zero_le _, Nat.zero_le _⟩ (fun H locs hG => ?_)
        obtain ⟨y7, ey7, hf⟩ := bnd_e hf
        refine lv_iinc (v := y7) (lv' := [(7, .int y7), (0, .ref (a 0)), (2, .int x2), (5, .int x5)]) hx hb dX5_split_242 hl (k := 3) rfl (by rw [ey7]; rfl) (by decide) rfl (fun ls hl => ?_)
        refine lv_goto (tgt := 223) hx hb dX5_split_245 (by decide) ?_
        exact ih x2 x5 y7 uv5 hf H locs ls hG (lv_sub hl [1, 2, 3, 0] rfl)
  have L199 : ∀ (rec74 : Int32 → Int32 → Int32 → Int32 → Int32 → MS → Option (Int32 × MS)) (hr74 : ∀ (y1 : Int32) (y2 : Int32) (y3 : Int32) (y5 : Int32) (y6 : Int32) (uv : MS), rec74 y1 y2 y3 y5 y6 uv = some (r', uv') → ∀ (H : Heap) (locs : List Loc) (ls : Array Slot), xG D A s.heap (WM κ a uv) H locs → lv_has ls 8 [(0, .ref (a 0)), (1, .int y1), (2, .int y2), (3, .int y3), (5, .int y5), (6, .int y6)] → W p l e ({ frames := 6, cells := 0, slots := 0, locals := 135 } : Room) s m (([.ref (a 0), .int p1, .int p2, .int p3] : List Value).toArray) below meth c H locs 0 0 (MQ below (xQi D κ r' (WM κ a uv') A) (([.ref (a 0), .int p1, .int p2, .int p3] : List Value).toArray) s 0 0 A) (F0 m 74 ls [])), ∀ (x1 : Int32) (x2 : Int32) (x3 : Int32) (x5 : Int32) (x6 : Int32) (uv : MS), f_X5_split_199 rec74 x1 x2 x3 x5 x6 uv = some (r', uv') → ∀ (H : Heap) (locs : List Loc) (ls : Array Slot), xG D A s.heap (WM κ a uv) H locs → lv_has ls 8 [(0, .ref (a 0)), (1, .int x1), (2, .int x2), (3, .int x3), (5, .int x5), (6, .int x6)] → W p l e ({ frames := 6, cells := 0, slots := 0, locals := 135 } : Room) s m (([.ref (a 0), .int p1, .int p2, .int p3] : List Value).toArray) below meth c H locs 0 0 (MQ below (xQi D κ r' (WM κ a uv') A) (([.ref (a 0), .int p1, .int p2, .int p3] : List Value).toArray) s 0 0 A) (F0 m 199 ls []) := by
    intro rec74 hr74 x1 x2 x3 x5 x6 uv hf H locs ls hG hl
    unfold f_X5_split_199 at hf
    refine lv_goto (tgt := 74) hx hb dX5_split_199 (by decide) ?_
    exact hr74 x1 x2 x3 x5 x6 uv hf H locs ls hG (lv_sub hl [0, 1, 2, 3, 4, 5] rfl)
  have L173 : ∀ (rec74 : Int32 → Int32 → Int32 → Int32 → Int32 → MS → Option (Int32 × MS)) (hr74 : ∀ (y1 : Int32) (y2 : Int32) (y3 : Int32) (y5 : Int32) (y6 : Int32) (uv : MS), rec74 y1 y2 y3 y5 y6 uv = some (r', uv') → ∀ (H : Heap) (locs : List Loc) (ls : Array Slot), xG D A s.heap (WM κ a uv) H locs → lv_has ls 8 [(0, .ref (a 0)), (1, .int y1), (2, .int y2), (3, .int y3), (5, .int y5), (6, .int y6)] → W p l e ({ frames := 6, cells := 0, slots := 0, locals := 135 } : Room) s m (([.ref (a 0), .int p1, .int p2, .int p3] : List Value).toArray) below meth c H locs 0 0 (MQ below (xQi D κ r' (WM κ a uv') A) (([.ref (a 0), .int p1, .int p2, .int p3] : List Value).toArray) s 0 0 A) (F0 m 74 ls [])), ∀ (x1 : Int32) (x2 : Int32) (x3 : Int32) (x5 : Int32) (x6 : Int32) (x7 : Int32) (uv : MS), f_X5_split_173 rec74 x1 x2 x3 x5 x6 x7 uv = some (r', uv') → ∀ (H : Heap) (locs : List Loc) (ls : Array Slot), xG D A s.heap (WM κ a uv) H locs → lv_has ls 8 [(0, .ref (a 0)), (1, .int x1), (2, .int x2), (3, .int x3), (5, .int x5), (6, .int x6), (7, .int x7)] → W p l e ({ frames := 6, cells := 0, slots := 0, locals := 135 } : Room) s m (([.ref (a 0), .int p1, .int p2, .int p3] : List Value).toArray) below meth c H locs 0 0 (MQ below (xQi D κ r' (WM κ a uv') A) (([.ref (a 0), .int p1, .int p2, .int p3] : List Value).toArray) s 0 0 A) (F0 m 173 ls []) := by
    intro rec74 hr74 x1 x2 x3 x5 x6 x7 uv hf H locs ls hG hl
    unfold f_X5_split_173 at hf
    refine lv_aload_n hx hb dX5_split_173 rfl (lv_at hl 0 rfl) ?_
    refine lv_iload hx hb dX5_split_174 (lv_at hl 6 rfl) ?_
    obtain ⟨r8, q9, hf⟩ := cl1_e hf
    refine x_callVi (pre := ([] : va_W)) (wc := WM κ a uv) (wc1 := WM κ a uv) (post := ([] : va_W)) (As := [.int x7]) (rest := []) (w1 := WM κ a uv) ⟨hx, hb, hml, hown, hts⟩ hK hG hA (by simp only [List.append_assoc, List.nil_append, List.append_nil]) (by simp only [List.append_assoc, List.nil_append, List.append_nil]) (c_X5_left l D κ a H.size x7 uv r8 q9) (cwV 1 hts gX5_split_X5_left rfl rfl rfl (by decide +kernel) ⟨Nat.le_of_ble_eq_true rfl, Nat.le_of_ble_eq_true rfl⟩) 0 5 rfl rfl rfl rfl hl.1 rfl (Nat.le_of_ble_eq_true rfl) dX5_split_176 ⟨Nat.zero_le _, Nat.zero_le _⟩ (fun H locs hG => ?_)
    refine lv_iconst (v := (-1)) hx hb dX5_split_179 (by decide) ?_
    refine lv_icmp_eq (tgt := 199) hx hb dX5_split_180 (by decide) (fun c10 => ?_) (fun c10 => ?_)
    · replace hf := if_t c10 hf
      exact L199 rec74 hr74  x1 x2 x3 x5 x6 uv hf H locs ls hG (lv_sub hl [0, 1, 2, 3, 4, 5] rfl)
    · replace hf := if_f c10 hf
      refine lv_aload_n hx hb dX5_split_183 rfl (lv_at hl 0 rfl) ?_
      refine x_get (C := RX5) (T := TX5) (N := 27) (ci := 5) hx hb hts iX5 hown hK hG 0 rfl rfl 14 (by decide) k42 (v := .ref (a 11)) rfl dX5_split_184 ?_
      refine lv_iload hx hb dX5_split_187 (lv_at hl 5 rfl) ?_
      refine lv_aload_n hx hb dX5_split_189 rfl (lv_at hl 0 rfl) ?_
      refine lv_iload hx hb dX5_split_190 (lv_at hl 6 rfl) ?_
      obtain ⟨r11, q12, hf⟩ := cl1_e hf
      refine x_callVi (pre := ([] : va_W)) (wc := WM κ a uv) (wc1 := WM κ a uv) (post := ([] : va_W)) (As := [.int x7]) (rest := [.int x6, .ref (a 11)]) (w1 := WM κ a uv) ⟨hx, hb, hml, hown, hts⟩ hK hG hA (by simp only [List.append_assoc, List.nil_append, List.append_nil]) (by simp only [List.append_assoc, List.nil_append, List.append_nil]) (c_X5_left l D κ a H.size x7 uv r11 q12) (cwV 1 hts gX5_split_X5_left rfl rfl rfl (by decide +kernel) ⟨Nat.le_of_ble_eq_true rfl, Nat.le_of_ble_eq_true rfl⟩) 0 5 rfl rfl rfl rfl hl.1 rfl (Nat.le_of_ble_eq_true rfl) dX5_split_192 ⟨Nat.zero_le _, Nat.zero_le _⟩ (fun H locs hG => ?_)
      obtain ⟨uv13, euv13, hin, hf⟩ := ck_e hf
      refine x_iast hx hb hK hG 11 rfl (w1 := WM κ a uv13) (by rw [euv13]; rfl) hin dX5_split_195 (fun H locs hG => ?_)
      obtain ⟨y14, ey14, hf⟩ := bnd_e hf
      refine lv_iinc (v := y14) (lv' := [(6, .int y14), (0, .ref (a 0)), (1, .int x1), (2, .int x2), (3, .int x3), (5, .int x5), (7, .int x7)]) hx hb dX5_split_196 hl (k := 5) rfl (by rw [ey14]; rfl) (by decide) rfl (fun ls hl => ?_)
      exact L199 rec74 hr74  x1 x2 x3 x5 y14 uv13 hf H locs ls hG (lv_sub hl [1, 2, 3, 4, 5, 0] rfl)
  have L74 : ∀ (n : Nat), ∀ (x1 : Int32) (x2 : Int32) (x3 : Int32) (x5 : Int32) (x6 : Int32) (uv : MS), f_X5_split_74 n x1 x2 x3 x5 x6 uv = some (r', uv') → ∀ (H : Heap) (locs : List Loc) (ls : Array Slot), xG D A s.heap (WM κ a uv) H locs → lv_has ls 8 [(0, .ref (a 0)), (1, .int x1), (2, .int x2), (3, .int x3), (5, .int x5), (6, .int x6)] → W p l e ({ frames := 6, cells := 0, slots := 0, locals := 135 } : Room) s m (([.ref (a 0), .int p1, .int p2, .int p3] : List Value).toArray) below meth c H locs 0 0 (MQ below (xQi D κ r' (WM κ a uv') A) (([.ref (a 0), .int p1, .int p2, .int p3] : List Value).toArray) s 0 0 A) (F0 m 74 ls []) := by
    intro  n
    induction n with
    | zero => intro x1 x2 x3 x5 x6 uv hf; cases hf
    | succ n ih =>
      intro x1 x2 x3 x5 x6 uv hf H locs ls hG hl
      replace hf : f_X5_split_B74 (f_X5_split_74 n) x1 x2 x3 x5 x6 uv = some (r', uv') := hf
      unfold f_X5_split_B74 at hf
      refine lv_iload hx hb dX5_split_74 (lv_at hl 5 rfl) ?_
      refine lv_if_le (tgt := 202) hx hb dX5_split_76 (by decide) (fun c15 => ?_) (fun c15 => ?_)
      · replace hf := if_t c15 hf
        refine lv_aload_n hx hb dX5_split_202 rfl (lv_at hl 0 rfl) ?_
        refine x_get (C := RX5) (T := TX5) (N := 27) (ci := 5) hx hb hts iX5 hown hK hG 0 rfl rfl 2 (by decide) k13 (v := .ref (a 2)) rfl dX5_split_203 ?_
        refine lv_iconst (v := 4) hx hb dX5_split_206 (by decide) ?_
        refine lv_iload_n hx hb dX5_split_207 rfl (lv_at hl 1 rfl) ?_
        refine lv_iadd hx hb dX5_split_208 ?_
        refine lv_aload_n hx hb dX5_split_209 rfl (lv_at hl 0 rfl) ?_
        obtain ⟨r16, uv17, q18, hf⟩ := cl2_e hf
        refine x_callVi (pre := ([] : va_W)) (wc := WM κ a uv) (wc1 := WM κ a uv17) (post := ([] : va_W)) (As := []) (rest := [.int (4 + x1), .ref (a 2)]) (w1 := WM κ a uv17) ⟨hx, hb, hml, hown, hts⟩ hK hG hA (by simp only [List.append_assoc, List.nil_append, List.append_nil]) (by simp only [List.append_assoc, List.nil_append, List.append_nil]) (c_X5_gatherTrees l D κ a H.size uv r16 uv17 q18) (cwV 0 hts gX5_split_X5_gatherTrees rfl rfl rfl (by decide +kernel) ⟨Nat.le_of_ble_eq_true rfl, Nat.le_of_ble_eq_true rfl⟩) 0 5 rfl rfl rfl rfl hl.1 rfl (Nat.le_of_ble_eq_true rfl) dX5_split_210 ⟨Nat.zero_le _, Nat.zero_le _⟩ (fun H locs hG => ?_)
        obtain ⟨uv19, euv19, hin, hf⟩ := ck_e hf
        refine x_iast hx hb hK hG 2 rfl (w1 := WM κ a uv19) (by rw [euv19]; rfl) hin dX5_split_213 (fun H locs hG => ?_)
        refine lv_aload_n hx hb dX5_split_214 rfl (lv_at hl 0 rfl) ?_
        refine lv_iload hx hb dX5_split_215 (lv_at hl 4 rfl) ?_
        obtain ⟨uv20, q21, hf⟩ := cl1_e hf
        refine x_callVv (pre := ([] : va_W)) (wc := WM κ a uv19) (wc1 := WM κ a uv20) (post := ([] : va_W)) (As := [.int x5]) (rest := []) (w1 := WM κ a uv20) ⟨hx, hb, hml, hown, hts⟩ hK hG hA (by simp only [List.append_assoc, List.nil_append, List.append_nil]) (by simp only [List.append_assoc, List.nil_append, List.append_nil]) (c_X5_sortGoing l D κ a H.size x5 uv19 uv20 q21) (cwV 1 hts gX5_split_X5_sortGoing rfl rfl rfl (by decide +kernel) ⟨Nat.le_of_ble_eq_true rfl, Nat.le_of_ble_eq_true rfl⟩) 0 5 rfl rfl rfl rfl hl.1 rfl (Nat.le_of_ble_eq_true rfl) dX5_split_217 ⟨Nat.zero_le _, Nat.zero_le _⟩ (fun H locs hG => ?_)
        refine lv_iconst (v := 0) hx hb dX5_split_220 (by decide) ?_
        refine lv_istore (lv' := [(7, .int 0), (0, .ref (a 0)), (1, .int x1), (2, .int x2), (3, .int x3), (5, .int x5), (6, .int x6)]) hx hb dX5_split_221 hl (by decide) rfl (fun ls hl => ?_)
        exact L223  FU x2 x5 0 uv20 hf H locs ls hG (lv_sub hl [1, 3, 5, 0] rfl)
      · replace hf := if_f c15 hf
        obtain ⟨y22, ey22, hf⟩ := bnd_e hf
        refine lv_iinc (v := y22) (lv' := [(6, .int y22), (0, .ref (a 0)), (1, .int x1), (2, .int x2), (3, .int x3), (5, .int x5)]) hx hb dX5_split_79 hl (k := 5) rfl (by rw [ey22]; rfl) (by decide) rfl (fun ls hl => ?_)
        refine lv_aload_n hx hb dX5_split_82 rfl (lv_at hl 1 rfl) ?_
        refine x_get (C := RX5) (T := TX5) (N := 27) (ci := 5) hx hb hts iX5 hown hK hG 0 rfl rfl 14 (by decide) k42 (v := .ref (a 11)) rfl dX5_split_83 ?_
        refine lv_iload hx hb dX5_split_86 (lv_at hl 0 rfl) ?_
        obtain ⟨v23, ev23, hin, hf⟩ := ck_e hf
        refine x_iald hx hb hK hG 11 rfl ev23 hin dX5_split_88 ?_
        refine lv_istore (lv' := [(7, .int v23), (6, .int y22), (0, .ref (a 0)), (1, .int x1), (2, .int x2), (3, .int x3), (5, .int x5)]) hx hb dX5_split_89 hl (by decide) rfl (fun ls hl => ?_)
        refine lv_aload_n hx hb dX5_split_91 rfl (lv_at hl 2 rfl) ?_
        refine x_get (C := RX5) (T := TX5) (N := 27) (ci := 5) hx hb hts iX5 hown hK hG 0 rfl rfl 3 (by decide) k16 (v := .ref (a 3)) rfl dX5_split_92 ?_
        refine lv_iload hx hb dX5_split_95 (lv_at hl 0 rfl) ?_
        obtain ⟨v24, ev24, hin, hf⟩ := ck_e hf
        refine x_lald hx hb hK hG 3 rfl ev24 hin dX5_split_97 ?_
        refine lv_iload_n hx hb dX5_split_98 rfl (lv_at hl 5 rfl) ?_
        refine lv_i2l hx hb dX5_split_99 rfl ?_
        refine W.lcmp hx hb dX5_split_100 ?_
        refine lv_if_le (tgt := 135) hx hb dX5_split_101 (by decide) (fun c25 => ?_) (fun c25 => ?_)
        · rw [lg_cmp_le] at c25
          replace hf := if_t c25 hf
          refine lv_aload_n hx hb dX5_split_135 rfl (lv_at hl 2 rfl) ?_
          refine x_get (C := RX5) (T := TX5) (N := 27) (ci := 5) hx hb hts iX5 hown hK hG 0 rfl rfl 15 (by decide) k45 (v := .ref (a 12)) rfl dX5_split_136 ?_
          refine lv_iload hx hb dX5_split_139 (lv_at hl 6 rfl) ?_
          refine lv_iload hx hb dX5_split_141 (lv_at hl 0 rfl) ?_
          obtain ⟨uv26, euv26, hin, hf⟩ := ck_e hf
          refine x_iast hx hb hK hG 12 rfl (w1 := WM κ a uv26) (by rw [euv26]; rfl) hin dX5_split_143 (fun H locs hG => ?_)
          obtain ⟨y27, ey27, hf⟩ := bnd_e hf
          refine lv_iinc (v := y27) (lv' := [(5, .int y27), (7, .int v23), (6, .int y22), (0, .ref (a 0)), (1, .int x1), (2, .int x2), (3, .int x3)]) hx hb dX5_split_144 hl (k := 6) rfl (by rw [ey27]; rfl) (by decide) rfl (fun ls hl => ?_)
          refine lv_aload_n hx hb dX5_split_147 rfl (lv_at hl 3 rfl) ?_
          refine lv_iload hx hb dX5_split_148 (lv_at hl 1 rfl) ?_
          obtain ⟨r28, q29, hf⟩ := cl1_e hf
          refine x_callVi (pre := ([] : va_W)) (wc := WM κ a uv26) (wc1 := WM κ a uv26) (post := ([] : va_W)) (As := [.int v23]) (rest := []) (w1 := WM κ a uv26) ⟨hx, hb, hml, hown, hts⟩ hK hG hA (by simp only [List.append_assoc, List.nil_append, List.append_nil]) (by simp only [List.append_assoc, List.nil_append, List.append_nil]) (c_X5_right l D κ a H.size v23 uv26 r28 q29) (cwV 1 hts gX5_split_X5_right rfl rfl rfl (by decide +kernel) ⟨Nat.le_of_ble_eq_true rfl, Nat.le_of_ble_eq_true rfl⟩) 0 5 rfl rfl rfl rfl hl.1 rfl (Nat.le_of_ble_eq_true rfl) dX5_split_150 ⟨Nat.zero_le _, Nat.zero_le _⟩ (fun H locs hG => ?_)
          refine lv_iconst (v := (-1)) hx hb dX5_split_153 (by decide) ?_
          refine lv_icmp_eq (tgt := 173) hx hb dX5_split_154 (by decide) (fun c30 => ?_) (fun c30 => ?_)
          · replace hf := if_t c30 hf
            exact L173 (f_X5_split_74 n) ih  x1 x2 x3 y27 y22 v23 uv26 hf H locs ls hG (lv_sub hl [3, 4, 5, 6, 0, 2, 1] rfl)
          · replace hf := if_f c30 hf
            refine lv_aload_n hx hb dX5_split_157 rfl (lv_at hl 3 rfl) ?_
            refine x_get (C := RX5) (T := TX5) (N := 27) (ci := 5) hx hb hts iX5 hown hK hG 0 rfl rfl 14 (by decide) k42 (v := .ref (a 11)) rfl dX5_split_158 ?_
            refine lv_iload hx hb dX5_split_161 (lv_at hl 2 rfl) ?_
            refine lv_aload_n hx hb dX5_split_163 rfl (lv_at hl 3 rfl) ?_
            refine lv_iload hx hb dX5_split_164 (lv_at hl 1 rfl) ?_
            obtain ⟨r31, q32, hf⟩ := cl1_e hf
            refine x_callVi (pre := ([] : va_W)) (wc := WM κ a uv26) (wc1 := WM κ a uv26) (post := ([] : va_W)) (As := [.int v23]) (rest := [.int y22, .ref (a 11)]) (w1 := WM κ a uv26) ⟨hx, hb, hml, hown, hts⟩ hK hG hA (by simp only [List.append_assoc, List.nil_append, List.append_nil]) (by simp only [List.append_assoc, List.nil_append, List.append_nil]) (c_X5_right l D κ a H.size v23 uv26 r31 q32) (cwV 1 hts gX5_split_X5_right rfl rfl rfl (by decide +kernel) ⟨Nat.le_of_ble_eq_true rfl, Nat.le_of_ble_eq_true rfl⟩) 0 5 rfl rfl rfl rfl hl.1 rfl (Nat.le_of_ble_eq_true rfl) dX5_split_166 ⟨Nat.zero_le _, Nat.zero_le _⟩ (fun H locs hG => ?_)
            obtain ⟨uv33, euv33, hin, hf⟩ := ck_e hf
            refine x_iast hx hb hK hG 11 rfl (w1 := WM κ a uv33) (by rw [euv33]; rfl) hin dX5_split_169 (fun H locs hG => ?_)
            obtain ⟨y34, ey34, hf⟩ := bnd_e hf
            refine lv_iinc (v := y34) (lv' := [(6, .int y34), (5, .int y27), (7, .int v23), (0, .ref (a 0)), (1, .int x1), (2, .int x2), (3, .int x3)]) hx hb dX5_split_170 hl (k := 2) rfl (by rw [ey34]; rfl) (by decide) rfl (fun ls hl => ?_)
            exact L173 (f_X5_split_74 n) ih  x1 x2 x3 y27 y34 v23 uv33 hf H locs ls hG (lv_sub hl [3, 4, 5, 6, 1, 0, 2] rfl)
        · rw [lg_cmp_le] at c25
          replace hf := if_f c25 hf
          refine lv_aload_n hx hb dX5_split_104 rfl (lv_at hl 2 rfl) ?_
          refine x_get (C := RX5) (T := TX5) (N := 27) (ci := 5) hx hb hts iX5 hown hK hG 0 rfl rfl 12 (by decide) k39 (v := .ref (a 10)) rfl dX5_split_105 ?_
          refine lv_aload_n hx hb dX5_split_108 rfl (lv_at hl 2 rfl) ?_
          refine x_get (C := RX5) (T := TX5) (N := 27) (ci := 5) hx hb hts iX5 hown hK hG 0 rfl rfl 13 (by decide) k181 (v := .int (uv.treeMany)) rfl dX5_split_109 ?_
          refine lv_iload hx hb dX5_split_112 (lv_at hl 0 rfl) ?_
          obtain ⟨uv35, euv35, hin, hf⟩ := ck_e hf
          refine x_iast hx hb hK hG 10 rfl (w1 := WM κ a uv35) (by rw [euv35]; rfl) hin dX5_split_114 (fun H locs hG => ?_)
          refine lv_aload_n hx hb dX5_split_115 rfl (lv_at hl 2 rfl) ?_
          refine lv_dup hx hb dX5_split_116 rfl ?_
          refine x_get (C := RX5) (T := TX5) (N := 27) (ci := 5) hx hb hts iX5 hown hK hG 0 rfl rfl 13 (by decide) k181 (v := .int (uv35.treeMany)) rfl dX5_split_117 ?_
          refine lv_iconst (v := 1) hx hb dX5_split_120 (by decide) ?_
          refine lv_iadd hx hb dX5_split_121 ?_
          obtain ⟨uv36, euv36, hf⟩ := bnd_e hf
          refine x_put (C := RX5) (T := TX5) (N := 27) (ci := 5) hx hb hts iX5 tyX5 tyX5_ok nmX5 hown hK hG 0 rfl rfl 13 (by decide) k181 rfl (ty := .int) (v := .int ((uv35.treeMany) + 1)) rfl rfl rfl (Nat.le_of_ble_eq_true rfl) (w1 := WM κ a uv36) (by rw [euv36]; rfl) dX5_split_122 (fun H locs hG => ?_)
          refine lv_aload_n hx hb dX5_split_125 rfl (lv_at hl 2 rfl) ?_
          refine lv_iload hx hb dX5_split_126 (lv_at hl 0 rfl) ?_
          refine lv_iconst (v := (-1)) hx hb dX5_split_128 (by decide) ?_
          obtain ⟨uv37, q38, hf⟩ := cl1_e hf
          refine x_callVv (pre := ([] : va_W)) (wc := WM κ a uv36) (wc1 := WM κ a uv37) (post := ([] : va_W)) (As := [.int v23, .int ((-1))]) (rest := []) (w1 := WM κ a uv37) ⟨hx, hb, hml, hown, hts⟩ hK hG hA (by simp only [List.append_assoc, List.nil_append, List.append_nil]) (by simp only [List.append_assoc, List.nil_append, List.append_nil]) (c_X5_setAbove l D κ a H.size v23 ((-1)) uv36 uv37 q38) (cwV 2 hts gX5_split_X5_setAbove rfl rfl rfl (by decide +kernel) ⟨Nat.le_of_ble_eq_true rfl, Nat.le_of_ble_eq_true rfl⟩) 0 5 rfl rfl rfl rfl hl.1 rfl (Nat.le_of_ble_eq_true rfl) dX5_split_129 ⟨Nat.zero_le _, Nat.zero_le _⟩ (fun H locs hG => ?_)
          refine lv_goto (tgt := 199) hx hb dX5_split_132 (by decide) ?_
          exact L199 (f_X5_split_74 n) ih  x1 x2 x3 x5 y22 uv37 hf H locs ls hG (lv_sub hl [2, 3, 4, 5, 6, 1] rfl)
  have L48 : ∀ (uv : MS), f_X5_split_48 uv = some (r', uv') → ∀ (H : Heap) (locs : List Loc) (ls : Array Slot), xG D A s.heap (WM κ a uv) H locs → lv_has ls 8 [(0, .ref (a 0))] → W p l e ({ frames := 6, cells := 0, slots := 0, locals := 135 } : Room) s m (([.ref (a 0), .int p1, .int p2, .int p3] : List Value).toArray) below meth c H locs 0 0 (MQ below (xQi D κ r' (WM κ a uv') A) (([.ref (a 0), .int p1, .int p2, .int p3] : List Value).toArray) s 0 0 A) (F0 m 48 ls []) := by
    intro  uv hf H locs ls hG hl
    unfold f_X5_split_48 at hf
    refine lv_aload_n hx hb dX5_split_48 rfl (lv_at hl 0 rfl) ?_
    refine lv_bipush (v := (-3)) hx hb dX5_split_49 (by decide) ?_
    obtain ⟨r39, uv40, q41, hf⟩ := cl2_e hf
    refine x_callVi (pre := ([] : va_W)) (wc := WM κ a uv) (wc1 := WM κ a uv40) (post := ([] : va_W)) (As := [.int ((-3))]) (rest := []) (w1 := WM κ a uv40) ⟨hx, hb, hml, hown, hts⟩ hK hG hA (by simp only [List.append_assoc, List.nil_append, List.append_nil]) (by simp only [List.append_assoc, List.nil_append, List.append_nil]) (c_X5_refuse l D κ a H.size ((-3)) uv r39 uv40 q41) (cwV 1 hts gX5_split_X5_refuse rfl rfl rfl (by decide +kernel) ⟨Nat.le_of_ble_eq_true rfl, Nat.le_of_ble_eq_true rfl⟩) 0 5 rfl rfl rfl rfl hl.1 rfl (Nat.le_of_ble_eq_true rfl) dX5_split_51 ⟨Nat.zero_le _, Nat.zero_le _⟩ (fun H locs hG => ?_)
    have hz := Option.some.inj hf
    have z0 := (Prod.mk.inj hz).1
    replace hz := (Prod.mk.inj hz).2
    have z1 := hz
    exact x_iret hx hb hr hlk hK hG z0 (by rw [z1]) dX5_split_54
  unfold f_X5_split at hf
  refine lv_aload_n hx hb dX5_split_0 rfl (lv_at hl 0 rfl) ?_
  refine lv_iconst (v := 0) hx hb dX5_split_1 (by decide) ?_
  obtain ⟨uv42, euv42, hf⟩ := bnd_e hf
  refine x_put (C := RX5) (T := TX5) (N := 27) (ci := 5) hx hb hts iX5 tyX5 tyX5_ok nmX5 hown hK hG 0 rfl rfl 0 (by decide) k63 rfl (ty := .int) (v := .int 0) rfl rfl rfl (Nat.le_of_ble_eq_true rfl) (w1 := WM κ a uv42) (by rw [euv42]; rfl) dX5_split_2 (fun H locs hG => ?_)
  refine lv_iload_n hx hb dX5_split_5 rfl (lv_at hl 1 rfl) ?_
  refine lv_iload_n hx hb dX5_split_6 rfl (lv_at hl 2 rfl) ?_
  obtain ⟨r43, q44, hf⟩ := cl1_e hf
  refine x_callSi (pre := ([] : va_W)) (wc := ([] : va_W)) (wc1 := ([] : va_W)) (post := WM κ a uv42) (As := [.int p1, .int p2]) (rest := []) (w1 := WM κ a uv42) ⟨hx, hb, hml, hown, hts⟩ hK hG hA (by simp only [List.append_assoc, List.nil_append, List.append_nil]) (by simp only [List.append_assoc, List.nil_append, List.append_nil]) (c_X5_areTwo l D κ a H.size p1 p2 r43 q44) (va_cwS 2 hts gX5_split_X5_areTwo rfl rfl rfl (by decide +kernel) ⟨Nat.le_of_ble_eq_true rfl, Nat.le_of_ble_eq_true rfl⟩) rfl hl.1 rfl (Nat.le_of_ble_eq_true rfl) dX5_split_7 ⟨Nat.zero_le _, Nat.zero_le _⟩ (fun H locs hG => ?_)
  refine lv_if_ne (tgt := 19) hx hb dX5_split_10 (by decide) (fun c45 => ?_) (fun c45 => ?_)
  · replace hf := if_f c45 hf
    refine lv_aload_n hx hb dX5_split_19 rfl (lv_at hl 0 rfl) ?_
    refine x_get (C := RX5) (T := TX5) (N := 27) (ci := 5) hx hb hts iX5 hown hK hG 0 rfl rfl 2 (by decide) k13 (v := .ref (a 2)) rfl dX5_split_20 ?_
    refine lv_iconst (v := 4) hx hb dX5_split_23 (by decide) ?_
    refine lv_iload_n hx hb dX5_split_24 rfl (lv_at hl 1 rfl) ?_
    refine lv_iadd hx hb dX5_split_25 ?_
    obtain ⟨v46, ev46, hin, hf⟩ := ck_e hf
    refine x_iald hx hb hK hG 2 rfl ev46 hin dX5_split_26 ?_
    refine lv_istore (lv' := [(4, .int v46), (0, .ref (a 0)), (1, .int p1), (2, .int p2), (3, .int p3)]) hx hb dX5_split_27 hl (by decide) rfl (fun ls hl => ?_)
    refine lv_iload hx hb dX5_split_29 (lv_at hl 0 rfl) ?_
    refine lv_iconst (v := (-1)) hx hb dX5_split_31 (by decide) ?_
    refine lv_icmp_eq (tgt := 48) hx hb dX5_split_32 (by decide) (fun c47 => ?_) (fun c47 => ?_)
    · replace hf := if_t c47 hf
      exact L48   uv42 hf H locs ls hG (lv_sub hl [1] rfl)
    · replace hf := if_f c47 hf
      refine lv_aload_n hx hb dX5_split_35 rfl (lv_at hl 1 rfl) ?_
      refine x_get (C := RX5) (T := TX5) (N := 27) (ci := 5) hx hb hts iX5 hown hK hG 0 rfl rfl 3 (by decide) k16 (v := .ref (a 3)) rfl dX5_split_36 ?_
      refine lv_iload hx hb dX5_split_39 (lv_at hl 0 rfl) ?_
      obtain ⟨v48, ev48, hin, hf⟩ := ck_e hf
      refine x_lald hx hb hK hG 3 rfl ev48 hin dX5_split_41 ?_
      refine lv_iload_n hx hb dX5_split_42 rfl (lv_at hl 4 rfl) ?_
      refine lv_i2l hx hb dX5_split_43 rfl ?_
      refine W.lcmp hx hb dX5_split_44 ?_
      refine lv_if_le (tgt := 55) hx hb dX5_split_45 (by decide) (fun c49 => ?_) (fun c49 => ?_)
      · rw [lg_cmp_le] at c49
        replace hf := if_t c49 hf
        refine lv_aload_n hx hb dX5_split_55 rfl (lv_at hl 1 rfl) ?_
        refine lv_iconst (v := 0) hx hb dX5_split_56 (by decide) ?_
        obtain ⟨uv50, euv50, hf⟩ := bnd_e hf
        refine x_put (C := RX5) (T := TX5) (N := 27) (ci := 5) hx hb hts iX5 tyX5 tyX5_ok nmX5 hown hK hG 0 rfl rfl 13 (by decide) k181 rfl (ty := .int) (v := .int 0) rfl rfl rfl (Nat.le_of_ble_eq_true rfl) (w1 := WM κ a uv50) (by rw [euv50]; rfl) dX5_split_57 (fun H locs hG => ?_)
        refine lv_iconst (v := 0) hx hb dX5_split_60 (by decide) ?_
        refine lv_istore (lv' := [(5, .int 0), (4, .int v46), (0, .ref (a 0)), (1, .int p1), (2, .int p2), (3, .int p3)]) hx hb dX5_split_61 hl (by decide) rfl (fun ls hl => ?_)
        refine lv_iconst (v := 1) hx hb dX5_split_63 (by decide) ?_
        refine lv_istore (lv' := [(6, .int 1), (5, .int 0), (4, .int v46), (0, .ref (a 0)), (1, .int p1), (2, .int p2), (3, .int p3)]) hx hb dX5_split_64 hl (by decide) rfl (fun ls hl => ?_)
        refine lv_aload_n hx hb dX5_split_66 rfl (lv_at hl 3 rfl) ?_
        refine x_get (C := RX5) (T := TX5) (N := 27) (ci := 5) hx hb hts iX5 hown hK hG 0 rfl rfl 14 (by decide) k42 (v := .ref (a 11)) rfl dX5_split_67 ?_
        refine lv_iconst (v := 0) hx hb dX5_split_70 (by decide) ?_
        refine lv_iload hx hb dX5_split_71 (lv_at hl 2 rfl) ?_
        obtain ⟨uv51, euv51, hin, hf⟩ := ck_e hf
        refine x_iast hx hb hK hG 11 rfl (w1 := WM κ a uv51) (by rw [euv51]; rfl) hin dX5_split_73 (fun H locs hG => ?_)
        exact L74  FU p1 p2 p3 0 1 uv51 hf H locs ls hG (lv_sub hl [3, 4, 5, 6, 1, 0] rfl)
      · rw [lg_cmp_le] at c49
        replace hf := if_f c49 hf
        exact L48   uv42 hf H locs ls hG (lv_sub hl [1] rfl)
  · replace hf := if_t c45 hf
    refine lv_aload_n hx hb dX5_split_13 rfl (lv_at hl 0 rfl) ?_
    refine lv_iconst (v := (-1)) hx hb dX5_split_14 (by decide) ?_
    obtain ⟨r52, uv53, q54, hf⟩ := cl2_e hf
    refine x_callVi (pre := ([] : va_W)) (wc := WM κ a uv42) (wc1 := WM κ a uv53) (post := ([] : va_W)) (As := [.int ((-1))]) (rest := []) (w1 := WM κ a uv53) ⟨hx, hb, hml, hown, hts⟩ hK hG hA (by simp only [List.append_assoc, List.nil_append, List.append_nil]) (by simp only [List.append_assoc, List.nil_append, List.append_nil]) (c_X5_refuse l D κ a H.size ((-1)) uv42 r52 uv53 q54) (cwV 1 hts gX5_split_X5_refuse rfl rfl rfl (by decide +kernel) ⟨Nat.le_of_ble_eq_true rfl, Nat.le_of_ble_eq_true rfl⟩) 0 5 rfl rfl rfl rfl hl.1 rfl (Nat.le_of_ble_eq_true rfl) dX5_split_15 ⟨Nat.zero_le _, Nat.zero_le _⟩ (fun H locs hG => ?_)
    have hz := Option.some.inj hf
    have z0 := (Prod.mk.inj hz).1
    replace hz := (Prod.mk.inj hz).2
    have z1 := hz
    exact x_iret hx hb hr hlk hK hG z0 (by rw [z1]) dX5_split_18
set_option maxRecDepth 100000 in
set_option maxHeartbeats 4000000 in
theorem c_X5_pair (l : Launch) (D : va_G) (κ : Nat → ClassId) (a : Nat → Nat) (sz : Nat) (p1 : Int32) (p2 : Int32) (p3 : Int32) (p4 : Int32) (uv : MS) (r' : Int64) (uv' : MS) (hf : f_X5_pair p1 p2 p3 p4 uv = some (r', uv')) : Met l yX5_pair wsX5_pair ({ frames := 2, cells := 0, slots := 0, locals := 47 } : Room) (xPc D κ [.ref (a 0), .int p1, .int p2, .int p3, .int p4] (WM κ a uv) sz) (xQl D κ r' (WM κ a uv') (va_A (WM κ a uv) sz)) 0 0 (va_A (WM κ a uv) sz) := by
  refine x_ofW (cc := cX5_pair) (maxL := 9) (ret := (some .long)) (Qf := fun A => xQl D κ r' (WM κ a uv') A) (by decide) rfl (Nat.le_of_ble_eq_true rfl) ?_
  intro p e s m below meth c hx hb hr hlk hml hown hts hK A hA H locs hG ls hl
  have hown : s.vm.findClass RX5 = some m.cls := hown
  have hl : lv_has ls 9 [(0, .ref (a 0)), (1, .int p1), (2, .int p2), (3, .int p3), (4, .int p4)] := hl
  have iX5 : ∀ w ∈ u_ws RX5 TX5 27, w ∈ wsX5_pair := fun _ h => List.mem_cons_of_mem _ (List.mem_append_right _ h)
  have k234 := hts (.constantLong RX5 234 (-9223372036854775808)) (List.mem_of_getElem? (i := 4) rfl)
  have k236 := hts (.constantLong RX5 236 (39)) (List.mem_of_getElem? (i := 2) rfl)
  have k238 := hts (.constantLong RX5 238 (2)) (List.mem_of_getElem? (i := 3) rfl)
  have k51 := hts (.fieldLink RX5 51 "SpineDesksModel" "rising" "[I") (List.mem_of_getElem? (i := 7) rfl)
  have k54 := hts (.fieldLink RX5 54 "SpineDesksModel" "risingMany" "[I") (List.mem_of_getElem? (i := 5) rfl)
  have k57 := hts (.fieldLink RX5 57 "SpineDesksModel" "goneBy" "[I") (List.mem_of_getElem? (i := 6) rfl)
  have k63 := hts (.fieldLink RX5 63 "SpineDesksModel" "thrown" "I") (List.mem_of_getElem? (i := 1) rfl)
  have L192 : ∀ (rec114 : Int32 → Int32 → Int32 → Int32 → Int32 → MS → Option (Int64 × MS)) (hr114 : ∀ (y3 : Int32) (y4 : Int32) (y5 : Int32) (y6 : Int32) (y7 : Int32) (uv : MS), rec114 y3 y4 y5 y6 y7 uv = some (r', uv') → ∀ (H : Heap) (locs : List Loc) (ls : Array Slot), xG D A s.heap (WM κ a uv) H locs → lv_has ls 9 [(0, .ref (a 0)), (3, .int y3), (4, .int y4), (5, .int y5), (6, .int y6), (7, .int y7)] → W p l e ({ frames := 2, cells := 0, slots := 0, locals := 47 } : Room) s m (([.ref (a 0), .int p1, .int p2, .int p3, .int p4] : List Value).toArray) below meth c H locs 0 0 (MQ below (xQl D κ r' (WM κ a uv') A) (([.ref (a 0), .int p1, .int p2, .int p3, .int p4] : List Value).toArray) s 0 0 A) (F0 m 114 ls [])) (rec143 : Int32 → Int32 → Int32 → Int32 → Int32 → Int32 → MS → Option (Int64 × MS)) (hr143 : ∀ (y3 : Int32) (y4 : Int32) (y5 : Int32) (y6 : Int32) (y7 : Int32) (y8 : Int32) (uv : MS), rec143 y3 y4 y5 y6 y7 y8 uv = some (r', uv') → ∀ (H : Heap) (locs : List Loc) (ls : Array Slot), xG D A s.heap (WM κ a uv) H locs → lv_has ls 9 [(0, .ref (a 0)), (3, .int y3), (4, .int y4), (5, .int y5), (6, .int y6), (7, .int y7), (8, .int y8)] → W p l e ({ frames := 2, cells := 0, slots := 0, locals := 47 } : Room) s m (([.ref (a 0), .int p1, .int p2, .int p3, .int p4] : List Value).toArray) below meth c H locs 0 0 (MQ below (xQl D κ r' (WM κ a uv') A) (([.ref (a 0), .int p1, .int p2, .int p3, .int p4] : List Value).toArray) s 0 0 A) (F0 m 143 ls [])), ∀ (x3 : Int32) (x4 : Int32) (x5 : Int32) (x6 : Int32) (x7 : Int32) (x8 : Int32) (uv : MS), f_X5_pair_192 rec114 rec143 x3 x4 x5 x6 x7 x8 uv = some (r', uv') → ∀ (H : Heap) (locs : List Loc) (ls : Array Slot), xG D A s.heap (WM κ a uv) H locs → lv_has ls 9 [(0, .ref (a 0)), (3, .int x3), (4, .int x4), (5, .int x5), (6, .int x6), (7, .int x7), (8, .int x8)] → W p l e ({ frames := 2, cells := 0, slots := 0, locals := 47 } : Room) s m (([.ref (a 0), .int p1, .int p2, .int p3, .int p4] : List Value).toArray) below meth c H locs 0 0 (MQ below (xQl D κ r' (WM κ a uv') A) (([.ref (a 0), .int p1, .int p2, .int p3, .int p4] : List Value).toArray) s 0 0 A) (F0 m 192 ls []) := by
    intro rec114 hr114 rec143 hr143 x3 x4 x5 x6 x7 x8 uv hf H locs ls hG hl
    unfold f_X5_pair_192 at hf
    obtain ⟨y1, ey1, hf⟩ := bnd_e hf
    refine lv_iinc (v := y1) (lv' := [(8, .int y1), (0, .ref (a 0)), (3, .int x3), (4, .int x4), (5, .int x5), (6, .int x6), (7, .int x7)]) hx hb dX5_pair_192 hl (k := 6) rfl (by rw [ey1]; rfl) (by decide) rfl (fun ls hl => ?_)
    refine lv_goto (tgt := 143) hx hb dX5_pair_195 (by decide) ?_
    exact hr143 x3 x4 x5 x6 x7 y1 uv hf H locs ls hG (lv_sub hl [1, 2, 3, 4, 5, 6, 0] rfl)
  have L188 : ∀ (rec114 : Int32 → Int32 → Int32 → Int32 → Int32 → MS → Option (Int64 × MS)) (hr114 : ∀ (y3 : Int32) (y4 : Int32) (y5 : Int32) (y6 : Int32) (y7 : Int32) (uv : MS), rec114 y3 y4 y5 y6 y7 uv = some (r', uv') → ∀ (H : Heap) (locs : List Loc) (ls : Array Slot), xG D A s.heap (WM κ a uv) H locs → lv_has ls 9 [(0, .ref (a 0)), (3, .int y3), (4, .int y4), (5, .int y5), (6, .int y6), (7, .int y7)] → W p l e ({ frames := 2, cells := 0, slots := 0, locals := 47 } : Room) s m (([.ref (a 0), .int p1, .int p2, .int p3, .int p4] : List Value).toArray) below meth c H locs 0 0 (MQ below (xQl D κ r' (WM κ a uv') A) (([.ref (a 0), .int p1, .int p2, .int p3, .int p4] : List Value).toArray) s 0 0 A) (F0 m 114 ls [])) (rec143 : Int32 → Int32 → Int32 → Int32 → Int32 → Int32 → MS → Option (Int64 × MS)) (hr143 : ∀ (y3 : Int32) (y4 : Int32) (y5 : Int32) (y6 : Int32) (y7 : Int32) (y8 : Int32) (uv : MS), rec143 y3 y4 y5 y6 y7 y8 uv = some (r', uv') → ∀ (H : Heap) (locs : List Loc) (ls : Array Slot), xG D A s.heap (WM κ a uv) H locs → lv_has ls 9 [(0, .ref (a 0)), (3, .int y3), (4, .int y4), (5, .int y5), (6, .int y6), (7, .int y7), (8, .int y8)] → W p l e ({ frames := 2, cells := 0, slots := 0, locals := 47 } : Room) s m (([.ref (a 0), .int p1, .int p2, .int p3, .int p4] : List Value).toArray) below meth c H locs 0 0 (MQ below (xQl D κ r' (WM κ a uv') A) (([.ref (a 0), .int p1, .int p2, .int p3, .int p4] : List Value).toArray) s 0 0 A) (F0 m 143 ls [])), ∀ (x3 : Int32) (x4 : Int32) (x5 : Int32) (x7 : Int32) (x8 : Int32) (uv : MS), f_X5_pair_188 rec114 rec143 x3 x4 x5 x7 x8 uv = some (r', uv') → ∀ (H : Heap) (locs : List Loc) (ls : Array Slot), xG D A s.heap (WM κ a uv) H locs → lv_has ls 9 [(0, .ref (a 0)), (3, .int x3), (4, .int x4), (5, .int x5), (7, .int x7), (8, .int x8)] → W p l e ({ frames := 2, cells := 0, slots := 0, locals := 47 } : Room) s m (([.ref (a 0), .int p1, .int p2, .int p3, .int p4] : List Value).toArray) below meth c H locs 0 0 (MQ below (xQl D κ r' (WM κ a uv') A) (([.ref (a 0), .int p1, .int p2, .int p3, .int p4] : List Value).toArray) s 0 0 A) (F0 m 188 ls []) := by
    intro rec114 hr114 rec143 hr143 x3 x4 x5 x7 x8 uv hf H locs ls hG hl
    unfold f_X5_pair_188 at hf
    refine lv_iload hx hb dX5_pair_188 (lv_at hl 5 rfl) ?_
    refine lv_istore (lv' := [(6, .int x8), (0, .ref (a 0)), (3, .int x3), (4, .int x4), (5, .int x5), (7, .int x7), (8, .int x8)]) hx hb dX5_pair_190 hl (by decide) rfl (fun ls hl => ?_)
    exact L192 rec114 hr114 rec143 hr143  x3 x4 x5 x8 x7 x8 uv hf H locs ls hG (lv_sub hl [1, 2, 3, 4, 0, 5, 6] rfl)
  have L143 : ∀ (rec114 : Int32 → Int32 → Int32 → Int32 → Int32 → MS → Option (Int64 × MS)) (hr114 : ∀ (y3 : Int32) (y4 : Int32) (y5 : Int32) (y6 : Int32) (y7 : Int32) (uv : MS), rec114 y3 y4 y5 y6 y7 uv = some (r', uv') → ∀ (H : Heap) (locs : List Loc) (ls : Array Slot), xG D A s.heap (WM κ a uv) H locs → lv_has ls 9 [(0, .ref (a 0)), (3, .int y3), (4, .int y4), (5, .int y5), (6, .int y6), (7, .int y7)] → W p l e ({ frames := 2, cells := 0, slots := 0, locals := 47 } : Room) s m (([.ref (a 0), .int p1, .int p2, .int p3, .int p4] : List Value).toArray) below meth c H locs 0 0 (MQ below (xQl D κ r' (WM κ a uv') A) (([.ref (a 0), .int p1, .int p2, .int p3, .int p4] : List Value).toArray) s 0 0 A) (F0 m 114 ls [])), ∀ (n : Nat), ∀ (x3 : Int32) (x4 : Int32) (x5 : Int32) (x6 : Int32) (x7 : Int32) (x8 : Int32) (uv : MS), f_X5_pair_143 rec114 n x3 x4 x5 x6 x7 x8 uv = some (r', uv') → ∀ (H : Heap) (locs : List Loc) (ls : Array Slot), xG D A s.heap (WM κ a uv) H locs → lv_has ls 9 [(0, .ref (a 0)), (3, .int x3), (4, .int x4), (5, .int x5), (6, .int x6), (7, .int x7), (8, .int x8)] → W p l e ({ frames := 2, cells := 0, slots := 0, locals := 47 } : Room) s m (([.ref (a 0), .int p1, .int p2, .int p3, .int p4] : List Value).toArray) below meth c H locs 0 0 (MQ below (xQl D κ r' (WM κ a uv') A) (([.ref (a 0), .int p1, .int p2, .int p3, .int p4] : List Value).toArray) s 0 0 A) (F0 m 143 ls []) := by
    intro rec114 hr114 n
    induction n with
    | zero => intro x3 x4 x5 x6 x7 x8 uv hf; cases hf
    | succ n ih =>
      intro x3 x4 x5 x6 x7 x8 uv hf H locs ls hG hl
      replace hf : f_X5_pair_B143 rec114 (f_X5_pair_143 rec114 n) x3 x4 x5 x6 x7 x8 uv = some (r', uv') := hf
      unfold f_X5_pair_B143 at hf
      refine lv_iload hx hb dX5_pair_143 (lv_at hl 6 rfl) ?_
      refine lv_iload hx hb dX5_pair_145 (lv_at hl 3 rfl) ?_
      refine lv_icmp_ge (tgt := 198) hx hb dX5_pair_147 (by decide) (fun c2 => ?_) (fun c2 => ?_)
      · replace hf := if_t c2 hf
        refine lv_iload hx hb dX5_pair_198 (lv_at hl 4 rfl) ?_
        refine lv_iconst (v := (-1)) hx hb dX5_pair_200 (by decide) ?_
        refine lv_icmp_ne (tgt := 208) hx hb dX5_pair_201 (by decide) (fun c3 => ?_) (fun c3 => ?_)
        · replace hf := if_f c3 hf
          obtain ⟨y4, ey4, hf⟩ := bnd_e hf
          refine lv_iinc (v := y4) (lv' := [(7, .int y4), (0, .ref (a 0)), (3, .int x3), (4, .int x4), (5, .int x5), (6, .int x6), (8, .int x8)]) hx hb dX5_pair_208 hl (k := 5) rfl (by rw [ey4]; rfl) (by decide) rfl (fun ls hl => ?_)
          refine lv_goto (tgt := 114) hx hb dX5_pair_211 (by decide) ?_
          exact hr114 x3 x4 x5 x6 y4 uv hf H locs ls hG (lv_sub hl [1, 2, 3, 4, 5, 0] rfl)
        · replace hf := if_t c3 hf
          refine lv_ldc2 (v := (-9223372036854775808)) hx hb hown k234 dX5_pair_204 ?_
          have hz := Option.some.inj hf
          have z0 := (Prod.mk.inj hz).1
          replace hz := (Prod.mk.inj hz).2
          have z1 := hz
          exact x_lret hx hb hr hlk hK hG z0 (by rw [z1]) dX5_pair_207
      · replace hf := if_f c2 hf
        refine lv_aload_n hx hb dX5_pair_150 rfl (lv_at hl 0 rfl) ?_
        refine x_get (C := RX5) (T := TX5) (N := 27) (ci := 5) hx hb hts iX5 hown hK hG 0 rfl rfl 19 (by decide) k57 (v := .ref (a 16)) rfl dX5_pair_151 ?_
        refine lv_iload hx hb dX5_pair_154 (lv_at hl 6 rfl) ?_
        obtain ⟨v5, ev5, hin, hf⟩ := ck_e hf
        refine x_iald hx hb hK hG 16 rfl ev5 hin dX5_pair_156 ?_
        refine lv_aload_n hx hb dX5_pair_157 rfl (lv_at hl 0 rfl) ?_
        refine x_get (C := RX5) (T := TX5) (N := 27) (ci := 5) hx hb hts iX5 hown hK hG 0 rfl rfl 18 (by decide) k54 (v := .ref (a 15)) rfl dX5_pair_158 ?_
        refine lv_iconst (v := 1) hx hb dX5_pair_161 (by decide) ?_
        obtain ⟨v6, ev6, hin, hf⟩ := ck_e hf
        refine x_iald hx hb hK hG 15 rfl ev6 hin dX5_pair_162 ?_
        refine lv_icmp_ge (tgt := 192) hx hb dX5_pair_163 (by decide) (fun c7 => ?_) (fun c7 => ?_)
        · replace hf := if_t c7 hf
          exact L192 rec114 hr114 (f_X5_pair_143 rec114 n) ih  x3 x4 x5 x6 x7 x8 uv hf H locs ls hG (lv_sub hl [0, 1, 2, 3, 4, 5, 6] rfl)
        · replace hf := if_f c7 hf
          refine lv_iload hx hb dX5_pair_166 (lv_at hl 4 rfl) ?_
          refine lv_iconst (v := (-1)) hx hb dX5_pair_168 (by decide) ?_
          refine lv_icmp_eq (tgt := 188) hx hb dX5_pair_169 (by decide) (fun c8 => ?_) (fun c8 => ?_)
          · replace hf := if_t c8 hf
            exact L188 rec114 hr114 (f_X5_pair_143 rec114 n) ih  x3 x4 x5 x7 x8 uv hf H locs ls hG (lv_sub hl [0, 1, 2, 3, 5, 6] rfl)
          · replace hf := if_f c8 hf
            refine lv_aload_n hx hb dX5_pair_172 rfl (lv_at hl 0 rfl) ?_
            refine lv_iload hx hb dX5_pair_173 (lv_at hl 6 rfl) ?_
            obtain ⟨r9, q10, hf⟩ := cl1_e hf
            refine x_callVl (pre := ([] : va_W)) (wc := WM κ a uv) (wc1 := WM κ a uv) (post := ([] : va_W)) (As := [.int x8]) (rest := []) (w1 := WM κ a uv) ⟨hx, hb, hml, hown, hts⟩ hK hG hA (by simp only [List.append_assoc, List.nil_append, List.append_nil]) (by simp only [List.append_assoc, List.nil_append, List.append_nil]) (c_X5_sumOf l D κ a H.size x8 uv r9 q10) (cwV 1 hts gX5_pair_X5_sumOf rfl rfl rfl (by decide +kernel) ⟨Nat.le_of_ble_eq_true rfl, Nat.le_of_ble_eq_true rfl⟩) 0 5 rfl rfl rfl rfl hl.1 rfl (Nat.le_of_ble_eq_true rfl) dX5_pair_175 ⟨Nat.zero_le _, Nat.zero_le _⟩ (fun H locs hG => ?_)
            refine lv_aload_n hx hb dX5_pair_178 rfl (lv_at hl 0 rfl) ?_
            refine lv_iload hx hb dX5_pair_179 (lv_at hl 4 rfl) ?_
            obtain ⟨r11, q12, hf⟩ := cl1_e hf
            refine x_callVl (pre := ([] : va_W)) (wc := WM κ a uv) (wc1 := WM κ a uv) (post := ([] : va_W)) (As := [.int x6]) (rest := [.long r9]) (w1 := WM κ a uv) ⟨hx, hb, hml, hown, hts⟩ hK hG hA (by simp only [List.append_assoc, List.nil_append, List.append_nil]) (by simp only [List.append_assoc, List.nil_append, List.append_nil]) (c_X5_sumOf l D κ a H.size x6 uv r11 q12) (cwV 1 hts gX5_pair_X5_sumOf rfl rfl rfl (by decide +kernel) ⟨Nat.le_of_ble_eq_true rfl, Nat.le_of_ble_eq_true rfl⟩) 0 5 rfl rfl rfl rfl hl.1 rfl (Nat.le_of_ble_eq_true rfl) dX5_pair_181 ⟨Nat.zero_le _, Nat.zero_le _⟩ (fun H locs hG => ?_)
            refine W.lcmp hx hb dX5_pair_184 ?_
            refine lv_if_ge (tgt := 192) hx hb dX5_pair_185 (by decide) (fun c13 => ?_) (fun c13 => ?_)
            · rw [lg_cmp_ge] at c13
              replace hf := if_t c13 hf
              exact L192 rec114 hr114 (f_X5_pair_143 rec114 n) ih  x3 x4 x5 x6 x7 x8 uv hf H locs ls hG (lv_sub hl [0, 1, 2, 3, 4, 5, 6] rfl)
            · rw [lg_cmp_ge] at c13
              replace hf := if_f c13 hf
              exact L188 rec114 hr114 (f_X5_pair_143 rec114 n) ih  x3 x4 x5 x7 x8 uv hf H locs ls hG (lv_sub hl [0, 1, 2, 3, 5, 6] rfl)
  have L137 : ∀ (rec114 : Int32 → Int32 → Int32 → Int32 → Int32 → MS → Option (Int64 × MS)) (hr114 : ∀ (y3 : Int32) (y4 : Int32) (y5 : Int32) (y6 : Int32) (y7 : Int32) (uv : MS), rec114 y3 y4 y5 y6 y7 uv = some (r', uv') → ∀ (H : Heap) (locs : List Loc) (ls : Array Slot), xG D A s.heap (WM κ a uv) H locs → lv_has ls 9 [(0, .ref (a 0)), (3, .int y3), (4, .int y4), (5, .int y5), (6, .int y6), (7, .int y7)] → W p l e ({ frames := 2, cells := 0, slots := 0, locals := 47 } : Room) s m (([.ref (a 0), .int p1, .int p2, .int p3, .int p4] : List Value).toArray) below meth c H locs 0 0 (MQ below (xQl D κ r' (WM κ a uv') A) (([.ref (a 0), .int p1, .int p2, .int p3, .int p4] : List Value).toArray) s 0 0 A) (F0 m 114 ls [])), ∀ (x3 : Int32) (x4 : Int32) (x5 : Int32) (x7 : Int32) (uv : MS), f_X5_pair_137 rec114 x3 x4 x5 x7 uv = some (r', uv') → ∀ (H : Heap) (locs : List Loc) (ls : Array Slot), xG D A s.heap (WM κ a uv) H locs → lv_has ls 9 [(0, .ref (a 0)), (3, .int x3), (4, .int x4), (5, .int x5), (7, .int x7)] → W p l e ({ frames := 2, cells := 0, slots := 0, locals := 47 } : Room) s m (([.ref (a 0), .int p1, .int p2, .int p3, .int p4] : List Value).toArray) below meth c H locs 0 0 (MQ below (xQl D κ r' (WM κ a uv') A) (([.ref (a 0), .int p1, .int p2, .int p3, .int p4] : List Value).toArray) s 0 0 A) (F0 m 137 ls []) := by
    intro rec114 hr114 x3 x4 x5 x7 uv hf H locs ls hG hl
    unfold f_X5_pair_137 at hf
    refine lv_iconst (v := (-1)) hx hb dX5_pair_137 (by decide) ?_
    refine lv_istore (lv' := [(6, .int ((-1))), (0, .ref (a 0)), (3, .int x3), (4, .int x4), (5, .int x5), (7, .int x7)]) hx hb dX5_pair_138 hl (by decide) rfl (fun ls hl => ?_)
    refine lv_iconst (v := 0) hx hb dX5_pair_140 (by decide) ?_
    refine lv_istore (lv' := [(8, .int 0), (6, .int ((-1))), (0, .ref (a 0)), (3, .int x3), (4, .int x4), (5, .int x5), (7, .int x7)]) hx hb dX5_pair_141 hl (by decide) rfl (fun ls hl => ?_)
    exact L143 rec114 hr114 FU x3 x4 x5 ((-1)) x7 0 uv hf H locs ls hG (lv_sub hl [2, 3, 4, 5, 1, 6, 0] rfl)
  have L114 : ∀ (n : Nat), ∀ (x3 : Int32) (x4 : Int32) (x5 : Int32) (x6 : Int32) (x7 : Int32) (uv : MS), f_X5_pair_114 n x3 x4 x5 x6 x7 uv = some (r', uv') → ∀ (H : Heap) (locs : List Loc) (ls : Array Slot), xG D A s.heap (WM κ a uv) H locs → lv_has ls 9 [(0, .ref (a 0)), (3, .int x3), (4, .int x4), (5, .int x5), (6, .int x6), (7, .int x7)] → W p l e ({ frames := 2, cells := 0, slots := 0, locals := 47 } : Room) s m (([.ref (a 0), .int p1, .int p2, .int p3, .int p4] : List Value).toArray) below meth c H locs 0 0 (MQ below (xQl D κ r' (WM κ a uv') A) (([.ref (a 0), .int p1, .int p2, .int p3, .int p4] : List Value).toArray) s 0 0 A) (F0 m 114 ls []) := by
    intro  n
    induction n with
    | zero => intro x3 x4 x5 x6 x7 uv hf; cases hf
    | succ n ih =>
      intro x3 x4 x5 x6 x7 uv hf H locs ls hG hl
      replace hf : f_X5_pair_B114 (f_X5_pair_114 n) x3 x4 x5 x6 x7 uv = some (r', uv') := hf
      unfold f_X5_pair_B114 at hf
      refine lv_iload hx hb dX5_pair_114 (lv_at hl 5 rfl) ?_
      refine lv_iload_n hx hb dX5_pair_116 rfl (lv_at hl 1 rfl) ?_
      refine lv_icmp_gt (tgt := 214) hx hb dX5_pair_117 (by decide) (fun c14 => ?_) (fun c14 => ?_)
      · replace hf := if_t c14 hf
        refine lv_iload hx hb dX5_pair_214 (lv_at hl 2 rfl) ?_
        refine lv_if_ne (tgt := 228) hx hb dX5_pair_216 (by decide) (fun c15 => ?_) (fun c15 => ?_)
        · replace hf := if_f c15 hf
          refine lv_iload hx hb dX5_pair_228 (lv_at hl 2 rfl) ?_
          refine lv_iconst (v := 1) hx hb dX5_pair_230 (by decide) ?_
          refine lv_icmp_ne (tgt := 245) hx hb dX5_pair_231 (by decide) (fun c16 => ?_) (fun c16 => ?_)
          · replace hf := if_f c16 hf
            refine lv_aload_n hx hb dX5_pair_245 rfl (lv_at hl 0 rfl) ?_
            refine x_get (C := RX5) (T := TX5) (N := 27) (ci := 5) hx hb hts iX5 hown hK hG 0 rfl rfl 17 (by decide) k51 (v := .ref (a 14)) rfl dX5_pair_246 ?_
            refine lv_sipush (v := 300) hx hb dX5_pair_249 (by decide) ?_
            refine lv_aload_n hx hb dX5_pair_252 rfl (lv_at hl 0 rfl) ?_
            refine x_get (C := RX5) (T := TX5) (N := 27) (ci := 5) hx hb hts iX5 hown hK hG 0 rfl rfl 19 (by decide) k57 (v := .ref (a 16)) rfl dX5_pair_253 ?_
            refine lv_iload hx hb dX5_pair_256 (lv_at hl 4 rfl) ?_
            obtain ⟨v17, ev17, hin, hf⟩ := ck_e hf
            refine x_iald hx hb hK hG 16 rfl ev17 hin dX5_pair_258 ?_
            refine lv_iadd hx hb dX5_pair_259 ?_
            obtain ⟨v18, ev18, hin, hf⟩ := ck_e hf
            refine x_iald hx hb hK hG 14 rfl ev18 hin dX5_pair_260 ?_
            refine lv_i2l hx hb dX5_pair_261 rfl ?_
            have hz := Option.some.inj hf
            have z0 := (Prod.mk.inj hz).1
            replace hz := (Prod.mk.inj hz).2
            have z1 := hz
            exact x_lret hx hb hr hlk hK hG z0 (by rw [z1]) dX5_pair_262
          · replace hf := if_t c16 hf
            refine lv_aload_n hx hb dX5_pair_234 rfl (lv_at hl 0 rfl) ?_
            refine x_get (C := RX5) (T := TX5) (N := 27) (ci := 5) hx hb hts iX5 hown hK hG 0 rfl rfl 17 (by decide) k51 (v := .ref (a 14)) rfl dX5_pair_235 ?_
            refine lv_iload hx hb dX5_pair_238 (lv_at hl 4 rfl) ?_
            obtain ⟨v19, ev19, hin, hf⟩ := ck_e hf
            refine x_iald hx hb hK hG 14 rfl ev19 hin dX5_pair_240 ?_
            refine lv_i2l hx hb dX5_pair_241 rfl ?_
            refine lv_goto (tgt := 262) hx hb dX5_pair_242 (by decide) ?_
            have hz := Option.some.inj hf
            have z0 := (Prod.mk.inj hz).1
            replace hz := (Prod.mk.inj hz).2
            have z1 := hz
            exact x_lret hx hb hr hlk hK hG z0 (by rw [z1]) dX5_pair_262
        · replace hf := if_t c15 hf
          refine lv_aload_n hx hb dX5_pair_219 rfl (lv_at hl 0 rfl) ?_
          refine lv_iload hx hb dX5_pair_220 (lv_at hl 4 rfl) ?_
          obtain ⟨r20, q21, hf⟩ := cl1_e hf
          refine x_callVl (pre := ([] : va_W)) (wc := WM κ a uv) (wc1 := WM κ a uv) (post := ([] : va_W)) (As := [.int x6]) (rest := []) (w1 := WM κ a uv) ⟨hx, hb, hml, hown, hts⟩ hK hG hA (by simp only [List.append_assoc, List.nil_append, List.append_nil]) (by simp only [List.append_assoc, List.nil_append, List.append_nil]) (c_X5_sumOf l D κ a H.size x6 uv r20 q21) (cwV 1 hts gX5_pair_X5_sumOf rfl rfl rfl (by decide +kernel) ⟨Nat.le_of_ble_eq_true rfl, Nat.le_of_ble_eq_true rfl⟩) 0 5 rfl rfl rfl rfl hl.1 rfl (Nat.le_of_ble_eq_true rfl) dX5_pair_222 ⟨Nat.zero_le _, Nat.zero_le _⟩ (fun H locs hG => ?_)
          refine lv_goto (tgt := 262) hx hb dX5_pair_225 (by decide) ?_
          have hz := Option.some.inj hf
          have z0 := (Prod.mk.inj hz).1
          replace hz := (Prod.mk.inj hz).2
          have z1 := hz
          exact x_lret hx hb hr hlk hK hG z0 (by rw [z1]) dX5_pair_262
      · replace hf := if_f c14 hf
        refine lv_iload hx hb dX5_pair_120 (lv_at hl 4 rfl) ?_
        refine lv_iconst (v := (-1)) hx hb dX5_pair_122 (by decide) ?_
        refine lv_icmp_eq (tgt := 137) hx hb dX5_pair_123 (by decide) (fun c22 => ?_) (fun c22 => ?_)
        · replace hf := if_t c22 hf
          exact L137 (f_X5_pair_114 n) ih  x3 x4 x5 x7 uv hf H locs ls hG (lv_sub hl [0, 1, 2, 3, 5] rfl)
        · replace hf := if_f c22 hf
          refine lv_aload_n hx hb dX5_pair_126 rfl (lv_at hl 0 rfl) ?_
          refine x_get (C := RX5) (T := TX5) (N := 27) (ci := 5) hx hb hts iX5 hown hK hG 0 rfl rfl 19 (by decide) k57 (v := .ref (a 16)) rfl dX5_pair_127 ?_
          refine lv_iload hx hb dX5_pair_130 (lv_at hl 4 rfl) ?_
          refine lv_dup2_11 hx hb dX5_pair_132 rfl rfl ?_
          obtain ⟨v23, ev23, hin, hf⟩ := ck_e hf
          refine x_iald hx hb hK hG 16 rfl ev23 hin dX5_pair_133 ?_
          refine lv_iconst (v := 1) hx hb dX5_pair_134 (by decide) ?_
          refine lv_iadd hx hb dX5_pair_135 ?_
          obtain ⟨uv24, euv24, hin, hf⟩ := ck_e hf
          refine x_iast hx hb hK hG 16 rfl (w1 := WM κ a uv24) (by rw [euv24]; rfl) hin dX5_pair_136 (fun H locs hG => ?_)
          exact L137 (f_X5_pair_114 n) ih  x3 x4 x5 x7 uv24 hf H locs ls hG (lv_sub hl [0, 1, 2, 3, 5] rfl)
  have L87 : ∀ (n : Nat), ∀ (x3 : Int32) (x4 : Int32) (x5 : Int32) (x6 : Int32) (uv : MS), f_X5_pair_87 n x3 x4 x5 x6 uv = some (r', uv') → ∀ (H : Heap) (locs : List Loc) (ls : Array Slot), xG D A s.heap (WM κ a uv) H locs → lv_has ls 9 [(0, .ref (a 0)), (3, .int x3), (4, .int x4), (5, .int x5), (6, .int x6)] → W p l e ({ frames := 2, cells := 0, slots := 0, locals := 47 } : Room) s m (([.ref (a 0), .int p1, .int p2, .int p3, .int p4] : List Value).toArray) below meth c H locs 0 0 (MQ below (xQl D κ r' (WM κ a uv') A) (([.ref (a 0), .int p1, .int p2, .int p3, .int p4] : List Value).toArray) s 0 0 A) (F0 m 87 ls []) := by
    intro  n
    induction n with
    | zero => intro x3 x4 x5 x6 uv hf; cases hf
    | succ n ih =>
      intro x3 x4 x5 x6 uv hf H locs ls hG hl
      replace hf : f_X5_pair_B87 (f_X5_pair_87 n) x3 x4 x5 x6 uv = some (r', uv') := hf
      unfold f_X5_pair_B87 at hf
      refine lv_iload hx hb dX5_pair_87 (lv_at hl 4 rfl) ?_
      refine lv_iload hx hb dX5_pair_89 (lv_at hl 3 rfl) ?_
      refine lv_icmp_ge (tgt := 108) hx hb dX5_pair_91 (by decide) (fun c25 => ?_) (fun c25 => ?_)
      · replace hf := if_t c25 hf
        refine lv_iconst (v := (-1)) hx hb dX5_pair_108 (by decide) ?_
        refine lv_istore (lv' := [(6, .int ((-1))), (0, .ref (a 0)), (3, .int x3), (4, .int x4), (5, .int x5)]) hx hb dX5_pair_109 hl (by decide) rfl (fun ls hl => ?_)
        refine lv_iconst (v := 0) hx hb dX5_pair_111 (by decide) ?_
        refine lv_istore (lv' := [(7, .int 0), (6, .int ((-1))), (0, .ref (a 0)), (3, .int x3), (4, .int x4), (5, .int x5)]) hx hb dX5_pair_112 hl (by decide) rfl (fun ls hl => ?_)
        exact L114  FU x3 x4 x5 ((-1)) 0 uv hf H locs ls hG (lv_sub hl [2, 3, 4, 5, 1, 0] rfl)
      · replace hf := if_f c25 hf
        refine lv_aload_n hx hb dX5_pair_94 rfl (lv_at hl 0 rfl) ?_
        refine x_get (C := RX5) (T := TX5) (N := 27) (ci := 5) hx hb hts iX5 hown hK hG 0 rfl rfl 19 (by decide) k57 (v := .ref (a 16)) rfl dX5_pair_95 ?_
        refine lv_iload hx hb dX5_pair_98 (lv_at hl 4 rfl) ?_
        refine lv_iconst (v := 0) hx hb dX5_pair_100 (by decide) ?_
        obtain ⟨uv26, euv26, hin, hf⟩ := ck_e hf
        refine x_iast hx hb hK hG 16 rfl (w1 := WM κ a uv26) (by rw [euv26]; rfl) hin dX5_pair_101 (fun H locs hG => ?_)
        obtain ⟨y27, ey27, hf⟩ := bnd_e hf
        refine lv_iinc (v := y27) (lv' := [(6, .int y27), (0, .ref (a 0)), (3, .int x3), (4, .int x4), (5, .int x5)]) hx hb dX5_pair_102 hl (k := 4) rfl (by rw [ey27]; rfl) (by decide) rfl (fun ls hl => ?_)
        refine lv_goto (tgt := 87) hx hb dX5_pair_105 (by decide) ?_
        exact ih x3 x4 x5 y27 uv26 hf H locs ls hG (lv_sub hl [1, 2, 3, 4, 0] rfl)
  have L82 : ∀ (x3 : Int32) (x4 : Int32) (s0 : Int32) (uv : MS), f_X5_pair_82 x3 x4 s0 uv = some (r', uv') → ∀ (H : Heap) (locs : List Loc) (ls : Array Slot), xG D A s.heap (WM κ a uv) H locs → lv_has ls 9 [(0, .ref (a 0)), (3, .int x3), (4, .int x4)] → W p l e ({ frames := 2, cells := 0, slots := 0, locals := 47 } : Room) s m (([.ref (a 0), .int p1, .int p2, .int p3, .int p4] : List Value).toArray) below meth c H locs 0 0 (MQ below (xQl D κ r' (WM κ a uv') A) (([.ref (a 0), .int p1, .int p2, .int p3, .int p4] : List Value).toArray) s 0 0 A) (F0 m 82 ls [.int s0]) := by
    intro  x3 x4 s0 uv hf H locs ls hG hl
    unfold f_X5_pair_82 at hf
    refine lv_istore (lv' := [(5, .int s0), (0, .ref (a 0)), (3, .int x3), (4, .int x4)]) hx hb dX5_pair_82 hl (by decide) rfl (fun ls hl => ?_)
    refine lv_iconst (v := 0) hx hb dX5_pair_84 (by decide) ?_
    refine lv_istore (lv' := [(6, .int 0), (5, .int s0), (0, .ref (a 0)), (3, .int x3), (4, .int x4)]) hx hb dX5_pair_85 hl (by decide) rfl (fun ls hl => ?_)
    exact L87  FU x3 x4 s0 0 uv hf H locs ls hG (lv_sub hl [2, 3, 4, 1, 0] rfl)
  unfold f_X5_pair at hf
  refine lv_aload_n hx hb dX5_pair_0 rfl (lv_at hl 0 rfl) ?_
  refine lv_iconst (v := 0) hx hb dX5_pair_1 (by decide) ?_
  obtain ⟨uv28, euv28, hf⟩ := bnd_e hf
  refine x_put (C := RX5) (T := TX5) (N := 27) (ci := 5) hx hb hts iX5 tyX5 tyX5_ok nmX5 hown hK hG 0 rfl rfl 0 (by decide) k63 rfl (ty := .int) (v := .int 0) rfl rfl rfl (Nat.le_of_ble_eq_true rfl) (w1 := WM κ a uv28) (by rw [euv28]; rfl) dX5_pair_2 (fun H locs hG => ?_)
  refine lv_iload_n hx hb dX5_pair_5 rfl (lv_at hl 1 rfl) ?_
  obtain ⟨r29, q30, hf⟩ := cl1_e hf
  refine x_callSi (pre := ([] : va_W)) (wc := ([] : va_W)) (wc1 := ([] : va_W)) (post := WM κ a uv28) (As := [.int p1]) (rest := []) (w1 := WM κ a uv28) ⟨hx, hb, hml, hown, hts⟩ hK hG hA (by simp only [List.append_assoc, List.nil_append, List.append_nil]) (by simp only [List.append_assoc, List.nil_append, List.append_nil]) (c_X5_isDesk l D κ a H.size p1 r29 q30) (va_cwS 1 hts gX5_pair_X5_isDesk rfl rfl rfl (by decide +kernel) ⟨Nat.le_of_ble_eq_true rfl, Nat.le_of_ble_eq_true rfl⟩) rfl hl.1 rfl (Nat.le_of_ble_eq_true rfl) dX5_pair_6 ⟨Nat.zero_le _, Nat.zero_le _⟩ (fun H locs hG => ?_)
  refine lv_if_eq (tgt := 44) hx hb dX5_pair_9 (by decide) (fun c31 => ?_) (fun c31 => ?_)
  · replace hf := if_t c31 hf
    refine lv_ldc2 (v := (-9223372036854775808)) hx hb hown k234 dX5_pair_44 ?_
    have hz := Option.some.inj hf
    have z0 := (Prod.mk.inj hz).1
    replace hz := (Prod.mk.inj hz).2
    have z1 := hz
    exact x_lret hx hb hr hlk hK hG z0 (by rw [z1]) dX5_pair_47
  · replace hf := if_f c31 hf
    refine lv_iload_n hx hb dX5_pair_12 rfl (lv_at hl 2 rfl) ?_
    obtain ⟨r32, q33, hf⟩ := cl1_e hf
    refine x_callSi (pre := ([] : va_W)) (wc := ([] : va_W)) (wc1 := ([] : va_W)) (post := WM κ a uv28) (As := [.int p2]) (rest := []) (w1 := WM κ a uv28) ⟨hx, hb, hml, hown, hts⟩ hK hG hA (by simp only [List.append_assoc, List.nil_append, List.append_nil]) (by simp only [List.append_assoc, List.nil_append, List.append_nil]) (c_X5_isDesk l D κ a H.size p2 r32 q33) (va_cwS 1 hts gX5_pair_X5_isDesk rfl rfl rfl (by decide +kernel) ⟨Nat.le_of_ble_eq_true rfl, Nat.le_of_ble_eq_true rfl⟩) rfl hl.1 rfl (Nat.le_of_ble_eq_true rfl) dX5_pair_13 ⟨Nat.zero_le _, Nat.zero_le _⟩ (fun H locs hG => ?_)
    refine lv_if_eq (tgt := 44) hx hb dX5_pair_16 (by decide) (fun c34 => ?_) (fun c34 => ?_)
    · replace hf := if_t c34 hf
      refine lv_ldc2 (v := (-9223372036854775808)) hx hb hown k234 dX5_pair_44 ?_
      have hz := Option.some.inj hf
      have z0 := (Prod.mk.inj hz).1
      replace hz := (Prod.mk.inj hz).2
      have z1 := hz
      exact x_lret hx hb hr hlk hK hG z0 (by rw [z1]) dX5_pair_47
    · replace hf := if_f c34 hf
      refine lv_iload_n hx hb dX5_pair_19 rfl (lv_at hl 3 rfl) ?_
      refine lv_i2l hx hb dX5_pair_20 rfl ?_
      refine lv_lconst (v := 0) hx hb dX5_pair_21 (by decide) ?_
      refine lv_ldc2 (v := 39) hx hb hown k236 dX5_pair_22 ?_
      obtain ⟨r35, q36, hf⟩ := cl1_e hf
      refine x_callSi (pre := ([] : va_W)) (wc := ([] : va_W)) (wc1 := ([] : va_W)) (post := WM κ a uv28) (As := [.long (p3.toInt64), .long 0, .long 39]) (rest := []) (w1 := WM κ a uv28) ⟨hx, hb, hml, hown, hts⟩ hK hG hA (by simp only [List.append_assoc, List.nil_append, List.append_nil]) (by simp only [List.append_assoc, List.nil_append, List.append_nil]) (c_X5_in l D κ a H.size (p3.toInt64) 0 39 r35 q36) (va_cwS 3 hts gX5_pair_X5_in rfl rfl rfl (by decide +kernel) ⟨Nat.le_of_ble_eq_true rfl, Nat.le_of_ble_eq_true rfl⟩) rfl hl.1 rfl (Nat.le_of_ble_eq_true rfl) dX5_pair_25 ⟨Nat.zero_le _, Nat.zero_le _⟩ (fun H locs hG => ?_)
      refine lv_if_eq (tgt := 44) hx hb dX5_pair_28 (by decide) (fun c37 => ?_) (fun c37 => ?_)
      · replace hf := if_t c37 hf
        refine lv_ldc2 (v := (-9223372036854775808)) hx hb hown k234 dX5_pair_44 ?_
        have hz := Option.some.inj hf
        have z0 := (Prod.mk.inj hz).1
        replace hz := (Prod.mk.inj hz).2
        have z1 := hz
        exact x_lret hx hb hr hlk hK hG z0 (by rw [z1]) dX5_pair_47
      · replace hf := if_f c37 hf
        refine lv_iload hx hb dX5_pair_31 (lv_at hl 4 rfl) ?_
        refine lv_i2l hx hb dX5_pair_33 rfl ?_
        refine lv_lconst (v := 0) hx hb dX5_pair_34 (by decide) ?_
        refine lv_ldc2 (v := 2) hx hb hown k238 dX5_pair_35 ?_
        obtain ⟨r38, q39, hf⟩ := cl1_e hf
        refine x_callSi (pre := ([] : va_W)) (wc := ([] : va_W)) (wc1 := ([] : va_W)) (post := WM κ a uv28) (As := [.long (p4.toInt64), .long 0, .long 2]) (rest := []) (w1 := WM κ a uv28) ⟨hx, hb, hml, hown, hts⟩ hK hG hA (by simp only [List.append_assoc, List.nil_append, List.append_nil]) (by simp only [List.append_assoc, List.nil_append, List.append_nil]) (c_X5_in l D κ a H.size (p4.toInt64) 0 2 r38 q39) (va_cwS 3 hts gX5_pair_X5_in rfl rfl rfl (by decide +kernel) ⟨Nat.le_of_ble_eq_true rfl, Nat.le_of_ble_eq_true rfl⟩) rfl hl.1 rfl (Nat.le_of_ble_eq_true rfl) dX5_pair_38 ⟨Nat.zero_le _, Nat.zero_le _⟩ (fun H locs hG => ?_)
        refine lv_if_ne (tgt := 48) hx hb dX5_pair_41 (by decide) (fun c40 => ?_) (fun c40 => ?_)
        · replace hf := if_f c40 hf
          refine lv_aload_n hx hb dX5_pair_48 rfl (lv_at hl 0 rfl) ?_
          refine lv_iload_n hx hb dX5_pair_49 rfl (lv_at hl 1 rfl) ?_
          refine lv_iconst (v := 0) hx hb dX5_pair_50 (by decide) ?_
          obtain ⟨uv41, q42, hf⟩ := cl1_e hf
          refine x_callVv (pre := ([] : va_W)) (wc := WM κ a uv28) (wc1 := WM κ a uv41) (post := ([] : va_W)) (As := [.int p1, .int 0]) (rest := []) (w1 := WM κ a uv41) ⟨hx, hb, hml, hown, hts⟩ hK hG hA (by simp only [List.append_assoc, List.nil_append, List.append_nil]) (by simp only [List.append_assoc, List.nil_append, List.append_nil]) (c_X5_layRising l D κ a H.size p1 0 uv28 uv41 q42) (cwV 2 hts gX5_pair_X5_layRising rfl rfl rfl (by decide +kernel) ⟨Nat.le_of_ble_eq_true rfl, Nat.le_of_ble_eq_true rfl⟩) 0 5 rfl rfl rfl rfl hl.1 rfl (Nat.le_of_ble_eq_true rfl) dX5_pair_51 ⟨Nat.zero_le _, Nat.zero_le _⟩ (fun H locs hG => ?_)
          refine lv_aload_n hx hb dX5_pair_54 rfl (lv_at hl 0 rfl) ?_
          refine lv_iload_n hx hb dX5_pair_55 rfl (lv_at hl 2 rfl) ?_
          refine lv_iconst (v := 1) hx hb dX5_pair_56 (by decide) ?_
          obtain ⟨uv43, q44, hf⟩ := cl1_e hf
          refine x_callVv (pre := ([] : va_W)) (wc := WM κ a uv41) (wc1 := WM κ a uv43) (post := ([] : va_W)) (As := [.int p2, .int 1]) (rest := []) (w1 := WM κ a uv43) ⟨hx, hb, hml, hown, hts⟩ hK hG hA (by simp only [List.append_assoc, List.nil_append, List.append_nil]) (by simp only [List.append_assoc, List.nil_append, List.append_nil]) (c_X5_layRising l D κ a H.size p2 1 uv41 uv43 q44) (cwV 2 hts gX5_pair_X5_layRising rfl rfl rfl (by decide +kernel) ⟨Nat.le_of_ble_eq_true rfl, Nat.le_of_ble_eq_true rfl⟩) 0 5 rfl rfl rfl rfl hl.1 rfl (Nat.le_of_ble_eq_true rfl) dX5_pair_57 ⟨Nat.zero_le _, Nat.zero_le _⟩ (fun H locs hG => ?_)
          refine lv_aload_n hx hb dX5_pair_60 rfl (lv_at hl 0 rfl) ?_
          refine x_get (C := RX5) (T := TX5) (N := 27) (ci := 5) hx hb hts iX5 hown hK hG 0 rfl rfl 18 (by decide) k54 (v := .ref (a 15)) rfl dX5_pair_61 ?_
          refine lv_iconst (v := 0) hx hb dX5_pair_64 (by decide) ?_
          obtain ⟨v45, ev45, hin, hf⟩ := ck_e hf
          refine x_iald hx hb hK hG 15 rfl ev45 hin dX5_pair_65 ?_
          refine lv_bipush (v := 40) hx hb dX5_pair_66 (by decide) ?_
          refine lv_icmp_ge (tgt := 80) hx hb dX5_pair_68 (by decide) (fun c46 => ?_) (fun c46 => ?_)
          · replace hf := if_t c46 hf
            refine lv_bipush (v := 40) hx hb dX5_pair_80 (by decide) ?_
            exact L82   p3 p4 40 uv43 hf H locs ls hG (lv_sub hl [0, 3, 4] rfl)
          · replace hf := if_f c46 hf
            refine lv_aload_n hx hb dX5_pair_71 rfl (lv_at hl 0 rfl) ?_
            refine x_get (C := RX5) (T := TX5) (N := 27) (ci := 5) hx hb hts iX5 hown hK hG 0 rfl rfl 18 (by decide) k54 (v := .ref (a 15)) rfl dX5_pair_72 ?_
            refine lv_iconst (v := 0) hx hb dX5_pair_75 (by decide) ?_
            obtain ⟨v47, ev47, hin, hf⟩ := ck_e hf
            refine x_iald hx hb hK hG 15 rfl ev47 hin dX5_pair_76 ?_
            refine lv_goto (tgt := 82) hx hb dX5_pair_77 (by decide) ?_
            exact L82   p3 p4 v47 uv43 hf H locs ls hG (lv_sub hl [0, 3, 4] rfl)
        · replace hf := if_t c40 hf
          refine lv_ldc2 (v := (-9223372036854775808)) hx hb hown k234 dX5_pair_44 ?_
          have hz := Option.some.inj hf
          have z0 := (Prod.mk.inj hz).1
          replace hz := (Prod.mk.inj hz).2
          have z1 := hz
          exact x_lret hx hb hr hlk hK hG z0 (by rw [z1]) dX5_pair_47
