set_option maxRecDepth 100000 in
set_option maxHeartbeats 4000000 in
theorem c_X5_below (l : Launch) (D : va_G) (κ : Nat → ClassId) (a : Nat → Nat) (sz : Nat) (p1 : Int32) (p2 : Int64) (uv : MS) (r' : Int32) (uv' : MS) (hf : f_X5_below p1 p2 uv = some (r', uv')) : Met l yX5_below wsX5_below ({ frames := 2, cells := 0, slots := 0, locals := 45 } : Room) (xPc D κ [.ref (a 0), .int p1, .long p2] (WM κ a uv) sz) (xQi D κ r' (WM κ a uv') (va_A (WM κ a uv) sz)) 0 0 (va_A (WM κ a uv) sz) := by
  refine x_ofW (cc := cX5_below) (maxL := 6) (ret := (some .int)) (Qf := fun A => xQi D κ r' (WM κ a uv') A) (by decide) rfl (Nat.le_of_ble_eq_true rfl) ?_
  intro p e s m below meth c hx hb hr hlk hml hown hts hK A hA H locs hG ls hl
  have hown : s.vm.findClass RX5 = some m.cls := hown
  have hl : lv_has ls 6 [(0, .ref (a 0)), (1, .int p1), (2, .long p2)] := hl
  have iX5 : ∀ w ∈ u_ws RX5 TX5 27, w ∈ wsX5_below := fun _ h => List.mem_cons_of_mem _ (List.mem_append_right _ h)
  have k13 := hts (.fieldLink RX5 13 "SpineDesksModel" "row" "[I") (List.mem_of_getElem? (i := 2) rfl)
  have k16 := hts (.fieldLink RX5 16 "SpineDesksModel" "keys" "[J") (List.mem_of_getElem? (i := 3) rfl)
  have k63 := hts (.fieldLink RX5 63 "SpineDesksModel" "thrown" "I") (List.mem_of_getElem? (i := 1) rfl)
  have L81 : ∀ (rec20 : Int32 → Int64 → Int32 → Int32 → MS → Option (Int32 × MS)) (hr20 : ∀ (y1 : Int32) (y2 : Int64) (y4 : Int32) (y5 : Int32) (uv : MS), rec20 y1 y2 y4 y5 uv = some (r', uv') → ∀ (H : Heap) (locs : List Loc) (ls : Array Slot), xG D A s.heap (WM κ a uv) H locs → lv_has ls 6 [(0, .ref (a 0)), (1, .int y1), (2, .long y2), (4, .int y4), (5, .int y5)] → W p l e ({ frames := 2, cells := 0, slots := 0, locals := 45 } : Room) s m (([.ref (a 0), .int p1, .long p2] : List Value).toArray) below meth c H locs 0 0 (MQ below (xQi D κ r' (WM κ a uv') A) (([.ref (a 0), .int p1, .long p2] : List Value).toArray) s 0 0 A) (F0 m 20 ls [])), ∀ (x1 : Int32) (x2 : Int64) (x5 : Int32) (s0 : Int32) (s1 : Int32) (uv : MS), f_X5_below_81 rec20 x1 x2 x5 s0 s1 uv = some (r', uv') → ∀ (H : Heap) (locs : List Loc) (ls : Array Slot), xG D A s.heap (WM κ a uv) H locs → lv_has ls 6 [(0, .ref (a 0)), (1, .int x1), (2, .long x2), (5, .int x5)] → W p l e ({ frames := 2, cells := 0, slots := 0, locals := 45 } : Room) s m (([.ref (a 0), .int p1, .long p2] : List Value).toArray) below meth c H locs 0 0 (MQ below (xQi D κ r' (WM κ a uv') A) (([.ref (a 0), .int p1, .long p2] : List Value).toArray) s 0 0 A) (F0 m 81 ls [.int s1, .int s0]) := by
    intro rec20 hr20 x1 x2 x5 s0 s1 uv hf H locs ls hG hl
    unfold f_X5_below_81 at hf
    refine lv_iadd hx hb dX5_below_81 ?_
    refine lv_topi (fun y1 ey1 => ?_)
    replace hf := bnd_at ey1 hf
    refine lv_istore (lv' := [(4, .int y1), (0, .ref (a 0)), (1, .int x1), (2, .long x2), (5, .int x5)]) hx hb dX5_below_82 hl (by decide) rfl (fun ls hl => ?_)
    obtain ⟨y2, ey2, hf⟩ := bnd_e hf
    refine lv_iinc (v := y2) (lv' := [(5, .int y2), (4, .int y1), (0, .ref (a 0)), (1, .int x1), (2, .long x2)]) hx hb dX5_below_84 hl (k := 4) rfl (by rw [ey2]; rfl) (by decide) rfl (fun ls hl => ?_)
    refine lv_goto (tgt := 20) hx hb dX5_below_87 (by decide) ?_
    exact hr20 x1 x2 y1 y2 uv hf H locs ls hG (lv_sub hl [2, 3, 4, 1, 0] rfl)
  have L80 : ∀ (rec20 : Int32 → Int64 → Int32 → Int32 → MS → Option (Int32 × MS)) (hr20 : ∀ (y1 : Int32) (y2 : Int64) (y4 : Int32) (y5 : Int32) (uv : MS), rec20 y1 y2 y4 y5 uv = some (r', uv') → ∀ (H : Heap) (locs : List Loc) (ls : Array Slot), xG D A s.heap (WM κ a uv) H locs → lv_has ls 6 [(0, .ref (a 0)), (1, .int y1), (2, .long y2), (4, .int y4), (5, .int y5)] → W p l e ({ frames := 2, cells := 0, slots := 0, locals := 45 } : Room) s m (([.ref (a 0), .int p1, .long p2] : List Value).toArray) below meth c H locs 0 0 (MQ below (xQi D κ r' (WM κ a uv') A) (([.ref (a 0), .int p1, .long p2] : List Value).toArray) s 0 0 A) (F0 m 20 ls [])), ∀ (x1 : Int32) (x2 : Int64) (x5 : Int32) (s0 : Int32) (uv : MS), f_X5_below_80 rec20 x1 x2 x5 s0 uv = some (r', uv') → ∀ (H : Heap) (locs : List Loc) (ls : Array Slot), xG D A s.heap (WM κ a uv) H locs → lv_has ls 6 [(0, .ref (a 0)), (1, .int x1), (2, .long x2), (5, .int x5)] → W p l e ({ frames := 2, cells := 0, slots := 0, locals := 45 } : Room) s m (([.ref (a 0), .int p1, .long p2] : List Value).toArray) below meth c H locs 0 0 (MQ below (xQi D κ r' (WM κ a uv') A) (([.ref (a 0), .int p1, .long p2] : List Value).toArray) s 0 0 A) (F0 m 80 ls [.int s0]) := by
    intro rec20 hr20 x1 x2 x5 s0 uv hf H locs ls hG hl
    unfold f_X5_below_80 at hf
    refine lv_iconst (v := 0) hx hb dX5_below_80 (by decide) ?_
    exact L81 rec20 hr20  x1 x2 x5 s0 0 uv hf H locs ls hG (lv_sub hl [0, 1, 2, 3] rfl)
  have L20 : ∀ (n : Nat), ∀ (x1 : Int32) (x2 : Int64) (x4 : Int32) (x5 : Int32) (uv : MS), f_X5_below_20 n x1 x2 x4 x5 uv = some (r', uv') → ∀ (H : Heap) (locs : List Loc) (ls : Array Slot), xG D A s.heap (WM κ a uv) H locs → lv_has ls 6 [(0, .ref (a 0)), (1, .int x1), (2, .long x2), (4, .int x4), (5, .int x5)] → W p l e ({ frames := 2, cells := 0, slots := 0, locals := 45 } : Room) s m (([.ref (a 0), .int p1, .long p2] : List Value).toArray) below meth c H locs 0 0 (MQ below (xQi D κ r' (WM κ a uv') A) (([.ref (a 0), .int p1, .long p2] : List Value).toArray) s 0 0 A) (F0 m 20 ls []) := by
    intro  n
    induction n with
    | zero => intro x1 x2 x4 x5 uv hf; cases hf
    | succ n ih =>
      intro x1 x2 x4 x5 uv hf H locs ls hG hl
      replace hf : f_X5_below_B20 (f_X5_below_20 n) x1 x2 x4 x5 uv = some (r', uv') := hf
      unfold f_X5_below_B20 at hf
      refine lv_iload hx hb dX5_below_20 (lv_at hl 4 rfl) ?_
      refine lv_aload_n hx hb dX5_below_22 rfl (lv_at hl 0 rfl) ?_
      refine x_get (C := RX5) (T := TX5) (N := 27) (ci := 5) hx hb hts iX5 hown hK hG 0 rfl rfl 2 (by decide) k13 (v := .ref (a 2)) rfl dX5_below_23 ?_
      refine lv_iconst (v := 0) hx hb dX5_below_26 (by decide) ?_
      obtain ⟨v3, ev3, hin, hf⟩ := ck_e hf
      refine x_iald hx hb hK hG 2 rfl ev3 hin dX5_below_27 ?_
      refine lv_icmp_ge (tgt := 90) hx hb dX5_below_28 (by decide) (fun c4 => ?_) (fun c4 => ?_)
      · replace hf := if_t c4 hf
        refine lv_iload hx hb dX5_below_90 (lv_at hl 3 rfl) ?_
        have hz := Option.some.inj hf
        have z0 := (Prod.mk.inj hz).1
        replace hz := (Prod.mk.inj hz).2
        have z1 := hz
        exact x_iret hx hb hr hlk hK hG z0 (by rw [z1]) dX5_below_92
      · replace hf := if_f c4 hf
        refine lv_iload hx hb dX5_below_31 (lv_at hl 3 rfl) ?_
        refine lv_aload_n hx hb dX5_below_33 rfl (lv_at hl 0 rfl) ?_
        refine x_get (C := RX5) (T := TX5) (N := 27) (ci := 5) hx hb hts iX5 hown hK hG 0 rfl rfl 2 (by decide) k13 (v := .ref (a 2)) rfl dX5_below_34 ?_
        refine lv_iload hx hb dX5_below_37 (lv_at hl 4 rfl) ?_
        obtain ⟨r5, q6, hf⟩ := cl1_e hf
        refine x_callSi (pre := ([] : va_W)) (wc := ([] : va_W)) (wc1 := ([] : va_W)) (post := WM κ a uv) (As := [.int x5]) (rest := [.ref (a 2), .int x4]) (w1 := WM κ a uv) ⟨hx, hb, hml, hown, hts⟩ hK hG hA (by simp only [List.append_assoc, List.nil_append, List.append_nil]) (by simp only [List.append_assoc, List.nil_append, List.append_nil]) (c_X5_at l D κ a H.size x5 r5 q6) (va_cwS 1 hts gX5_below_X5_at rfl rfl rfl (by decide +kernel) ⟨Nat.le_of_ble_eq_true rfl, Nat.le_of_ble_eq_true rfl⟩) rfl hl.1 rfl (Nat.le_of_ble_eq_true rfl) dX5_below_39 ⟨Nat.zero_le _, Nat.zero_le _⟩ (fun H locs hG => ?_)
        refine lv_iconst (v := 1) hx hb dX5_below_42 (by decide) ?_
        refine lv_iadd hx hb dX5_below_43 ?_
        obtain ⟨v7, ev7, hin, hf⟩ := ck_e hf
        refine x_iald hx hb hK hG 2 rfl ev7 hin dX5_below_44 ?_
        refine lv_iload_n hx hb dX5_below_45 rfl (lv_at hl 1 rfl) ?_
        refine lv_icmp_ne (tgt := 80) hx hb dX5_below_46 (by decide) (fun c8 => ?_) (fun c8 => ?_)
        · replace hf := if_f c8 hf
          exact L80 (f_X5_below_20 n) ih  x1 x2 x5 x4 uv hf H locs ls hG (lv_sub hl [0, 1, 2, 4] rfl)
        · replace hf := if_t c8 hf
          refine lv_aload_n hx hb dX5_below_49 rfl (lv_at hl 0 rfl) ?_
          refine x_get (C := RX5) (T := TX5) (N := 27) (ci := 5) hx hb hts iX5 hown hK hG 0 rfl rfl 2 (by decide) k13 (v := .ref (a 2)) rfl dX5_below_50 ?_
          refine lv_iload hx hb dX5_below_53 (lv_at hl 4 rfl) ?_
          obtain ⟨r9, q10, hf⟩ := cl1_e hf
          refine x_callSi (pre := ([] : va_W)) (wc := ([] : va_W)) (wc1 := ([] : va_W)) (post := WM κ a uv) (As := [.int x5]) (rest := [.ref (a 2), .int x4]) (w1 := WM κ a uv) ⟨hx, hb, hml, hown, hts⟩ hK hG hA (by simp only [List.append_assoc, List.nil_append, List.append_nil]) (by simp only [List.append_assoc, List.nil_append, List.append_nil]) (c_X5_at l D κ a H.size x5 r9 q10) (va_cwS 1 hts gX5_below_X5_at rfl rfl rfl (by decide +kernel) ⟨Nat.le_of_ble_eq_true rfl, Nat.le_of_ble_eq_true rfl⟩) rfl hl.1 rfl (Nat.le_of_ble_eq_true rfl) dX5_below_55 ⟨Nat.zero_le _, Nat.zero_le _⟩ (fun H locs hG => ?_)
          refine lv_iconst (v := 2) hx hb dX5_below_58 (by decide) ?_
          refine lv_iadd hx hb dX5_below_59 ?_
          obtain ⟨v11, ev11, hin, hf⟩ := ck_e hf
          refine x_iald hx hb hK hG 2 rfl ev11 hin dX5_below_60 ?_
          refine lv_if_ne (tgt := 80) hx hb dX5_below_61 (by decide) (fun c12 => ?_) (fun c12 => ?_)
          · replace hf := if_f c12 hf
            exact L80 (f_X5_below_20 n) ih  x1 x2 x5 x4 uv hf H locs ls hG (lv_sub hl [0, 1, 2, 4] rfl)
          · replace hf := if_t c12 hf
            refine lv_aload_n hx hb dX5_below_64 rfl (lv_at hl 0 rfl) ?_
            refine x_get (C := RX5) (T := TX5) (N := 27) (ci := 5) hx hb hts iX5 hown hK hG 0 rfl rfl 3 (by decide) k16 (v := .ref (a 3)) rfl dX5_below_65 ?_
            refine lv_iload hx hb dX5_below_68 (lv_at hl 4 rfl) ?_
            obtain ⟨v13, ev13, hin, hf⟩ := ck_e hf
            refine x_lald hx hb hK hG 3 rfl ev13 hin dX5_below_70 ?_
            refine lv_lload_n hx hb dX5_below_71 rfl (lv_at hl 2 rfl) ?_
            refine W.lcmp hx hb dX5_below_72 ?_
            refine lv_if_ge (tgt := 80) hx hb dX5_below_73 (by decide) (fun c14 => ?_) (fun c14 => ?_)
            · rw [lg_cmp_ge] at c14
              replace hf := if_t c14 hf
              exact L80 (f_X5_below_20 n) ih  x1 x2 x5 x4 uv hf H locs ls hG (lv_sub hl [0, 1, 2, 4] rfl)
            · rw [lg_cmp_ge] at c14
              replace hf := if_f c14 hf
              refine lv_iconst (v := 1) hx hb dX5_below_76 (by decide) ?_
              refine lv_goto (tgt := 81) hx hb dX5_below_77 (by decide) ?_
              exact L81 (f_X5_below_20 n) ih  x1 x2 x5 x4 1 uv hf H locs ls hG (lv_sub hl [0, 1, 2, 4] rfl)
  unfold f_X5_below at hf
  refine lv_aload_n hx hb dX5_below_0 rfl (lv_at hl 0 rfl) ?_
  refine lv_iconst (v := 0) hx hb dX5_below_1 (by decide) ?_
  obtain ⟨uv15, euv15, hf⟩ := bnd_e hf
  refine x_put (C := RX5) (T := TX5) (N := 27) (ci := 5) hx hb hts iX5 tyX5 tyX5_ok nmX5 hown hK hG 0 rfl rfl 0 (by decide) k63 rfl (ty := .int) (v := .int 0) rfl rfl rfl (Nat.le_of_ble_eq_true rfl) (w1 := WM κ a uv15) (by rw [euv15]; rfl) dX5_below_2 (fun H locs hG => ?_)
  refine lv_iload_n hx hb dX5_below_5 rfl (lv_at hl 1 rfl) ?_
  obtain ⟨r16, q17, hf⟩ := cl1_e hf
  refine x_callSi (pre := ([] : va_W)) (wc := ([] : va_W)) (wc1 := ([] : va_W)) (post := WM κ a uv15) (As := [.int p1]) (rest := []) (w1 := WM κ a uv15) ⟨hx, hb, hml, hown, hts⟩ hK hG hA (by simp only [List.append_assoc, List.nil_append, List.append_nil]) (by simp only [List.append_assoc, List.nil_append, List.append_nil]) (c_X5_isDesk l D κ a H.size p1 r16 q17) (va_cwS 1 hts gX5_below_X5_isDesk rfl rfl rfl (by decide +kernel) ⟨Nat.le_of_ble_eq_true rfl, Nat.le_of_ble_eq_true rfl⟩) rfl hl.1 rfl (Nat.le_of_ble_eq_true rfl) dX5_below_6 ⟨Nat.zero_le _, Nat.zero_le _⟩ (fun H locs hG => ?_)
  refine lv_if_ne (tgt := 14) hx hb dX5_below_9 (by decide) (fun c18 => ?_) (fun c18 => ?_)
  · replace hf := if_f c18 hf
    refine lv_iconst (v := 0) hx hb dX5_below_14 (by decide) ?_
    refine lv_istore (lv' := [(4, .int 0), (0, .ref (a 0)), (1, .int p1), (2, .long p2)]) hx hb dX5_below_15 hl (by decide) rfl (fun ls hl => ?_)
    refine lv_iconst (v := 0) hx hb dX5_below_17 (by decide) ?_
    refine lv_istore (lv' := [(5, .int 0), (4, .int 0), (0, .ref (a 0)), (1, .int p1), (2, .long p2)]) hx hb dX5_below_18 hl (by decide) rfl (fun ls hl => ?_)
    exact L20  FU p1 p2 0 0 uv15 hf H locs ls hG (lv_sub hl [2, 3, 4, 1, 0] rfl)
  · replace hf := if_t c18 hf
    refine lv_iconst (v := (-1)) hx hb dX5_below_12 (by decide) ?_
    have hz := Option.some.inj hf
    have z0 := (Prod.mk.inj hz).1
    replace hz := (Prod.mk.inj hz).2
    have z1 := hz
    exact x_iret hx hb hr hlk hK hG z0 (by rw [z1]) dX5_below_13
set_option maxRecDepth 100000 in
set_option maxHeartbeats 4000000 in
theorem c_X5_keys (l : Launch) (D : va_G) (κ : Nat → ClassId) (a : Nat → Nat) (sz : Nat) (p1 : Int32) (p2 : Int32) (uv : MS) (r' : Int64) (uv' : MS) (hf : f_X5_keys p1 p2 uv = some (r', uv')) : Met l yX5_keys wsX5_keys ({ frames := 2, cells := 0, slots := 0, locals := 47 } : Room) (xPc D κ [.ref (a 0), .int p1, .int p2] (WM κ a uv) sz) (xQl D κ r' (WM κ a uv') (va_A (WM κ a uv) sz)) 0 0 (va_A (WM κ a uv) sz) := by
  refine x_ofW (cc := cX5_keys) (maxL := 12) (ret := (some .long)) (Qf := fun A => xQl D κ r' (WM κ a uv') A) (by decide) rfl (Nat.le_of_ble_eq_true rfl) ?_
  intro p e s m below meth c hx hb hr hlk hml hown hts hK A hA H locs hG ls hl
  have hown : s.vm.findClass RX5 = some m.cls := hown
  have hl : lv_has ls 12 [(0, .ref (a 0)), (1, .int p1), (2, .int p2)] := hl
  have iX5 : ∀ w ∈ u_ws RX5 TX5 27, w ∈ wsX5_keys := fun _ h => List.mem_cons_of_mem _ (List.mem_append_right _ h)
  have k16 := hts (.fieldLink RX5 16 "SpineDesksModel" "keys" "[J") (List.mem_of_getElem? (i := 5) rfl)
  have k230 := hts (.constantLong RX5 230 (3)) (List.mem_of_getElem? (i := 2) rfl)
  have k234 := hts (.constantLong RX5 234 (-9223372036854775808)) (List.mem_of_getElem? (i := 3) rfl)
  have k51 := hts (.fieldLink RX5 51 "SpineDesksModel" "rising" "[I") (List.mem_of_getElem? (i := 6) rfl)
  have k54 := hts (.fieldLink RX5 54 "SpineDesksModel" "risingMany" "[I") (List.mem_of_getElem? (i := 4) rfl)
  have k63 := hts (.fieldLink RX5 63 "SpineDesksModel" "thrown" "I") (List.mem_of_getElem? (i := 1) rfl)
  have L152 : ∀ (rec55 : Int32 → Int32 → Int64 → Int64 → Int32 → Int32 → MS → Option (Int64 × MS)) (hr55 : ∀ (y2 : Int32) (y3 : Int32) (y4 : Int64) (y6 : Int64) (y8 : Int32) (y9 : Int32) (uv : MS), rec55 y2 y3 y4 y6 y8 y9 uv = some (r', uv') → ∀ (H : Heap) (locs : List Loc) (ls : Array Slot), xG D A s.heap (WM κ a uv) H locs → lv_has ls 12 [(0, .ref (a 0)), (2, .int y2), (3, .int y3), (4, .long y4), (6, .long y6), (8, .int y8), (9, .int y9)] → W p l e ({ frames := 2, cells := 0, slots := 0, locals := 47 } : Room) s m (([.ref (a 0), .int p1, .int p2] : List Value).toArray) below meth c H locs 0 0 (MQ below (xQl D κ r' (WM κ a uv') A) (([.ref (a 0), .int p1, .int p2] : List Value).toArray) s 0 0 A) (F0 m 55 ls [])), ∀ (x2 : Int32) (x3 : Int32) (x4 : Int64) (x6 : Int64) (x9 : Int32) (s0 : Int32) (s1 : Int32) (uv : MS), f_X5_keys_152 rec55 x2 x3 x4 x6 x9 s0 s1 uv = some (r', uv') → ∀ (H : Heap) (locs : List Loc) (ls : Array Slot), xG D A s.heap (WM κ a uv) H locs → lv_has ls 12 [(0, .ref (a 0)), (2, .int x2), (3, .int x3), (4, .long x4), (6, .long x6), (9, .int x9)] → W p l e ({ frames := 2, cells := 0, slots := 0, locals := 47 } : Room) s m (([.ref (a 0), .int p1, .int p2] : List Value).toArray) below meth c H locs 0 0 (MQ below (xQl D κ r' (WM κ a uv') A) (([.ref (a 0), .int p1, .int p2] : List Value).toArray) s 0 0 A) (F0 m 152 ls [.int s1, .int s0]) := by
    intro rec55 hr55 x2 x3 x4 x6 x9 s0 s1 uv hf H locs ls hG hl
    unfold f_X5_keys_152 at hf
    refine lv_iadd hx hb dX5_keys_152 ?_
    refine lv_topi (fun y1 ey1 => ?_)
    replace hf := bnd_at ey1 hf
    refine lv_istore (lv' := [(8, .int y1), (0, .ref (a 0)), (2, .int x2), (3, .int x3), (4, .long x4), (6, .long x6), (9, .int x9)]) hx hb dX5_keys_153 hl (by decide) rfl (fun ls hl => ?_)
    obtain ⟨y2, ey2, hf⟩ := bnd_e hf
    refine lv_iinc (v := y2) (lv' := [(9, .int y2), (8, .int y1), (0, .ref (a 0)), (2, .int x2), (3, .int x3), (4, .long x4), (6, .long x6)]) hx hb dX5_keys_155 hl (k := 6) rfl (by rw [ey2]; rfl) (by decide) rfl (fun ls hl => ?_)
    refine lv_goto (tgt := 55) hx hb dX5_keys_158 (by decide) ?_
    exact hr55 x2 x3 x4 x6 y1 y2 uv hf H locs ls hG (lv_sub hl [2, 3, 4, 5, 6, 1, 0] rfl)
  have L136 : ∀ (rec55 : Int32 → Int32 → Int64 → Int64 → Int32 → Int32 → MS → Option (Int64 × MS)) (hr55 : ∀ (y2 : Int32) (y3 : Int32) (y4 : Int64) (y6 : Int64) (y8 : Int32) (y9 : Int32) (uv : MS), rec55 y2 y3 y4 y6 y8 y9 uv = some (r', uv') → ∀ (H : Heap) (locs : List Loc) (ls : Array Slot), xG D A s.heap (WM κ a uv) H locs → lv_has ls 12 [(0, .ref (a 0)), (2, .int y2), (3, .int y3), (4, .long y4), (6, .long y6), (8, .int y8), (9, .int y9)] → W p l e ({ frames := 2, cells := 0, slots := 0, locals := 47 } : Room) s m (([.ref (a 0), .int p1, .int p2] : List Value).toArray) below meth c H locs 0 0 (MQ below (xQl D κ r' (WM κ a uv') A) (([.ref (a 0), .int p1, .int p2] : List Value).toArray) s 0 0 A) (F0 m 55 ls [])), ∀ (x2 : Int32) (x3 : Int32) (x4 : Int64) (x8 : Int32) (x9 : Int32) (x10 : Int64) (s0 : Int64) (uv : MS), f_X5_keys_136 rec55 x2 x3 x4 x8 x9 x10 s0 uv = some (r', uv') → ∀ (H : Heap) (locs : List Loc) (ls : Array Slot), xG D A s.heap (WM κ a uv) H locs → lv_has ls 12 [(0, .ref (a 0)), (2, .int x2), (3, .int x3), (4, .long x4), (8, .int x8), (9, .int x9), (10, .long x10)] → W p l e ({ frames := 2, cells := 0, slots := 0, locals := 47 } : Room) s m (([.ref (a 0), .int p1, .int p2] : List Value).toArray) below meth c H locs 0 0 (MQ below (xQl D κ r' (WM κ a uv') A) (([.ref (a 0), .int p1, .int p2] : List Value).toArray) s 0 0 A) (F0 m 136 ls [.long s0]) := by
    intro rec55 hr55 x2 x3 x4 x8 x9 x10 s0 uv hf H locs ls hG hl
    unfold f_X5_keys_136 at hf
    refine lv_lstore (lv' := [(6, .long s0), (0, .ref (a 0)), (2, .int x2), (3, .int x3), (4, .long x4), (8, .int x8), (9, .int x9), (10, .long x10)]) hx hb dX5_keys_136 hl (by decide) rfl (fun ls hl => ?_)
    refine lv_iload hx hb dX5_keys_138 (lv_at hl 5 rfl) ?_
    refine lv_lload hx hb dX5_keys_140 (lv_at hl 7 rfl) ?_
    refine lv_lconst (v := 0) hx hb dX5_keys_142 (by decide) ?_
    refine W.lcmp hx hb dX5_keys_143 ?_
    refine lv_if_le (tgt := 151) hx hb dX5_keys_144 (by decide) (fun c3 => ?_) (fun c3 => ?_)
    · rw [lg_cmp_le] at c3
      replace hf := if_t c3 hf
      refine lv_iconst (v := 0) hx hb dX5_keys_151 (by decide) ?_
      exact L152 rec55 hr55  x2 x3 x4 s0 x9 x8 0 uv hf H locs ls hG (lv_sub hl [1, 2, 3, 4, 0, 6] rfl)
    · rw [lg_cmp_le] at c3
      replace hf := if_f c3 hf
      refine lv_iconst (v := 1) hx hb dX5_keys_147 (by decide) ?_
      refine lv_goto (tgt := 152) hx hb dX5_keys_148 (by decide) ?_
      exact L152 rec55 hr55  x2 x3 x4 s0 x9 x8 1 uv hf H locs ls hG (lv_sub hl [1, 2, 3, 4, 0, 6] rfl)
  have L134 : ∀ (rec55 : Int32 → Int32 → Int64 → Int64 → Int32 → Int32 → MS → Option (Int64 × MS)) (hr55 : ∀ (y2 : Int32) (y3 : Int32) (y4 : Int64) (y6 : Int64) (y8 : Int32) (y9 : Int32) (uv : MS), rec55 y2 y3 y4 y6 y8 y9 uv = some (r', uv') → ∀ (H : Heap) (locs : List Loc) (ls : Array Slot), xG D A s.heap (WM κ a uv) H locs → lv_has ls 12 [(0, .ref (a 0)), (2, .int y2), (3, .int y3), (4, .long y4), (6, .long y6), (8, .int y8), (9, .int y9)] → W p l e ({ frames := 2, cells := 0, slots := 0, locals := 47 } : Room) s m (([.ref (a 0), .int p1, .int p2] : List Value).toArray) below meth c H locs 0 0 (MQ below (xQl D κ r' (WM κ a uv') A) (([.ref (a 0), .int p1, .int p2] : List Value).toArray) s 0 0 A) (F0 m 55 ls [])), ∀ (x2 : Int32) (x3 : Int32) (x4 : Int64) (x6 : Int64) (x8 : Int32) (x9 : Int32) (x10 : Int64) (uv : MS), f_X5_keys_134 rec55 x2 x3 x4 x6 x8 x9 x10 uv = some (r', uv') → ∀ (H : Heap) (locs : List Loc) (ls : Array Slot), xG D A s.heap (WM κ a uv) H locs → lv_has ls 12 [(0, .ref (a 0)), (2, .int x2), (3, .int x3), (4, .long x4), (6, .long x6), (8, .int x8), (9, .int x9), (10, .long x10)] → W p l e ({ frames := 2, cells := 0, slots := 0, locals := 47 } : Room) s m (([.ref (a 0), .int p1, .int p2] : List Value).toArray) below meth c H locs 0 0 (MQ below (xQl D κ r' (WM κ a uv') A) (([.ref (a 0), .int p1, .int p2] : List Value).toArray) s 0 0 A) (F0 m 134 ls []) := by
    intro rec55 hr55 x2 x3 x4 x6 x8 x9 x10 uv hf H locs ls hG hl
    unfold f_X5_keys_134 at hf
    refine lv_lload hx hb dX5_keys_134 (lv_at hl 4 rfl) ?_
    exact L136 rec55 hr55  x2 x3 x4 x8 x9 x10 x6 uv hf H locs ls hG (lv_sub hl [0, 1, 2, 3, 5, 6, 7] rfl)
  have L97 : ∀ (rec55 : Int32 → Int32 → Int64 → Int64 → Int32 → Int32 → MS → Option (Int64 × MS)) (hr55 : ∀ (y2 : Int32) (y3 : Int32) (y4 : Int64) (y6 : Int64) (y8 : Int32) (y9 : Int32) (uv : MS), rec55 y2 y3 y4 y6 y8 y9 uv = some (r', uv') → ∀ (H : Heap) (locs : List Loc) (ls : Array Slot), xG D A s.heap (WM κ a uv) H locs → lv_has ls 12 [(0, .ref (a 0)), (2, .int y2), (3, .int y3), (4, .long y4), (6, .long y6), (8, .int y8), (9, .int y9)] → W p l e ({ frames := 2, cells := 0, slots := 0, locals := 47 } : Room) s m (([.ref (a 0), .int p1, .int p2] : List Value).toArray) below meth c H locs 0 0 (MQ below (xQl D κ r' (WM κ a uv') A) (([.ref (a 0), .int p1, .int p2] : List Value).toArray) s 0 0 A) (F0 m 55 ls [])), ∀ (x2 : Int32) (x3 : Int32) (x4 : Int64) (x6 : Int64) (x8 : Int32) (x9 : Int32) (s0 : Int64) (uv : MS), f_X5_keys_97 rec55 x2 x3 x4 x6 x8 x9 s0 uv = some (r', uv') → ∀ (H : Heap) (locs : List Loc) (ls : Array Slot), xG D A s.heap (WM κ a uv) H locs → lv_has ls 12 [(0, .ref (a 0)), (2, .int x2), (3, .int x3), (4, .long x4), (6, .long x6), (8, .int x8), (9, .int x9)] → W p l e ({ frames := 2, cells := 0, slots := 0, locals := 47 } : Room) s m (([.ref (a 0), .int p1, .int p2] : List Value).toArray) below meth c H locs 0 0 (MQ below (xQl D κ r' (WM κ a uv') A) (([.ref (a 0), .int p1, .int p2] : List Value).toArray) s 0 0 A) (F0 m 97 ls [.long s0]) := by
    intro rec55 hr55 x2 x3 x4 x6 x8 x9 s0 uv hf H locs ls hG hl
    unfold f_X5_keys_97 at hf
    refine lv_lstore (lv' := [(10, .long s0), (0, .ref (a 0)), (2, .int x2), (3, .int x3), (4, .long x4), (6, .long x6), (8, .int x8), (9, .int x9)]) hx hb dX5_keys_97 hl (by decide) rfl (fun ls hl => ?_)
    refine lv_lload hx hb dX5_keys_99 (lv_at hl 4 rfl) ?_
    refine lv_aload_n hx hb dX5_keys_101 rfl (lv_at hl 1 rfl) ?_
    refine x_get (C := RX5) (T := TX5) (N := 27) (ci := 5) hx hb hts iX5 hown hK hG 0 rfl rfl 3 (by decide) k16 (v := .ref (a 3)) rfl dX5_keys_102 ?_
    refine lv_aload_n hx hb dX5_keys_105 rfl (lv_at hl 1 rfl) ?_
    refine x_get (C := RX5) (T := TX5) (N := 27) (ci := 5) hx hb hts iX5 hown hK hG 0 rfl rfl 17 (by decide) k51 (v := .ref (a 14)) rfl dX5_keys_106 ?_
    refine lv_iload hx hb dX5_keys_109 (lv_at hl 7 rfl) ?_
    obtain ⟨v4, ev4, hin, hf⟩ := ck_e hf
    refine x_iald hx hb hK hG 14 rfl ev4 hin dX5_keys_111 ?_
    obtain ⟨v5, ev5, hin, hf⟩ := ck_e hf
    refine x_lald hx hb hK hG 3 rfl ev5 hin dX5_keys_112 ?_
    refine lv_ladd hx hb dX5_keys_113 ?_
    refine lv_topl (fun y6 ey6 => ?_)
    replace hf := bnd_at ey6 hf
    refine lv_lstore (lv' := [(4, .long y6), (10, .long s0), (0, .ref (a 0)), (2, .int x2), (3, .int x3), (6, .long x6), (8, .int x8), (9, .int x9)]) hx hb dX5_keys_114 hl (by decide) rfl (fun ls hl => ?_)
    refine lv_iload hx hb dX5_keys_116 (lv_at hl 7 rfl) ?_
    refine lv_if_le (tgt := 134) hx hb dX5_keys_118 (by decide) (fun c7 => ?_) (fun c7 => ?_)
    · replace hf := if_t c7 hf
      exact L134 rec55 hr55  x2 x3 y6 x6 x8 x9 s0 uv hf H locs ls hG (lv_sub hl [2, 3, 4, 0, 5, 6, 7, 1] rfl)
    · replace hf := if_f c7 hf
      refine lv_lload hx hb dX5_keys_121 (lv_at hl 1 rfl) ?_
      refine lv_lload hx hb dX5_keys_123 (lv_at hl 5 rfl) ?_
      refine W.lcmp hx hb dX5_keys_125 ?_
      refine lv_if_le (tgt := 134) hx hb dX5_keys_126 (by decide) (fun c8 => ?_) (fun c8 => ?_)
      · rw [lg_cmp_le] at c8
        replace hf := if_t c8 hf
        exact L134 rec55 hr55  x2 x3 y6 x6 x8 x9 s0 uv hf H locs ls hG (lv_sub hl [2, 3, 4, 0, 5, 6, 7, 1] rfl)
      · rw [lg_cmp_le] at c8
        replace hf := if_f c8 hf
        refine lv_lload hx hb dX5_keys_129 (lv_at hl 1 rfl) ?_
        refine lv_goto (tgt := 136) hx hb dX5_keys_131 (by decide) ?_
        exact L136 rec55 hr55  x2 x3 y6 x8 x9 s0 s0 uv hf H locs ls hG (lv_sub hl [2, 3, 4, 0, 6, 7, 1] rfl)
  have L55 : ∀ (n : Nat), ∀ (x2 : Int32) (x3 : Int32) (x4 : Int64) (x6 : Int64) (x8 : Int32) (x9 : Int32) (uv : MS), f_X5_keys_55 n x2 x3 x4 x6 x8 x9 uv = some (r', uv') → ∀ (H : Heap) (locs : List Loc) (ls : Array Slot), xG D A s.heap (WM κ a uv) H locs → lv_has ls 12 [(0, .ref (a 0)), (2, .int x2), (3, .int x3), (4, .long x4), (6, .long x6), (8, .int x8), (9, .int x9)] → W p l e ({ frames := 2, cells := 0, slots := 0, locals := 47 } : Room) s m (([.ref (a 0), .int p1, .int p2] : List Value).toArray) below meth c H locs 0 0 (MQ below (xQl D κ r' (WM κ a uv') A) (([.ref (a 0), .int p1, .int p2] : List Value).toArray) s 0 0 A) (F0 m 55 ls []) := by
    intro  n
    induction n with
    | zero => intro x2 x3 x4 x6 x8 x9 uv hf; cases hf
    | succ n ih =>
      intro x2 x3 x4 x6 x8 x9 uv hf H locs ls hG hl
      replace hf : f_X5_keys_B55 (f_X5_keys_55 n) x2 x3 x4 x6 x8 x9 uv = some (r', uv') := hf
      unfold f_X5_keys_B55 at hf
      refine lv_iload hx hb dX5_keys_55 (lv_at hl 6 rfl) ?_
      refine lv_iload_n hx hb dX5_keys_57 rfl (lv_at hl 2 rfl) ?_
      refine lv_icmp_ge (tgt := 161) hx hb dX5_keys_58 (by decide) (fun c9 => ?_) (fun c9 => ?_)
      · replace hf := if_t c9 hf
        refine lv_iload_n hx hb dX5_keys_161 rfl (lv_at hl 1 rfl) ?_
        refine lv_if_ne (tgt := 170) hx hb dX5_keys_162 (by decide) (fun c10 => ?_) (fun c10 => ?_)
        · replace hf := if_f c10 hf
          refine lv_iload_n hx hb dX5_keys_170 rfl (lv_at hl 1 rfl) ?_
          refine lv_iconst (v := 1) hx hb dX5_keys_171 (by decide) ?_
          refine lv_icmp_ne (tgt := 201) hx hb dX5_keys_172 (by decide) (fun c11 => ?_) (fun c11 => ?_)
          · replace hf := if_f c11 hf
            refine lv_iload_n hx hb dX5_keys_201 rfl (lv_at hl 1 rfl) ?_
            refine lv_iconst (v := 2) hx hb dX5_keys_202 (by decide) ?_
            refine lv_icmp_ne (tgt := 211) hx hb dX5_keys_203 (by decide) (fun c12 => ?_) (fun c12 => ?_)
            · replace hf := if_f c12 hf
              refine lv_iload hx hb dX5_keys_211 (lv_at hl 5 rfl) ?_
              refine lv_i2l hx hb dX5_keys_213 rfl ?_
              have hz := Option.some.inj hf
              have z0 := (Prod.mk.inj hz).1
              replace hz := (Prod.mk.inj hz).2
              have z1 := hz
              exact x_lret hx hb hr hlk hK hG z0 (by rw [z1]) dX5_keys_214
            · replace hf := if_t c12 hf
              refine lv_lload hx hb dX5_keys_206 (lv_at hl 4 rfl) ?_
              refine lv_goto (tgt := 214) hx hb dX5_keys_208 (by decide) ?_
              have hz := Option.some.inj hf
              have z0 := (Prod.mk.inj hz).1
              replace hz := (Prod.mk.inj hz).2
              have z1 := hz
              exact x_lret hx hb hr hlk hK hG z0 (by rw [z1]) dX5_keys_214
          · replace hf := if_t c11 hf
            refine lv_iload_n hx hb dX5_keys_175 rfl (lv_at hl 2 rfl) ?_
            refine lv_if_ne (tgt := 185) hx hb dX5_keys_176 (by decide) (fun c13 => ?_) (fun c13 => ?_)
            · replace hf := if_f c13 hf
              refine lv_aload_n hx hb dX5_keys_185 rfl (lv_at hl 0 rfl) ?_
              refine x_get (C := RX5) (T := TX5) (N := 27) (ci := 5) hx hb hts iX5 hown hK hG 0 rfl rfl 3 (by decide) k16 (v := .ref (a 3)) rfl dX5_keys_186 ?_
              refine lv_aload_n hx hb dX5_keys_189 rfl (lv_at hl 0 rfl) ?_
              refine x_get (C := RX5) (T := TX5) (N := 27) (ci := 5) hx hb hts iX5 hown hK hG 0 rfl rfl 17 (by decide) k51 (v := .ref (a 14)) rfl dX5_keys_190 ?_
              refine lv_iload_n hx hb dX5_keys_193 rfl (lv_at hl 2 rfl) ?_
              refine lv_iconst (v := 1) hx hb dX5_keys_194 (by decide) ?_
              refine lv_isub hx hb dX5_keys_195 ?_
              obtain ⟨v14, ev14, hin, hf⟩ := ck_e hf
              refine x_iald hx hb hK hG 14 rfl ev14 hin dX5_keys_196 ?_
              obtain ⟨v15, ev15, hin, hf⟩ := ck_e hf
              refine x_lald hx hb hK hG 3 rfl ev15 hin dX5_keys_197 ?_
              refine lv_goto (tgt := 214) hx hb dX5_keys_198 (by decide) ?_
              have hz := Option.some.inj hf
              have z0 := (Prod.mk.inj hz).1
              replace hz := (Prod.mk.inj hz).2
              have z1 := hz
              exact x_lret hx hb hr hlk hK hG z0 (by rw [z1]) dX5_keys_214
            · replace hf := if_t c13 hf
              refine lv_ldc2 (v := (-9223372036854775808)) hx hb hown k234 dX5_keys_179 ?_
              refine lv_goto (tgt := 214) hx hb dX5_keys_182 (by decide) ?_
              have hz := Option.some.inj hf
              have z0 := (Prod.mk.inj hz).1
              replace hz := (Prod.mk.inj hz).2
              have z1 := hz
              exact x_lret hx hb hr hlk hK hG z0 (by rw [z1]) dX5_keys_214
        · replace hf := if_t c10 hf
          refine lv_lload hx hb dX5_keys_165 (lv_at hl 3 rfl) ?_
          refine lv_goto (tgt := 214) hx hb dX5_keys_167 (by decide) ?_
          have hz := Option.some.inj hf
          have z0 := (Prod.mk.inj hz).1
          replace hz := (Prod.mk.inj hz).2
          have z1 := hz
          exact x_lret hx hb hr hlk hK hG z0 (by rw [z1]) dX5_keys_214
      · replace hf := if_f c9 hf
        refine lv_iload hx hb dX5_keys_61 (lv_at hl 6 rfl) ?_
        refine lv_if_ne (tgt := 70) hx hb dX5_keys_63 (by decide) (fun c16 => ?_) (fun c16 => ?_)
        · replace hf := if_f c16 hf
          refine lv_aload_n hx hb dX5_keys_70 rfl (lv_at hl 0 rfl) ?_
          refine x_get (C := RX5) (T := TX5) (N := 27) (ci := 5) hx hb hts iX5 hown hK hG 0 rfl rfl 3 (by decide) k16 (v := .ref (a 3)) rfl dX5_keys_71 ?_
          refine lv_aload_n hx hb dX5_keys_74 rfl (lv_at hl 0 rfl) ?_
          refine x_get (C := RX5) (T := TX5) (N := 27) (ci := 5) hx hb hts iX5 hown hK hG 0 rfl rfl 17 (by decide) k51 (v := .ref (a 14)) rfl dX5_keys_75 ?_
          refine lv_iload hx hb dX5_keys_78 (lv_at hl 6 rfl) ?_
          obtain ⟨v17, ev17, hin, hf⟩ := ck_e hf
          refine x_iald hx hb hK hG 14 rfl ev17 hin dX5_keys_80 ?_
          obtain ⟨v18, ev18, hin, hf⟩ := ck_e hf
          refine x_lald hx hb hK hG 3 rfl ev18 hin dX5_keys_81 ?_
          refine lv_aload_n hx hb dX5_keys_82 rfl (lv_at hl 0 rfl) ?_
          refine x_get (C := RX5) (T := TX5) (N := 27) (ci := 5) hx hb hts iX5 hown hK hG 0 rfl rfl 3 (by decide) k16 (v := .ref (a 3)) rfl dX5_keys_83 ?_
          refine lv_aload_n hx hb dX5_keys_86 rfl (lv_at hl 0 rfl) ?_
          refine x_get (C := RX5) (T := TX5) (N := 27) (ci := 5) hx hb hts iX5 hown hK hG 0 rfl rfl 17 (by decide) k51 (v := .ref (a 14)) rfl dX5_keys_87 ?_
          refine lv_iload hx hb dX5_keys_90 (lv_at hl 6 rfl) ?_
          refine lv_iconst (v := 1) hx hb dX5_keys_92 (by decide) ?_
          refine lv_isub hx hb dX5_keys_93 ?_
          obtain ⟨v19, ev19, hin, hf⟩ := ck_e hf
          refine x_iald hx hb hK hG 14 rfl ev19 hin dX5_keys_94 ?_
          obtain ⟨v20, ev20, hin, hf⟩ := ck_e hf
          refine x_lald hx hb hK hG 3 rfl ev20 hin dX5_keys_95 ?_
          refine lv_lsub hx hb dX5_keys_96 ?_
          exact L97 (f_X5_keys_55 n) ih  x2 x3 x4 x6 x8 x9 (v18 - v20) uv hf H locs ls hG (lv_sub hl [0, 1, 2, 3, 4, 5, 6] rfl)
        · replace hf := if_t c16 hf
          refine lv_lconst (v := 1) hx hb dX5_keys_66 (by decide) ?_
          refine lv_goto (tgt := 97) hx hb dX5_keys_67 (by decide) ?_
          exact L97 (f_X5_keys_55 n) ih  x2 x3 x4 x6 x8 x9 1 uv hf H locs ls hG (lv_sub hl [0, 1, 2, 3, 4, 5, 6] rfl)
  unfold f_X5_keys at hf
  refine lv_aload_n hx hb dX5_keys_0 rfl (lv_at hl 0 rfl) ?_
  refine lv_iconst (v := 0) hx hb dX5_keys_1 (by decide) ?_
  obtain ⟨uv21, euv21, hf⟩ := bnd_e hf
  refine x_put (C := RX5) (T := TX5) (N := 27) (ci := 5) hx hb hts iX5 tyX5 tyX5_ok nmX5 hown hK hG 0 rfl rfl 0 (by decide) k63 rfl (ty := .int) (v := .int 0) rfl rfl rfl (Nat.le_of_ble_eq_true rfl) (w1 := WM κ a uv21) (by rw [euv21]; rfl) dX5_keys_2 (fun H locs hG => ?_)
  refine lv_iload_n hx hb dX5_keys_5 rfl (lv_at hl 1 rfl) ?_
  obtain ⟨r22, q23, hf⟩ := cl1_e hf
  refine x_callSi (pre := ([] : va_W)) (wc := ([] : va_W)) (wc1 := ([] : va_W)) (post := WM κ a uv21) (As := [.int p1]) (rest := []) (w1 := WM κ a uv21) ⟨hx, hb, hml, hown, hts⟩ hK hG hA (by simp only [List.append_assoc, List.nil_append, List.append_nil]) (by simp only [List.append_assoc, List.nil_append, List.append_nil]) (c_X5_isDesk l D κ a H.size p1 r22 q23) (va_cwS 1 hts gX5_keys_X5_isDesk rfl rfl rfl (by decide +kernel) ⟨Nat.le_of_ble_eq_true rfl, Nat.le_of_ble_eq_true rfl⟩) rfl hl.1 rfl (Nat.le_of_ble_eq_true rfl) dX5_keys_6 ⟨Nat.zero_le _, Nat.zero_le _⟩ (fun H locs hG => ?_)
  refine lv_if_eq (tgt := 24) hx hb dX5_keys_9 (by decide) (fun c24 => ?_) (fun c24 => ?_)
  · replace hf := if_t c24 hf
    refine lv_ldc2 (v := (-9223372036854775808)) hx hb hown k234 dX5_keys_24 ?_
    have hz := Option.some.inj hf
    have z0 := (Prod.mk.inj hz).1
    replace hz := (Prod.mk.inj hz).2
    have z1 := hz
    exact x_lret hx hb hr hlk hK hG z0 (by rw [z1]) dX5_keys_27
  · replace hf := if_f c24 hf
    refine lv_iload_n hx hb dX5_keys_12 rfl (lv_at hl 2 rfl) ?_
    refine lv_i2l hx hb dX5_keys_13 rfl ?_
    refine lv_lconst (v := 0) hx hb dX5_keys_14 (by decide) ?_
    refine lv_ldc2 (v := 3) hx hb hown k230 dX5_keys_15 ?_
    obtain ⟨r25, q26, hf⟩ := cl1_e hf
    refine x_callSi (pre := ([] : va_W)) (wc := ([] : va_W)) (wc1 := ([] : va_W)) (post := WM κ a uv21) (As := [.long (p2.toInt64), .long 0, .long 3]) (rest := []) (w1 := WM κ a uv21) ⟨hx, hb, hml, hown, hts⟩ hK hG hA (by simp only [List.append_assoc, List.nil_append, List.append_nil]) (by simp only [List.append_assoc, List.nil_append, List.append_nil]) (c_X5_in l D κ a H.size (p2.toInt64) 0 3 r25 q26) (va_cwS 3 hts gX5_keys_X5_in rfl rfl rfl (by decide +kernel) ⟨Nat.le_of_ble_eq_true rfl, Nat.le_of_ble_eq_true rfl⟩) rfl hl.1 rfl (Nat.le_of_ble_eq_true rfl) dX5_keys_18 ⟨Nat.zero_le _, Nat.zero_le _⟩ (fun H locs hG => ?_)
    refine lv_if_ne (tgt := 28) hx hb dX5_keys_21 (by decide) (fun c27 => ?_) (fun c27 => ?_)
    · replace hf := if_f c27 hf
      refine lv_aload_n hx hb dX5_keys_28 rfl (lv_at hl 0 rfl) ?_
      refine lv_iload_n hx hb dX5_keys_29 rfl (lv_at hl 1 rfl) ?_
      refine lv_iconst (v := 0) hx hb dX5_keys_30 (by decide) ?_
      obtain ⟨uv28, q29, hf⟩ := cl1_e hf
      refine x_callVv (pre := ([] : va_W)) (wc := WM κ a uv21) (wc1 := WM κ a uv28) (post := ([] : va_W)) (As := [.int p1, .int 0]) (rest := []) (w1 := WM κ a uv28) ⟨hx, hb, hml, hown, hts⟩ hK hG hA (by simp only [List.append_assoc, List.nil_append, List.append_nil]) (by simp only [List.append_assoc, List.nil_append, List.append_nil]) (c_X5_layRising l D κ a H.size p1 0 uv21 uv28 q29) (cwV 2 hts gX5_keys_X5_layRising rfl rfl rfl (by decide +kernel) ⟨Nat.le_of_ble_eq_true rfl, Nat.le_of_ble_eq_true rfl⟩) 0 5 rfl rfl rfl rfl hl.1 rfl (Nat.le_of_ble_eq_true rfl) dX5_keys_31 ⟨Nat.zero_le _, Nat.zero_le _⟩ (fun H locs hG => ?_)
      refine lv_aload_n hx hb dX5_keys_34 rfl (lv_at hl 0 rfl) ?_
      refine x_get (C := RX5) (T := TX5) (N := 27) (ci := 5) hx hb hts iX5 hown hK hG 0 rfl rfl 18 (by decide) k54 (v := .ref (a 15)) rfl dX5_keys_35 ?_
      refine lv_iconst (v := 0) hx hb dX5_keys_38 (by decide) ?_
      obtain ⟨v30, ev30, hin, hf⟩ := ck_e hf
      refine x_iald hx hb hK hG 15 rfl ev30 hin dX5_keys_39 ?_
      refine lv_istore_n (lv' := [(3, .int v30), (0, .ref (a 0)), (1, .int p1), (2, .int p2)]) hx hb dX5_keys_40 rfl hl (by decide) rfl (fun ls hl => ?_)
      refine lv_lconst (v := 0) hx hb dX5_keys_41 (by decide) ?_
      refine lv_lstore (lv' := [(4, .long 0), (3, .int v30), (0, .ref (a 0)), (1, .int p1), (2, .int p2)]) hx hb dX5_keys_42 hl (by decide) rfl (fun ls hl => ?_)
      refine lv_ldc2 (v := (-9223372036854775808)) hx hb hown k234 dX5_keys_44 ?_
      refine lv_lstore (lv' := [(6, .long ((-9223372036854775808))), (4, .long 0), (3, .int v30), (0, .ref (a 0)), (1, .int p1), (2, .int p2)]) hx hb dX5_keys_47 hl (by decide) rfl (fun ls hl => ?_)
      refine lv_iconst (v := 0) hx hb dX5_keys_49 (by decide) ?_
      refine lv_istore (lv' := [(8, .int 0), (6, .long ((-9223372036854775808))), (4, .long 0), (3, .int v30), (0, .ref (a 0)), (1, .int p1), (2, .int p2)]) hx hb dX5_keys_50 hl (by decide) rfl (fun ls hl => ?_)
      refine lv_iconst (v := 0) hx hb dX5_keys_52 (by decide) ?_
      refine lv_istore (lv' := [(9, .int 0), (8, .int 0), (6, .long ((-9223372036854775808))), (4, .long 0), (3, .int v30), (0, .ref (a 0)), (1, .int p1), (2, .int p2)]) hx hb dX5_keys_53 hl (by decide) rfl (fun ls hl => ?_)
      exact L55  FU p2 v30 0 ((-9223372036854775808)) 0 0 uv28 hf H locs ls hG (lv_sub hl [5, 7, 4, 3, 2, 1, 0] rfl)
    · replace hf := if_t c27 hf
      refine lv_ldc2 (v := (-9223372036854775808)) hx hb hown k234 dX5_keys_24 ?_
      have hz := Option.some.inj hf
      have z0 := (Prod.mk.inj hz).1
      replace hz := (Prod.mk.inj hz).2
      have z1 := hz
      exact x_lret hx hb hr hlk hK hG z0 (by rw [z1]) dX5_keys_27
set_option maxRecDepth 100000 in
set_option maxHeartbeats 4000000 in
theorem c_X5_sumOf (l : Launch) (D : va_G) (κ : Nat → ClassId) (a : Nat → Nat) (sz : Nat) (p1 : Int32) (uv : MS) (r' : Int64)  (hf : f_X5_sumOf p1 uv = some (r')) : Met l yX5_sumOf wsX5_sumOf ({ frames := 0, cells := 0, slots := 0, locals := 0 } : Room) (xPc D κ [.ref (a 0), .int p1] (WM κ a uv) sz) (xQl D κ r' (WM κ a uv) (va_A (WM κ a uv) sz)) 0 0 (va_A (WM κ a uv) sz) := by
  refine x_ofW (cc := cX5_sumOf) (maxL := 2) (ret := (some .long)) (Qf := fun A => xQl D κ r' (WM κ a uv) A) (by decide) rfl (Nat.le_of_ble_eq_true rfl) ?_
  intro p e s m below meth c hx hb hr hlk hml hown hts hK A hA H locs hG ls hl
  have hown : s.vm.findClass RX5 = some m.cls := hown
  have hl : lv_has ls 2 [(0, .ref (a 0)), (1, .int p1)] := hl
  have iX5 : ∀ w ∈ u_ws RX5 TX5 27, w ∈ wsX5_sumOf := fun _ h => List.mem_cons_of_mem _ (List.mem_append_right _ h)
  have k16 := hts (.fieldLink RX5 16 "SpineDesksModel" "keys" "[J") (List.mem_of_getElem? (i := 1) rfl)
  have k51 := hts (.fieldLink RX5 51 "SpineDesksModel" "rising" "[I") (List.mem_of_getElem? (i := 2) rfl)
  have k57 := hts (.fieldLink RX5 57 "SpineDesksModel" "goneBy" "[I") (List.mem_of_getElem? (i := 3) rfl)
  unfold f_X5_sumOf at hf
  refine lv_aload_n hx hb dX5_sumOf_0 rfl (lv_at hl 0 rfl) ?_
  refine x_get (C := RX5) (T := TX5) (N := 27) (ci := 5) hx hb hts iX5 hown hK hG 0 rfl rfl 3 (by decide) k16 (v := .ref (a 3)) rfl dX5_sumOf_1 ?_
  refine lv_aload_n hx hb dX5_sumOf_4 rfl (lv_at hl 0 rfl) ?_
  refine x_get (C := RX5) (T := TX5) (N := 27) (ci := 5) hx hb hts iX5 hown hK hG 0 rfl rfl 17 (by decide) k51 (v := .ref (a 14)) rfl dX5_sumOf_5 ?_
  refine lv_iload_n hx hb dX5_sumOf_8 rfl (lv_at hl 1 rfl) ?_
  obtain ⟨v1, ev1, hin, hf⟩ := ck_e hf
  refine x_iald hx hb hK hG 14 rfl ev1 hin dX5_sumOf_9 ?_
  obtain ⟨v2, ev2, hin, hf⟩ := ck_e hf
  refine x_lald hx hb hK hG 3 rfl ev2 hin dX5_sumOf_10 ?_
  refine lv_aload_n hx hb dX5_sumOf_11 rfl (lv_at hl 0 rfl) ?_
  refine x_get (C := RX5) (T := TX5) (N := 27) (ci := 5) hx hb hts iX5 hown hK hG 0 rfl rfl 3 (by decide) k16 (v := .ref (a 3)) rfl dX5_sumOf_12 ?_
  refine lv_aload_n hx hb dX5_sumOf_15 rfl (lv_at hl 0 rfl) ?_
  refine x_get (C := RX5) (T := TX5) (N := 27) (ci := 5) hx hb hts iX5 hown hK hG 0 rfl rfl 17 (by decide) k51 (v := .ref (a 14)) rfl dX5_sumOf_16 ?_
  refine lv_sipush (v := 300) hx hb dX5_sumOf_19 (by decide) ?_
  refine lv_aload_n hx hb dX5_sumOf_22 rfl (lv_at hl 0 rfl) ?_
  refine x_get (C := RX5) (T := TX5) (N := 27) (ci := 5) hx hb hts iX5 hown hK hG 0 rfl rfl 19 (by decide) k57 (v := .ref (a 16)) rfl dX5_sumOf_23 ?_
  refine lv_iload_n hx hb dX5_sumOf_26 rfl (lv_at hl 1 rfl) ?_
  obtain ⟨v3, ev3, hin, hf⟩ := ck_e hf
  refine x_iald hx hb hK hG 16 rfl ev3 hin dX5_sumOf_27 ?_
  refine lv_iadd hx hb dX5_sumOf_28 ?_
  obtain ⟨v4, ev4, hin, hf⟩ := ck_e hf
  refine x_iald hx hb hK hG 14 rfl ev4 hin dX5_sumOf_29 ?_
  obtain ⟨v5, ev5, hin, hf⟩ := ck_e hf
  refine x_lald hx hb hK hG 3 rfl ev5 hin dX5_sumOf_30 ?_
  refine lv_ladd hx hb dX5_sumOf_31 ?_
  have z0 := Option.some.inj hf
  exact x_lret hx hb hr hlk hK hG z0 rfl dX5_sumOf_32
set_option maxRecDepth 100000 in
set_option maxHeartbeats 4000000 in
theorem c_X5_above (l : Launch) (D : va_G) (κ : Nat → ClassId) (a : Nat → Nat) (sz : Nat) (p1 : Int32) (p2 : Int32) (uv : MS) (r' : Int32) (uv' : MS) (hf : f_X5_above p1 p2 uv = some (r', uv')) : Met l yX5_above wsX5_above ({ frames := 3, cells := 0, slots := 0, locals := 67 } : Room) (xPc D κ [.ref (a 0), .int p1, .int p2] (WM κ a uv) sz) (xQi D κ r' (WM κ a uv') (va_A (WM κ a uv) sz)) 0 0 (va_A (WM κ a uv) sz) := by
  refine x_ofW (cc := cX5_above) (maxL := 5) (ret := (some .int)) (Qf := fun A => xQi D κ r' (WM κ a uv') A) (by decide) rfl (Nat.le_of_ble_eq_true rfl) ?_
  intro p e s m below meth c hx hb hr hlk hml hown hts hK A hA H locs hG ls hl
  have hown : s.vm.findClass RX5 = some m.cls := hown
  have hl : lv_has ls 5 [(0, .ref (a 0)), (1, .int p1), (2, .int p2)] := hl
  have iX5 : ∀ w ∈ u_ws RX5 TX5 27, w ∈ wsX5_above := fun _ h => List.mem_cons_of_mem _ (List.mem_append_right _ h)
  have k13 := hts (.fieldLink RX5 13 "SpineDesksModel" "row" "[I") (List.mem_of_getElem? (i := 1) rfl)
  have L41 : ∀ (n : Nat), ∀ (x2 : Int32) (x3 : Int32) (x4 : Int32) (uv : MS), f_X5_above_41 n x2 x3 x4 uv = some (r', uv') → ∀ (H : Heap) (locs : List Loc) (ls : Array Slot), xG D A s.heap (WM κ a uv) H locs → lv_has ls 5 [(0, .ref (a 0)), (2, .int x2), (3, .int x3), (4, .int x4)] → W p l e ({ frames := 3, cells := 0, slots := 0, locals := 67 } : Room) s m (([.ref (a 0), .int p1, .int p2] : List Value).toArray) below meth c H locs 0 0 (MQ below (xQi D κ r' (WM κ a uv') A) (([.ref (a 0), .int p1, .int p2] : List Value).toArray) s 0 0 A) (F0 m 41 ls []) := by
    intro  n
    induction n with
    | zero => intro x2 x3 x4 uv hf; cases hf
    | succ n ih =>
      intro x2 x3 x4 uv hf H locs ls hG hl
      replace hf : f_X5_above_B41 (f_X5_above_41 n) x2 x3 x4 uv = some (r', uv') := hf
      unfold f_X5_above_B41 at hf
      refine lv_iload hx hb dX5_above_41 (lv_at hl 3 rfl) ?_
      refine lv_iload_n hx hb dX5_above_43 rfl (lv_at hl 1 rfl) ?_
      refine lv_icmp_ge (tgt := 70) hx hb dX5_above_44 (by decide) (fun c1 => ?_) (fun c1 => ?_)
      · replace hf := if_t c1 hf
        refine lv_iload_n hx hb dX5_above_70 rfl (lv_at hl 2 rfl) ?_
        have hz := Option.some.inj hf
        have z0 := (Prod.mk.inj hz).1
        replace hz := (Prod.mk.inj hz).2
        have z1 := hz
        exact x_iret hx hb hr hlk hK hG z0 (by rw [z1]) dX5_above_71
      · replace hf := if_f c1 hf
        refine lv_iload_n hx hb dX5_above_47 rfl (lv_at hl 2 rfl) ?_
        refine lv_iconst (v := (-1)) hx hb dX5_above_48 (by decide) ?_
        refine lv_icmp_eq (tgt := 70) hx hb dX5_above_49 (by decide) (fun c2 => ?_) (fun c2 => ?_)
        · replace hf := if_t c2 hf
          refine lv_iload_n hx hb dX5_above_70 rfl (lv_at hl 2 rfl) ?_
          have hz := Option.some.inj hf
          have z0 := (Prod.mk.inj hz).1
          replace hz := (Prod.mk.inj hz).2
          have z1 := hz
          exact x_iret hx hb hr hlk hK hG z0 (by rw [z1]) dX5_above_71
        · replace hf := if_f c2 hf
          refine lv_aload_n hx hb dX5_above_52 rfl (lv_at hl 0 rfl) ?_
          refine x_get (C := RX5) (T := TX5) (N := 27) (ci := 5) hx hb hts iX5 hown hK hG 0 rfl rfl 2 (by decide) k13 (v := .ref (a 2)) rfl dX5_above_53 ?_
          refine lv_iload_n hx hb dX5_above_56 rfl (lv_at hl 2 rfl) ?_
          obtain ⟨r3, q4, hf⟩ := cl1_e hf
          refine x_callSi (pre := ([] : va_W)) (wc := ([] : va_W)) (wc1 := ([] : va_W)) (post := WM κ a uv) (As := [.int x3]) (rest := [.ref (a 2)]) (w1 := WM κ a uv) ⟨hx, hb, hml, hown, hts⟩ hK hG hA (by simp only [List.append_assoc, List.nil_append, List.append_nil]) (by simp only [List.append_assoc, List.nil_append, List.append_nil]) (c_X5_at l D κ a H.size x3 r3 q4) (va_cwS 1 hts gX5_above_X5_at rfl rfl rfl (by decide +kernel) ⟨Nat.le_of_ble_eq_true rfl, Nat.le_of_ble_eq_true rfl⟩) rfl hl.1 rfl (Nat.le_of_ble_eq_true rfl) dX5_above_57 ⟨Nat.zero_le _, Nat.zero_le _⟩ (fun H locs hG => ?_)
          refine lv_iconst (v := 5) hx hb dX5_above_60 (by decide) ?_
          refine lv_iadd hx hb dX5_above_61 ?_
          obtain ⟨v5, ev5, hin, hf⟩ := ck_e hf
          refine x_iald hx hb hK hG 2 rfl ev5 hin dX5_above_62 ?_
          refine lv_istore_n (lv' := [(3, .int v5), (0, .ref (a 0)), (2, .int x2), (4, .int x4)]) hx hb dX5_above_63 rfl hl (by decide) rfl (fun ls hl => ?_)
          obtain ⟨y6, ey6, hf⟩ := bnd_e hf
          refine lv_iinc (v := y6) (lv' := [(4, .int y6), (3, .int v5), (0, .ref (a 0)), (2, .int x2)]) hx hb dX5_above_64 hl (k := 3) rfl (by rw [ey6]; rfl) (by decide) rfl (fun ls hl => ?_)
          refine lv_goto (tgt := 41) hx hb dX5_above_67 (by decide) ?_
          exact ih x2 v5 y6 uv hf H locs ls hG (lv_sub hl [2, 3, 1, 0] rfl)
  have L12 : ∀ (x1 : Int32) (uv : MS), f_X5_above_12 x1 uv = some (r', uv') → ∀ (H : Heap) (locs : List Loc) (ls : Array Slot), xG D A s.heap (WM κ a uv) H locs → lv_has ls 5 [(0, .ref (a 0)), (1, .int x1)] → W p l e ({ frames := 3, cells := 0, slots := 0, locals := 67 } : Room) s m (([.ref (a 0), .int p1, .int p2] : List Value).toArray) below meth c H locs 0 0 (MQ below (xQi D κ r' (WM κ a uv') A) (([.ref (a 0), .int p1, .int p2] : List Value).toArray) s 0 0 A) (F0 m 12 ls []) := by
    intro  x1 uv hf H locs ls hG hl
    unfold f_X5_above_12 at hf
    refine lv_aload_n hx hb dX5_above_12 rfl (lv_at hl 0 rfl) ?_
    refine lv_iload_n hx hb dX5_above_13 rfl (lv_at hl 1 rfl) ?_
    obtain ⟨r7, q8, hf⟩ := cl1_e hf
    refine x_callVi (pre := ([] : va_W)) (wc := WM κ a uv) (wc1 := WM κ a uv) (post := ([] : va_W)) (As := [.int x1]) (rest := []) (w1 := WM κ a uv) ⟨hx, hb, hml, hown, hts⟩ hK hG hA (by simp only [List.append_assoc, List.nil_append, List.append_nil]) (by simp only [List.append_assoc, List.nil_append, List.append_nil]) (c_X5_isItem l D κ a H.size x1 uv r7 q8) (cwV 1 hts gX5_above_X5_isItem rfl rfl rfl (by decide +kernel) ⟨Nat.le_of_ble_eq_true rfl, Nat.le_of_ble_eq_true rfl⟩) 0 5 rfl rfl rfl rfl hl.1 rfl (Nat.le_of_ble_eq_true rfl) dX5_above_14 ⟨Nat.zero_le _, Nat.zero_le _⟩ (fun H locs hG => ?_)
    refine lv_if_eq (tgt := 24) hx hb dX5_above_17 (by decide) (fun c9 => ?_) (fun c9 => ?_)
    · replace hf := if_t c9 hf
      refine lv_iconst (v := 0) hx hb dX5_above_24 (by decide) ?_
      have hz := Option.some.inj hf
      have z0 := (Prod.mk.inj hz).1
      replace hz := (Prod.mk.inj hz).2
      have z1 := hz
      exact x_iret hx hb hr hlk hK hG z0 (by rw [z1]) dX5_above_25
    · replace hf := if_f c9 hf
      refine lv_iconst (v := (-1)) hx hb dX5_above_20 (by decide) ?_
      refine lv_goto (tgt := 25) hx hb dX5_above_21 (by decide) ?_
      have hz := Option.some.inj hf
      have z0 := (Prod.mk.inj hz).1
      replace hz := (Prod.mk.inj hz).2
      have z1 := hz
      exact x_iret hx hb hr hlk hK hG z0 (by rw [z1]) dX5_above_25
  unfold f_X5_above at hf
  refine lv_aload_n hx hb dX5_above_0 rfl (lv_at hl 0 rfl) ?_
  refine lv_iload_n hx hb dX5_above_1 rfl (lv_at hl 1 rfl) ?_
  obtain ⟨r10, uv11, q12, hf⟩ := cl2_e hf
  refine x_callVi (pre := ([] : va_W)) (wc := WM κ a uv) (wc1 := WM κ a uv11) (post := ([] : va_W)) (As := [.int p1]) (rest := []) (w1 := WM κ a uv11) ⟨hx, hb, hml, hown, hts⟩ hK hG hA (by simp only [List.append_assoc, List.nil_append, List.append_nil]) (by simp only [List.append_assoc, List.nil_append, List.append_nil]) (c_X5_isThere l D κ a H.size p1 uv r10 uv11 q12) (cwV 1 hts gX5_above_X5_isThere rfl rfl rfl (by decide +kernel) ⟨Nat.le_of_ble_eq_true rfl, Nat.le_of_ble_eq_true rfl⟩) 0 5 rfl rfl rfl rfl hl.1 rfl (Nat.le_of_ble_eq_true rfl) dX5_above_2 ⟨Nat.zero_le _, Nat.zero_le _⟩ (fun H locs hG => ?_)
  refine lv_if_eq (tgt := 12) hx hb dX5_above_5 (by decide) (fun c13 => ?_) (fun c13 => ?_)
  · replace hf := if_t c13 hf
    exact L12   p1 uv11 hf H locs ls hG (lv_sub hl [0, 1] rfl)
  · replace hf := if_f c13 hf
    refine lv_iload_n hx hb dX5_above_8 rfl (lv_at hl 2 rfl) ?_
    refine lv_if_ge (tgt := 26) hx hb dX5_above_9 (by decide) (fun c14 => ?_) (fun c14 => ?_)
    · replace hf := if_t c14 hf
      refine lv_aload_n hx hb dX5_above_26 rfl (lv_at hl 0 rfl) ?_
      refine x_get (C := RX5) (T := TX5) (N := 27) (ci := 5) hx hb hts iX5 hown hK hG 0 rfl rfl 2 (by decide) k13 (v := .ref (a 2)) rfl dX5_above_27 ?_
      refine lv_iload_n hx hb dX5_above_30 rfl (lv_at hl 1 rfl) ?_
      obtain ⟨r15, q16, hf⟩ := cl1_e hf
      refine x_callSi (pre := ([] : va_W)) (wc := ([] : va_W)) (wc1 := ([] : va_W)) (post := WM κ a uv11) (As := [.int p1]) (rest := [.ref (a 2)]) (w1 := WM κ a uv11) ⟨hx, hb, hml, hown, hts⟩ hK hG hA (by simp only [List.append_assoc, List.nil_append, List.append_nil]) (by simp only [List.append_assoc, List.nil_append, List.append_nil]) (c_X5_at l D κ a H.size p1 r15 q16) (va_cwS 1 hts gX5_above_X5_at rfl rfl rfl (by decide +kernel) ⟨Nat.le_of_ble_eq_true rfl, Nat.le_of_ble_eq_true rfl⟩) rfl hl.1 rfl (Nat.le_of_ble_eq_true rfl) dX5_above_31 ⟨Nat.zero_le _, Nat.zero_le _⟩ (fun H locs hG => ?_)
      refine lv_iconst (v := 5) hx hb dX5_above_34 (by decide) ?_
      refine lv_iadd hx hb dX5_above_35 ?_
      obtain ⟨v17, ev17, hin, hf⟩ := ck_e hf
      refine x_iald hx hb hK hG 2 rfl ev17 hin dX5_above_36 ?_
      refine lv_istore_n (lv' := [(3, .int v17), (0, .ref (a 0)), (1, .int p1), (2, .int p2)]) hx hb dX5_above_37 rfl hl (by decide) rfl (fun ls hl => ?_)
      refine lv_iconst (v := 0) hx hb dX5_above_38 (by decide) ?_
      refine lv_istore (lv' := [(4, .int 0), (3, .int v17), (0, .ref (a 0)), (1, .int p1), (2, .int p2)]) hx hb dX5_above_39 hl (by decide) rfl (fun ls hl => ?_)
      exact L41  FU p2 v17 0 uv11 hf H locs ls hG (lv_sub hl [2, 4, 1, 0] rfl)
    · replace hf := if_f c14 hf
      exact L12   p1 uv11 hf H locs ls hG (lv_sub hl [0, 1] rfl)
set_option maxRecDepth 100000 in
set_option maxHeartbeats 4000000 in
theorem c_X5_melding (l : Launch) (D : va_G) (κ : Nat → ClassId) (a : Nat → Nat) (sz : Nat) (p1 : Int32) (p2 : Int32) (p3 : Int32) (uv : MS) (r' : Int32) (uv' : MS) (hf : f_X5_melding p1 p2 p3 uv = some (r', uv')) : Met l yX5_melding wsX5_melding ({ frames := 4, cells := 0, slots := 0, locals := 92 } : Room) (xPc D κ [.ref (a 0), .int p1, .int p2, .int p3] (WM κ a uv) sz) (xQi D κ r' (WM κ a uv') (va_A (WM κ a uv) sz)) 0 0 (va_A (WM κ a uv) sz) := by
  refine x_ofW (cc := cX5_melding) (maxL := 6) (ret := (some .int)) (Qf := fun A => xQi D κ r' (WM κ a uv') A) (by decide) rfl (Nat.le_of_ble_eq_true rfl) ?_
  intro p e s m below meth c hx hb hr hlk hml hown hts hK A hA H locs hG ls hl
  have hown : s.vm.findClass RX5 = some m.cls := hown
  have hl : lv_has ls 6 [(0, .ref (a 0)), (1, .int p1), (2, .int p2), (3, .int p3)] := hl
  have iX5 : ∀ w ∈ u_ws RX5 TX5 27, w ∈ wsX5_melding := fun _ h => List.mem_cons_of_mem _ (List.mem_append_right _ h)
  have k13 := hts (.fieldLink RX5 13 "SpineDesksModel" "row" "[I") (List.mem_of_getElem? (i := 2) rfl)
  have k63 := hts (.fieldLink RX5 63 "SpineDesksModel" "thrown" "I") (List.mem_of_getElem? (i := 1) rfl)
  have k71 := hts (.fieldLink RX5 71 "SpineDesksModel" "steps" "I") (List.mem_of_getElem? (i := 3) rfl)
  have k74 := hts (.fieldLink RX5 74 "SpineDesksModel" "stepsAside" "I") (List.mem_of_getElem? (i := 4) rfl)
  have L85 : ∀ (s0 : Int32) (uv : MS), f_X5_melding_85 s0 uv = some (r', uv') → ∀ (H : Heap) (locs : List Loc) (ls : Array Slot), xG D A s.heap (WM κ a uv) H locs → lv_has ls 6 [(0, .ref (a 0))] → W p l e ({ frames := 4, cells := 0, slots := 0, locals := 92 } : Room) s m (([.ref (a 0), .int p1, .int p2, .int p3] : List Value).toArray) below meth c H locs 0 0 (MQ below (xQi D κ r' (WM κ a uv') A) (([.ref (a 0), .int p1, .int p2, .int p3] : List Value).toArray) s 0 0 A) (F0 m 85 ls [.int s0]) := by
    intro  s0 uv hf H locs ls hG hl
    unfold f_X5_melding_85 at hf
    refine lv_istore (lv' := [(5, .int s0), (0, .ref (a 0))]) hx hb dX5_melding_85 hl (by decide) rfl (fun ls hl => ?_)
    refine lv_aload_n hx hb dX5_melding_87 rfl (lv_at hl 1 rfl) ?_
    obtain ⟨uv1, q2, hf⟩ := cl1_e hf
    refine x_callVv (pre := ([] : va_W)) (wc := WM κ a uv) (wc1 := WM κ a uv1) (post := ([] : va_W)) (As := []) (rest := []) (w1 := WM κ a uv1) ⟨hx, hb, hml, hown, hts⟩ hK hG hA (by simp only [List.append_assoc, List.nil_append, List.append_nil]) (by simp only [List.append_assoc, List.nil_append, List.append_nil]) (c_X5_endThought l D κ a H.size uv uv1 q2) (cwV 0 hts gX5_melding_X5_endThought rfl rfl rfl (by decide +kernel) ⟨Nat.le_of_ble_eq_true rfl, Nat.le_of_ble_eq_true rfl⟩) 0 5 rfl rfl rfl rfl hl.1 rfl (Nat.le_of_ble_eq_true rfl) dX5_melding_88 ⟨Nat.zero_le _, Nat.zero_le _⟩ (fun H locs hG => ?_)
    refine lv_iload hx hb dX5_melding_91 (lv_at hl 0 rfl) ?_
    have hz := Option.some.inj hf
    have z0 := (Prod.mk.inj hz).1
    replace hz := (Prod.mk.inj hz).2
    have z1 := hz
    exact x_iret hx hb hr hlk hK hG z0 (by rw [z1]) dX5_melding_93
  unfold f_X5_melding at hf
  refine lv_aload_n hx hb dX5_melding_0 rfl (lv_at hl 0 rfl) ?_
  refine lv_iconst (v := 0) hx hb dX5_melding_1 (by decide) ?_
  obtain ⟨uv3, euv3, hf⟩ := bnd_e hf
  refine x_put (C := RX5) (T := TX5) (N := 27) (ci := 5) hx hb hts iX5 tyX5 tyX5_ok nmX5 hown hK hG 0 rfl rfl 0 (by decide) k63 rfl (ty := .int) (v := .int 0) rfl rfl rfl (Nat.le_of_ble_eq_true rfl) (w1 := WM κ a uv3) (by rw [euv3]; rfl) dX5_melding_2 (fun H locs hG => ?_)
  refine lv_iload_n hx hb dX5_melding_5 rfl (lv_at hl 1 rfl) ?_
  refine lv_iload_n hx hb dX5_melding_6 rfl (lv_at hl 2 rfl) ?_
  obtain ⟨r4, q5, hf⟩ := cl1_e hf
  refine x_callSi (pre := ([] : va_W)) (wc := ([] : va_W)) (wc1 := ([] : va_W)) (post := WM κ a uv3) (As := [.int p1, .int p2]) (rest := []) (w1 := WM κ a uv3) ⟨hx, hb, hml, hown, hts⟩ hK hG hA (by simp only [List.append_assoc, List.nil_append, List.append_nil]) (by simp only [List.append_assoc, List.nil_append, List.append_nil]) (c_X5_areTwo l D κ a H.size p1 p2 r4 q5) (va_cwS 2 hts gX5_melding_X5_areTwo rfl rfl rfl (by decide +kernel) ⟨Nat.le_of_ble_eq_true rfl, Nat.le_of_ble_eq_true rfl⟩) rfl hl.1 rfl (Nat.le_of_ble_eq_true rfl) dX5_melding_7 ⟨Nat.zero_le _, Nat.zero_le _⟩ (fun H locs hG => ?_)
  refine lv_if_eq (tgt := 35) hx hb dX5_melding_10 (by decide) (fun c6 => ?_) (fun c6 => ?_)
  · replace hf := if_t c6 hf
    refine lv_iconst (v := (-1)) hx hb dX5_melding_35 (by decide) ?_
    have hz := Option.some.inj hf
    have z0 := (Prod.mk.inj hz).1
    replace hz := (Prod.mk.inj hz).2
    have z1 := hz
    exact x_iret hx hb hr hlk hK hG z0 (by rw [z1]) dX5_melding_36
  · replace hf := if_f c6 hf
    refine lv_iload_n hx hb dX5_melding_13 rfl (lv_at hl 3 rfl) ?_
    refine lv_i2l hx hb dX5_melding_14 rfl ?_
    refine lv_lconst (v := 0) hx hb dX5_melding_15 (by decide) ?_
    refine lv_lconst (v := 1) hx hb dX5_melding_16 (by decide) ?_
    obtain ⟨r7, q8, hf⟩ := cl1_e hf
    refine x_callSi (pre := ([] : va_W)) (wc := ([] : va_W)) (wc1 := ([] : va_W)) (post := WM κ a uv3) (As := [.long (p3.toInt64), .long 0, .long 1]) (rest := []) (w1 := WM κ a uv3) ⟨hx, hb, hml, hown, hts⟩ hK hG hA (by simp only [List.append_assoc, List.nil_append, List.append_nil]) (by simp only [List.append_assoc, List.nil_append, List.append_nil]) (c_X5_in l D κ a H.size (p3.toInt64) 0 1 r7 q8) (va_cwS 3 hts gX5_melding_X5_in rfl rfl rfl (by decide +kernel) ⟨Nat.le_of_ble_eq_true rfl, Nat.le_of_ble_eq_true rfl⟩) rfl hl.1 rfl (Nat.le_of_ble_eq_true rfl) dX5_melding_17 ⟨Nat.zero_le _, Nat.zero_le _⟩ (fun H locs hG => ?_)
    refine lv_if_eq (tgt := 35) hx hb dX5_melding_20 (by decide) (fun c9 => ?_) (fun c9 => ?_)
    · replace hf := if_t c9 hf
      refine lv_iconst (v := (-1)) hx hb dX5_melding_35 (by decide) ?_
      have hz := Option.some.inj hf
      have z0 := (Prod.mk.inj hz).1
      replace hz := (Prod.mk.inj hz).2
      have z1 := hz
      exact x_iret hx hb hr hlk hK hG z0 (by rw [z1]) dX5_melding_36
    · replace hf := if_f c9 hf
      refine lv_aload_n hx hb dX5_melding_23 rfl (lv_at hl 0 rfl) ?_
      refine x_get (C := RX5) (T := TX5) (N := 27) (ci := 5) hx hb hts iX5 hown hK hG 0 rfl rfl 2 (by decide) k13 (v := .ref (a 2)) rfl dX5_melding_24 ?_
      refine lv_iconst (v := 4) hx hb dX5_melding_27 (by decide) ?_
      refine lv_iload_n hx hb dX5_melding_28 rfl (lv_at hl 2 rfl) ?_
      refine lv_iadd hx hb dX5_melding_29 ?_
      obtain ⟨v10, ev10, hin, hf⟩ := ck_e hf
      refine x_iald hx hb hK hG 2 rfl ev10 hin dX5_melding_30 ?_
      refine lv_iconst (v := (-1)) hx hb dX5_melding_31 (by decide) ?_
      refine lv_icmp_ne (tgt := 37) hx hb dX5_melding_32 (by decide) (fun c11 => ?_) (fun c11 => ?_)
      · replace hf := if_f c11 hf
        refine lv_aload_n hx hb dX5_melding_37 rfl (lv_at hl 0 rfl) ?_
        obtain ⟨uv12, q13, hf⟩ := cl1_e hf
        refine x_callVv (pre := ([] : va_W)) (wc := WM κ a uv3) (wc1 := WM κ a uv12) (post := ([] : va_W)) (As := []) (rest := []) (w1 := WM κ a uv12) ⟨hx, hb, hml, hown, hts⟩ hK hG hA (by simp only [List.append_assoc, List.nil_append, List.append_nil]) (by simp only [List.append_assoc, List.nil_append, List.append_nil]) (c_X5_think l D κ a H.size uv3 uv12 q13) (cwV 0 hts gX5_melding_X5_think rfl rfl rfl (by decide +kernel) ⟨Nat.le_of_ble_eq_true rfl, Nat.le_of_ble_eq_true rfl⟩) 0 5 rfl rfl rfl rfl hl.1 rfl (Nat.le_of_ble_eq_true rfl) dX5_melding_38 ⟨Nat.zero_le _, Nat.zero_le _⟩ (fun H locs hG => ?_)
        refine lv_aload_n hx hb dX5_melding_41 rfl (lv_at hl 0 rfl) ?_
        refine lv_aload_n hx hb dX5_melding_42 rfl (lv_at hl 0 rfl) ?_
        refine x_get (C := RX5) (T := TX5) (N := 27) (ci := 5) hx hb hts iX5 hown hK hG 0 rfl rfl 2 (by decide) k13 (v := .ref (a 2)) rfl dX5_melding_43 ?_
        refine lv_iconst (v := 4) hx hb dX5_melding_46 (by decide) ?_
        refine lv_iload_n hx hb dX5_melding_47 rfl (lv_at hl 1 rfl) ?_
        refine lv_iadd hx hb dX5_melding_48 ?_
        obtain ⟨v14, ev14, hin, hf⟩ := ck_e hf
        refine x_iald hx hb hK hG 2 rfl ev14 hin dX5_melding_49 ?_
        refine lv_aload_n hx hb dX5_melding_50 rfl (lv_at hl 0 rfl) ?_
        refine x_get (C := RX5) (T := TX5) (N := 27) (ci := 5) hx hb hts iX5 hown hK hG 0 rfl rfl 2 (by decide) k13 (v := .ref (a 2)) rfl dX5_melding_51 ?_
        refine lv_iconst (v := 4) hx hb dX5_melding_54 (by decide) ?_
        refine lv_iload_n hx hb dX5_melding_55 rfl (lv_at hl 2 rfl) ?_
        refine lv_iadd hx hb dX5_melding_56 ?_
        obtain ⟨v15, ev15, hin, hf⟩ := ck_e hf
        refine x_iald hx hb hK hG 2 rfl ev15 hin dX5_melding_57 ?_
        obtain ⟨r16, uv17, q18, hf⟩ := cl2_e hf
        refine x_callVi (pre := ([] : va_W)) (wc := WM κ a uv12) (wc1 := WM κ a uv17) (post := ([] : va_W)) (As := [.int v14, .int v15]) (rest := []) (w1 := WM κ a uv17) ⟨hx, hb, hml, hown, hts⟩ hK hG hA (by simp only [List.append_assoc, List.nil_append, List.append_nil]) (by simp only [List.append_assoc, List.nil_append, List.append_nil]) (c_X5_meldTrees l D κ a H.size v14 v15 uv12 r16 uv17 q18) (cwV 2 hts gX5_melding_X5_meldTrees rfl rfl rfl (by decide +kernel) ⟨Nat.le_of_ble_eq_true rfl, Nat.le_of_ble_eq_true rfl⟩) 0 5 rfl rfl rfl rfl hl.1 rfl (Nat.le_of_ble_eq_true rfl) dX5_melding_58 ⟨Nat.zero_le _, Nat.zero_le _⟩ (fun H locs hG => ?_)
        refine lv_istore (lv' := [(4, .int r16), (0, .ref (a 0)), (1, .int p1), (2, .int p2), (3, .int p3)]) hx hb dX5_melding_61 hl (by decide) rfl (fun ls hl => ?_)
        refine lv_iload_n hx hb dX5_melding_63 rfl (lv_at hl 4 rfl) ?_
        refine lv_if_ne (tgt := 79) hx hb dX5_melding_64 (by decide) (fun c19 => ?_) (fun c19 => ?_)
        · replace hf := if_f c19 hf
          refine lv_aload_n hx hb dX5_melding_79 rfl (lv_at hl 1 rfl) ?_
          refine lv_iload hx hb dX5_melding_80 (lv_at hl 0 rfl) ?_
          obtain ⟨r20, q21, hf⟩ := cl1_e hf
          refine x_callVi (pre := ([] : va_W)) (wc := WM κ a uv17) (wc1 := WM κ a uv17) (post := ([] : va_W)) (As := [.int r16]) (rest := []) (w1 := WM κ a uv17) ⟨hx, hb, hml, hown, hts⟩ hK hG hA (by simp only [List.append_assoc, List.nil_append, List.append_nil]) (by simp only [List.append_assoc, List.nil_append, List.append_nil]) (c_X5_rank l D κ a H.size r16 uv17 r20 q21) (cwV 1 hts gX5_melding_X5_rank rfl rfl rfl (by decide +kernel) ⟨Nat.le_of_ble_eq_true rfl, Nat.le_of_ble_eq_true rfl⟩) 0 5 rfl rfl rfl rfl hl.1 rfl (Nat.le_of_ble_eq_true rfl) dX5_melding_82 ⟨Nat.zero_le _, Nat.zero_le _⟩ (fun H locs hG => ?_)
          exact L85   r20 uv17 hf H locs ls hG (lv_sub hl [1] rfl)
        · replace hf := if_t c19 hf
          refine lv_aload_n hx hb dX5_melding_67 rfl (lv_at hl 1 rfl) ?_
          refine x_get (C := RX5) (T := TX5) (N := 27) (ci := 5) hx hb hts iX5 hown hK hG 0 rfl rfl 9 (by decide) k71 (v := .int (uv17.steps)) rfl dX5_melding_68 ?_
          refine lv_aload_n hx hb dX5_melding_71 rfl (lv_at hl 1 rfl) ?_
          refine x_get (C := RX5) (T := TX5) (N := 27) (ci := 5) hx hb hts iX5 hown hK hG 0 rfl rfl 10 (by decide) k74 (v := .int (uv17.stepsAside)) rfl dX5_melding_72 ?_
          refine lv_isub hx hb dX5_melding_75 ?_
          refine lv_goto (tgt := 85) hx hb dX5_melding_76 (by decide) ?_
          exact L85   ((uv17.steps) - (uv17.stepsAside)) uv17 hf H locs ls hG (lv_sub hl [1] rfl)
      · replace hf := if_t c11 hf
        refine lv_iconst (v := (-1)) hx hb dX5_melding_35 (by decide) ?_
        have hz := Option.some.inj hf
        have z0 := (Prod.mk.inj hz).1
        replace hz := (Prod.mk.inj hz).2
        have z1 := hz
        exact x_iret hx hb hr hlk hK hG z0 (by rw [z1]) dX5_melding_36
set_option maxRecDepth 100000 in
set_option maxHeartbeats 4000000 in
theorem c_X5_taking (l : Launch) (D : va_G) (κ : Nat → ClassId) (a : Nat → Nat) (sz : Nat) (p1 : Int32) (uv : MS) (r' : Int32) (uv' : MS) (hf : f_X5_taking p1 uv = some (r', uv')) : Met l yX5_taking wsX5_taking ({ frames := 6, cells := 0, slots := 0, locals := 135 } : Room) (xPc D κ [.ref (a 0), .int p1] (WM κ a uv) sz) (xQi D κ r' (WM κ a uv') (va_A (WM κ a uv) sz)) 0 0 (va_A (WM κ a uv) sz) := by
  refine x_ofW (cc := cX5_taking) (maxL := 3) (ret := (some .int)) (Qf := fun A => xQi D κ r' (WM κ a uv') A) (by decide) rfl (Nat.le_of_ble_eq_true rfl) ?_
  intro p e s m below meth c hx hb hr hlk hml hown hts hK A hA H locs hG ls hl
  have hown : s.vm.findClass RX5 = some m.cls := hown
  have hl : lv_has ls 3 [(0, .ref (a 0)), (1, .int p1)] := hl
  have iX5 : ∀ w ∈ u_ws RX5 TX5 27, w ∈ wsX5_taking := fun _ h => List.mem_cons_of_mem _ (List.mem_append_right _ h)
  have k13 := hts (.fieldLink RX5 13 "SpineDesksModel" "row" "[I") (List.mem_of_getElem? (i := 2) rfl)
  have k63 := hts (.fieldLink RX5 63 "SpineDesksModel" "thrown" "I") (List.mem_of_getElem? (i := 1) rfl)
  have k71 := hts (.fieldLink RX5 71 "SpineDesksModel" "steps" "I") (List.mem_of_getElem? (i := 3) rfl)
  have k74 := hts (.fieldLink RX5 74 "SpineDesksModel" "stepsAside" "I") (List.mem_of_getElem? (i := 4) rfl)
  unfold f_X5_taking at hf
  refine lv_aload_n hx hb dX5_taking_0 rfl (lv_at hl 0 rfl) ?_
  refine lv_iconst (v := 0) hx hb dX5_taking_1 (by decide) ?_
  obtain ⟨uv1, euv1, hf⟩ := bnd_e hf
  refine x_put (C := RX5) (T := TX5) (N := 27) (ci := 5) hx hb hts iX5 tyX5 tyX5_ok nmX5 hown hK hG 0 rfl rfl 0 (by decide) k63 rfl (ty := .int) (v := .int 0) rfl rfl rfl (Nat.le_of_ble_eq_true rfl) (w1 := WM κ a uv1) (by rw [euv1]; rfl) dX5_taking_2 (fun H locs hG => ?_)
  refine lv_iload_n hx hb dX5_taking_5 rfl (lv_at hl 1 rfl) ?_
  obtain ⟨r2, q3, hf⟩ := cl1_e hf
  refine x_callSi (pre := ([] : va_W)) (wc := ([] : va_W)) (wc1 := ([] : va_W)) (post := WM κ a uv1) (As := [.int p1]) (rest := []) (w1 := WM κ a uv1) ⟨hx, hb, hml, hown, hts⟩ hK hG hA (by simp only [List.append_assoc, List.nil_append, List.append_nil]) (by simp only [List.append_assoc, List.nil_append, List.append_nil]) (c_X5_isDesk l D κ a H.size p1 r2 q3) (va_cwS 1 hts gX5_taking_X5_isDesk rfl rfl rfl (by decide +kernel) ⟨Nat.le_of_ble_eq_true rfl, Nat.le_of_ble_eq_true rfl⟩) rfl hl.1 rfl (Nat.le_of_ble_eq_true rfl) dX5_taking_6 ⟨Nat.zero_le _, Nat.zero_le _⟩ (fun H locs hG => ?_)
  refine lv_if_eq (tgt := 24) hx hb dX5_taking_9 (by decide) (fun c4 => ?_) (fun c4 => ?_)
  · replace hf := if_t c4 hf
    refine lv_iconst (v := (-1)) hx hb dX5_taking_24 (by decide) ?_
    have hz := Option.some.inj hf
    have z0 := (Prod.mk.inj hz).1
    replace hz := (Prod.mk.inj hz).2
    have z1 := hz
    exact x_iret hx hb hr hlk hK hG z0 (by rw [z1]) dX5_taking_25
  · replace hf := if_f c4 hf
    refine lv_aload_n hx hb dX5_taking_12 rfl (lv_at hl 0 rfl) ?_
    refine x_get (C := RX5) (T := TX5) (N := 27) (ci := 5) hx hb hts iX5 hown hK hG 0 rfl rfl 2 (by decide) k13 (v := .ref (a 2)) rfl dX5_taking_13 ?_
    refine lv_iconst (v := 4) hx hb dX5_taking_16 (by decide) ?_
    refine lv_iload_n hx hb dX5_taking_17 rfl (lv_at hl 1 rfl) ?_
    refine lv_iadd hx hb dX5_taking_18 ?_
    obtain ⟨v5, ev5, hin, hf⟩ := ck_e hf
    refine x_iald hx hb hK hG 2 rfl ev5 hin dX5_taking_19 ?_
    refine lv_iconst (v := (-1)) hx hb dX5_taking_20 (by decide) ?_
    refine lv_icmp_ne (tgt := 26) hx hb dX5_taking_21 (by decide) (fun c6 => ?_) (fun c6 => ?_)
    · replace hf := if_f c6 hf
      refine lv_aload_n hx hb dX5_taking_26 rfl (lv_at hl 0 rfl) ?_
      obtain ⟨uv7, q8, hf⟩ := cl1_e hf
      refine x_callVv (pre := ([] : va_W)) (wc := WM κ a uv1) (wc1 := WM κ a uv7) (post := ([] : va_W)) (As := []) (rest := []) (w1 := WM κ a uv7) ⟨hx, hb, hml, hown, hts⟩ hK hG hA (by simp only [List.append_assoc, List.nil_append, List.append_nil]) (by simp only [List.append_assoc, List.nil_append, List.append_nil]) (c_X5_think l D κ a H.size uv1 uv7 q8) (cwV 0 hts gX5_taking_X5_think rfl rfl rfl (by decide +kernel) ⟨Nat.le_of_ble_eq_true rfl, Nat.le_of_ble_eq_true rfl⟩) 0 5 rfl rfl rfl rfl hl.1 rfl (Nat.le_of_ble_eq_true rfl) dX5_taking_27 ⟨Nat.zero_le _, Nat.zero_le _⟩ (fun H locs hG => ?_)
      refine lv_aload_n hx hb dX5_taking_30 rfl (lv_at hl 0 rfl) ?_
      refine lv_aload_n hx hb dX5_taking_31 rfl (lv_at hl 0 rfl) ?_
      refine lv_iload_n hx hb dX5_taking_32 rfl (lv_at hl 1 rfl) ?_
      obtain ⟨r9, uv10, q11, hf⟩ := cl2_e hf
      refine x_callVi (pre := ([] : va_W)) (wc := WM κ a uv7) (wc1 := WM κ a uv10) (post := ([] : va_W)) (As := [.int p1]) (rest := [.ref (a 0)]) (w1 := WM κ a uv10) ⟨hx, hb, hml, hown, hts⟩ hK hG hA (by simp only [List.append_assoc, List.nil_append, List.append_nil]) (by simp only [List.append_assoc, List.nil_append, List.append_nil]) (c_X5_takeRoot l D κ a H.size p1 uv7 r9 uv10 q11) (cwV 1 hts gX5_taking_X5_takeRoot rfl rfl rfl (by decide +kernel) ⟨Nat.le_of_ble_eq_true rfl, Nat.le_of_ble_eq_true rfl⟩) 0 5 rfl rfl rfl rfl hl.1 rfl (Nat.le_of_ble_eq_true rfl) dX5_taking_33 ⟨Nat.zero_le _, Nat.zero_le _⟩ (fun H locs hG => ?_)
      obtain ⟨uv12, q13, hf⟩ := cl1_e hf
      refine x_callVv (pre := ([] : va_W)) (wc := WM κ a uv10) (wc1 := WM κ a uv12) (post := ([] : va_W)) (As := [.int r9]) (rest := []) (w1 := WM κ a uv12) ⟨hx, hb, hml, hown, hts⟩ hK hG hA (by simp only [List.append_assoc, List.nil_append, List.append_nil]) (by simp only [List.append_assoc, List.nil_append, List.append_nil]) (c_X5_goes l D κ a H.size r9 uv10 uv12 q13) (cwV 1 hts gX5_taking_X5_goes rfl rfl rfl (by decide +kernel) ⟨Nat.le_of_ble_eq_true rfl, Nat.le_of_ble_eq_true rfl⟩) 0 5 rfl rfl rfl rfl hl.1 rfl (Nat.le_of_ble_eq_true rfl) dX5_taking_36 ⟨Nat.zero_le _, Nat.zero_le _⟩ (fun H locs hG => ?_)
      refine lv_aload_n hx hb dX5_taking_39 rfl (lv_at hl 0 rfl) ?_
      obtain ⟨uv14, q15, hf⟩ := cl1_e hf
      refine x_callVv (pre := ([] : va_W)) (wc := WM κ a uv12) (wc1 := WM κ a uv14) (post := ([] : va_W)) (As := []) (rest := []) (w1 := WM κ a uv14) ⟨hx, hb, hml, hown, hts⟩ hK hG hA (by simp only [List.append_assoc, List.nil_append, List.append_nil]) (by simp only [List.append_assoc, List.nil_append, List.append_nil]) (c_X5_sweep l D κ a H.size uv12 uv14 q15) (cwV 0 hts gX5_taking_X5_sweep rfl rfl rfl (by decide +kernel) ⟨Nat.le_of_ble_eq_true rfl, Nat.le_of_ble_eq_true rfl⟩) 0 5 rfl rfl rfl rfl hl.1 rfl (Nat.le_of_ble_eq_true rfl) dX5_taking_40 ⟨Nat.zero_le _, Nat.zero_le _⟩ (fun H locs hG => ?_)
      refine lv_aload_n hx hb dX5_taking_43 rfl (lv_at hl 0 rfl) ?_
      refine x_get (C := RX5) (T := TX5) (N := 27) (ci := 5) hx hb hts iX5 hown hK hG 0 rfl rfl 9 (by decide) k71 (v := .int (uv14.steps)) rfl dX5_taking_44 ?_
      refine lv_aload_n hx hb dX5_taking_47 rfl (lv_at hl 0 rfl) ?_
      refine x_get (C := RX5) (T := TX5) (N := 27) (ci := 5) hx hb hts iX5 hown hK hG 0 rfl rfl 10 (by decide) k74 (v := .int (uv14.stepsAside)) rfl dX5_taking_48 ?_
      refine lv_isub hx hb dX5_taking_51 ?_
      refine lv_topi (fun y16 ey16 => ?_)
      replace hf := bnd_at ey16 hf
      refine lv_istore_n (lv' := [(2, .int y16), (0, .ref (a 0)), (1, .int p1)]) hx hb dX5_taking_52 rfl hl (by decide) rfl (fun ls hl => ?_)
      refine lv_aload_n hx hb dX5_taking_53 rfl (lv_at hl 1 rfl) ?_
      obtain ⟨uv17, q18, hf⟩ := cl1_e hf
      refine x_callVv (pre := ([] : va_W)) (wc := WM κ a uv14) (wc1 := WM κ a uv17) (post := ([] : va_W)) (As := []) (rest := []) (w1 := WM κ a uv17) ⟨hx, hb, hml, hown, hts⟩ hK hG hA (by simp only [List.append_assoc, List.nil_append, List.append_nil]) (by simp only [List.append_assoc, List.nil_append, List.append_nil]) (c_X5_endThought l D κ a H.size uv14 uv17 q18) (cwV 0 hts gX5_taking_X5_endThought rfl rfl rfl (by decide +kernel) ⟨Nat.le_of_ble_eq_true rfl, Nat.le_of_ble_eq_true rfl⟩) 0 5 rfl rfl rfl rfl hl.1 rfl (Nat.le_of_ble_eq_true rfl) dX5_taking_54 ⟨Nat.zero_le _, Nat.zero_le _⟩ (fun H locs hG => ?_)
      refine lv_iload_n hx hb dX5_taking_57 rfl (lv_at hl 0 rfl) ?_
      have hz := Option.some.inj hf
      have z0 := (Prod.mk.inj hz).1
      replace hz := (Prod.mk.inj hz).2
      have z1 := hz
      exact x_iret hx hb hr hlk hK hG z0 (by rw [z1]) dX5_taking_58
    · replace hf := if_t c6 hf
      refine lv_iconst (v := (-1)) hx hb dX5_taking_24 (by decide) ?_
      have hz := Option.some.inj hf
      have z0 := (Prod.mk.inj hz).1
      replace hz := (Prod.mk.inj hz).2
      have z1 := hz
      exact x_iret hx hb hr hlk hK hG z0 (by rw [z1]) dX5_taking_25
set_option maxRecDepth 100000 in
set_option maxHeartbeats 4000000 in
theorem c_X5_coming (l : Launch) (D : va_G) (κ : Nat → ClassId) (a : Nat → Nat) (sz : Nat) (p1 : Int32) (uv : MS) (r' : Int32) (uv' : MS) (hf : f_X5_coming p1 uv = some (r', uv')) : Met l yX5_coming wsX5_coming ({ frames := 8, cells := 0, slots := 0, locals := 179 } : Room) (xPc D κ [.ref (a 0), .int p1] (WM κ a uv) sz) (xQi D κ r' (WM κ a uv') (va_A (WM κ a uv) sz)) 0 0 (va_A (WM κ a uv) sz) := by
  refine x_ofW (cc := cX5_coming) (maxL := 6) (ret := (some .int)) (Qf := fun A => xQi D κ r' (WM κ a uv') A) (by decide) rfl (Nat.le_of_ble_eq_true rfl) ?_
  intro p e s m below meth c hx hb hr hlk hml hown hts hK A hA H locs hG ls hl
  have hown : s.vm.findClass RX5 = some m.cls := hown
  have hl : lv_has ls 6 [(0, .ref (a 0)), (1, .int p1)] := hl
  have iX5 : ∀ w ∈ u_ws RX5 TX5 27, w ∈ wsX5_coming := fun _ h => List.mem_cons_of_mem _ (List.mem_append_right _ h)
  have k250 := hts (.constantLong RX5 250 (59)) (List.mem_of_getElem? (i := 2) rfl)
  have k63 := hts (.fieldLink RX5 63 "SpineDesksModel" "thrown" "I") (List.mem_of_getElem? (i := 1) rfl)
  have L75 : ∀ (x3 : Int32) (uv : MS), f_X5_coming_75 x3 uv = some (r', uv') → ∀ (H : Heap) (locs : List Loc) (ls : Array Slot), xG D A s.heap (WM κ a uv) H locs → lv_has ls 6 [(0, .ref (a 0)), (3, .int x3)] → W p l e ({ frames := 8, cells := 0, slots := 0, locals := 179 } : Room) s m (([.ref (a 0), .int p1] : List Value).toArray) below meth c H locs 0 0 (MQ below (xQi D κ r' (WM κ a uv') A) (([.ref (a 0), .int p1] : List Value).toArray) s 0 0 A) (F0 m 75 ls []) := by
    intro  x3 uv hf H locs ls hG hl
    unfold f_X5_coming_75 at hf
    refine lv_aload_n hx hb dX5_coming_75 rfl (lv_at hl 0 rfl) ?_
    obtain ⟨uv1, q2, hf⟩ := cl1_e hf
    refine x_callVv (pre := ([] : va_W)) (wc := WM κ a uv) (wc1 := WM κ a uv1) (post := ([] : va_W)) (As := []) (rest := []) (w1 := WM κ a uv1) ⟨hx, hb, hml, hown, hts⟩ hK hG hA (by simp only [List.append_assoc, List.nil_append, List.append_nil]) (by simp only [List.append_assoc, List.nil_append, List.append_nil]) (c_X5_endThought l D κ a H.size uv uv1 q2) (cwV 0 hts gX5_coming_X5_endThought rfl rfl rfl (by decide +kernel) ⟨Nat.le_of_ble_eq_true rfl, Nat.le_of_ble_eq_true rfl⟩) 0 5 rfl rfl rfl rfl hl.1 rfl (Nat.le_of_ble_eq_true rfl) dX5_coming_76 ⟨Nat.zero_le _, Nat.zero_le _⟩ (fun H locs hG => ?_)
    refine lv_iload_n hx hb dX5_coming_79 rfl (lv_at hl 1 rfl) ?_
    have hz := Option.some.inj hf
    have z0 := (Prod.mk.inj hz).1
    replace hz := (Prod.mk.inj hz).2
    have z1 := hz
    exact x_iret hx hb hr hlk hK hG z0 (by rw [z1]) dX5_coming_80
  have L69 : ∀ (rec30 : Int32 → Int32 → Int32 → Int32 → MS → Option (Int32 × MS)) (hr30 : ∀ (y1 : Int32) (y2 : Int32) (y3 : Int32) (y4 : Int32) (uv : MS), rec30 y1 y2 y3 y4 uv = some (r', uv') → ∀ (H : Heap) (locs : List Loc) (ls : Array Slot), xG D A s.heap (WM κ a uv) H locs → lv_has ls 6 [(0, .ref (a 0)), (1, .int y1), (2, .int y2), (3, .int y3), (4, .int y4)] → W p l e ({ frames := 8, cells := 0, slots := 0, locals := 179 } : Room) s m (([.ref (a 0), .int p1] : List Value).toArray) below meth c H locs 0 0 (MQ below (xQi D κ r' (WM κ a uv') A) (([.ref (a 0), .int p1] : List Value).toArray) s 0 0 A) (F0 m 30 ls [])), ∀ (x1 : Int32) (x2 : Int32) (x3 : Int32) (x4 : Int32) (uv : MS), f_X5_coming_69 rec30 x1 x2 x3 x4 uv = some (r', uv') → ∀ (H : Heap) (locs : List Loc) (ls : Array Slot), xG D A s.heap (WM κ a uv) H locs → lv_has ls 6 [(0, .ref (a 0)), (1, .int x1), (2, .int x2), (3, .int x3), (4, .int x4)] → W p l e ({ frames := 8, cells := 0, slots := 0, locals := 179 } : Room) s m (([.ref (a 0), .int p1] : List Value).toArray) below meth c H locs 0 0 (MQ below (xQi D κ r' (WM κ a uv') A) (([.ref (a 0), .int p1] : List Value).toArray) s 0 0 A) (F0 m 69 ls []) := by
    intro rec30 hr30 x1 x2 x3 x4 uv hf H locs ls hG hl
    unfold f_X5_coming_69 at hf
    obtain ⟨y3, ey3, hf⟩ := bnd_e hf
    refine lv_iinc (v := y3) (lv' := [(4, .int y3), (0, .ref (a 0)), (1, .int x1), (2, .int x2), (3, .int x3)]) hx hb dX5_coming_69 hl (k := 4) rfl (by rw [ey3]; rfl) (by decide) rfl (fun ls hl => ?_)
    refine lv_goto (tgt := 30) hx hb dX5_coming_72 (by decide) ?_
    exact hr30 x1 x2 x3 y3 uv hf H locs ls hG (lv_sub hl [1, 2, 3, 4, 0] rfl)
  have L65 : ∀ (rec30 : Int32 → Int32 → Int32 → Int32 → MS → Option (Int32 × MS)) (hr30 : ∀ (y1 : Int32) (y2 : Int32) (y3 : Int32) (y4 : Int32) (uv : MS), rec30 y1 y2 y3 y4 uv = some (r', uv') → ∀ (H : Heap) (locs : List Loc) (ls : Array Slot), xG D A s.heap (WM κ a uv) H locs → lv_has ls 6 [(0, .ref (a 0)), (1, .int y1), (2, .int y2), (3, .int y3), (4, .int y4)] → W p l e ({ frames := 8, cells := 0, slots := 0, locals := 179 } : Room) s m (([.ref (a 0), .int p1] : List Value).toArray) below meth c H locs 0 0 (MQ below (xQi D κ r' (WM κ a uv') A) (([.ref (a 0), .int p1] : List Value).toArray) s 0 0 A) (F0 m 30 ls [])), ∀ (x1 : Int32) (x2 : Int32) (x4 : Int32) (s0 : Int32) (uv : MS), f_X5_coming_65 rec30 x1 x2 x4 s0 uv = some (r', uv') → ∀ (H : Heap) (locs : List Loc) (ls : Array Slot), xG D A s.heap (WM κ a uv) H locs → lv_has ls 6 [(0, .ref (a 0)), (1, .int x1), (2, .int x2), (4, .int x4)] → W p l e ({ frames := 8, cells := 0, slots := 0, locals := 179 } : Room) s m (([.ref (a 0), .int p1] : List Value).toArray) below meth c H locs 0 0 (MQ below (xQi D κ r' (WM κ a uv') A) (([.ref (a 0), .int p1] : List Value).toArray) s 0 0 A) (F0 m 65 ls [.int s0]) := by
    intro rec30 hr30 x1 x2 x4 s0 uv hf H locs ls hG hl
    unfold f_X5_coming_65 at hf
    refine lv_istore_n (lv' := [(3, .int s0), (0, .ref (a 0)), (1, .int x1), (2, .int x2), (4, .int x4)]) hx hb dX5_coming_65 rfl hl (by decide) rfl (fun ls hl => ?_)
    obtain ⟨y4, ey4, hf⟩ := bnd_e hf
    refine lv_iinc (v := y4) (lv' := [(2, .int y4), (3, .int s0), (0, .ref (a 0)), (1, .int x1), (4, .int x4)]) hx hb dX5_coming_66 hl (k := 3) rfl (by rw [ey4]; rfl) (by decide) rfl (fun ls hl => ?_)
    exact L69 rec30 hr30  x1 y4 s0 x4 uv hf H locs ls hG (lv_sub hl [2, 3, 0, 1, 4] rfl)
  have L30 : ∀ (n : Nat), ∀ (x1 : Int32) (x2 : Int32) (x3 : Int32) (x4 : Int32) (uv : MS), f_X5_coming_30 n x1 x2 x3 x4 uv = some (r', uv') → ∀ (H : Heap) (locs : List Loc) (ls : Array Slot), xG D A s.heap (WM κ a uv) H locs → lv_has ls 6 [(0, .ref (a 0)), (1, .int x1), (2, .int x2), (3, .int x3), (4, .int x4)] → W p l e ({ frames := 8, cells := 0, slots := 0, locals := 179 } : Room) s m (([.ref (a 0), .int p1] : List Value).toArray) below meth c H locs 0 0 (MQ below (xQi D κ r' (WM κ a uv') A) (([.ref (a 0), .int p1] : List Value).toArray) s 0 0 A) (F0 m 30 ls []) := by
    intro  n
    induction n with
    | zero => intro x1 x2 x3 x4 uv hf; cases hf
    | succ n ih =>
      intro x1 x2 x3 x4 uv hf H locs ls hG hl
      replace hf : f_X5_coming_B30 (f_X5_coming_30 n) x1 x2 x3 x4 uv = some (r', uv') := hf
      unfold f_X5_coming_B30 at hf
      refine lv_iload hx hb dX5_coming_30 (lv_at hl 4 rfl) ?_
      refine lv_bipush (v := 60) hx hb dX5_coming_32 (by decide) ?_
      refine lv_icmp_ge (tgt := 75) hx hb dX5_coming_34 (by decide) (fun c5 => ?_) (fun c5 => ?_)
      · replace hf := if_t c5 hf
        exact L75   x3 uv hf H locs ls hG (lv_sub hl [0, 3] rfl)
      · replace hf := if_f c5 hf
        refine lv_iload_n hx hb dX5_coming_37 rfl (lv_at hl 3 rfl) ?_
        refine lv_iconst (v := (-1)) hx hb dX5_coming_38 (by decide) ?_
        refine lv_icmp_ne (tgt := 75) hx hb dX5_coming_39 (by decide) (fun c6 => ?_) (fun c6 => ?_)
        · replace hf := if_f c6 hf
          exact L75   x3 uv hf H locs ls hG (lv_sub hl [0, 3] rfl)
        · replace hf := if_t c6 hf
          refine lv_aload_n hx hb dX5_coming_42 rfl (lv_at hl 0 rfl) ?_
          obtain ⟨r7, uv8, q9, hf⟩ := cl2_e hf
          refine x_callVi (pre := ([] : va_W)) (wc := WM κ a uv) (wc1 := WM κ a uv8) (post := ([] : va_W)) (As := []) (rest := []) (w1 := WM κ a uv8) ⟨hx, hb, hml, hown, hts⟩ hK hG hA (by simp only [List.append_assoc, List.nil_append, List.append_nil]) (by simp only [List.append_assoc, List.nil_append, List.append_nil]) (c_X5_turns l D κ a H.size uv r7 uv8 q9) (cwV 0 hts gX5_coming_X5_turns rfl rfl rfl (by decide +kernel) ⟨Nat.le_of_ble_eq_true rfl, Nat.le_of_ble_eq_true rfl⟩) 0 5 rfl rfl rfl rfl hl.1 rfl (Nat.le_of_ble_eq_true rfl) dX5_coming_43 ⟨Nat.zero_le _, Nat.zero_le _⟩ (fun H locs hG => ?_)
          refine lv_istore (lv' := [(5, .int r7), (0, .ref (a 0)), (1, .int x1), (2, .int x2), (3, .int x3), (4, .int x4)]) hx hb dX5_coming_46 hl (by decide) rfl (fun ls hl => ?_)
          refine lv_iload hx hb dX5_coming_48 (lv_at hl 0 rfl) ?_
          refine lv_iconst (v := (-1)) hx hb dX5_coming_50 (by decide) ?_
          refine lv_icmp_eq (tgt := 69) hx hb dX5_coming_51 (by decide) (fun c10 => ?_) (fun c10 => ?_)
          · replace hf := if_t c10 hf
            exact L69 (f_X5_coming_30 n) ih  x1 x2 x3 x4 uv8 hf H locs ls hG (lv_sub hl [1, 2, 3, 4, 5] rfl)
          · replace hf := if_f c10 hf
            refine lv_iload_n hx hb dX5_coming_54 rfl (lv_at hl 3 rfl) ?_
            refine lv_iload_n hx hb dX5_coming_55 rfl (lv_at hl 2 rfl) ?_
            refine lv_icmp_ne (tgt := 64) hx hb dX5_coming_56 (by decide) (fun c11 => ?_) (fun c11 => ?_)
            · replace hf := if_f c11 hf
              refine lv_iconst (v := (-1)) hx hb dX5_coming_64 (by decide) ?_
              exact L65 (f_X5_coming_30 n) ih  x1 x2 x4 ((-1)) uv8 hf H locs ls hG (lv_sub hl [1, 2, 3, 5] rfl)
            · replace hf := if_t c11 hf
              refine lv_iload hx hb dX5_coming_59 (lv_at hl 0 rfl) ?_
              refine lv_goto (tgt := 65) hx hb dX5_coming_61 (by decide) ?_
              exact L65 (f_X5_coming_30 n) ih  x1 x2 x4 r7 uv8 hf H locs ls hG (lv_sub hl [1, 2, 3, 5] rfl)
  unfold f_X5_coming at hf
  refine lv_aload_n hx hb dX5_coming_0 rfl (lv_at hl 0 rfl) ?_
  refine lv_iconst (v := 0) hx hb dX5_coming_1 (by decide) ?_
  obtain ⟨uv12, euv12, hf⟩ := bnd_e hf
  refine x_put (C := RX5) (T := TX5) (N := 27) (ci := 5) hx hb hts iX5 tyX5 tyX5_ok nmX5 hown hK hG 0 rfl rfl 0 (by decide) k63 rfl (ty := .int) (v := .int 0) rfl rfl rfl (Nat.le_of_ble_eq_true rfl) (w1 := WM κ a uv12) (by rw [euv12]; rfl) dX5_coming_2 (fun H locs hG => ?_)
  refine lv_iload_n hx hb dX5_coming_5 rfl (lv_at hl 1 rfl) ?_
  refine lv_i2l hx hb dX5_coming_6 rfl ?_
  refine lv_lconst (v := 0) hx hb dX5_coming_7 (by decide) ?_
  refine lv_ldc2 (v := 59) hx hb hown k250 dX5_coming_8 ?_
  obtain ⟨r13, q14, hf⟩ := cl1_e hf
  refine x_callSi (pre := ([] : va_W)) (wc := ([] : va_W)) (wc1 := ([] : va_W)) (post := WM κ a uv12) (As := [.long (p1.toInt64), .long 0, .long 59]) (rest := []) (w1 := WM κ a uv12) ⟨hx, hb, hml, hown, hts⟩ hK hG hA (by simp only [List.append_assoc, List.nil_append, List.append_nil]) (by simp only [List.append_assoc, List.nil_append, List.append_nil]) (c_X5_in l D κ a H.size (p1.toInt64) 0 59 r13 q14) (va_cwS 3 hts gX5_coming_X5_in rfl rfl rfl (by decide +kernel) ⟨Nat.le_of_ble_eq_true rfl, Nat.le_of_ble_eq_true rfl⟩) rfl hl.1 rfl (Nat.le_of_ble_eq_true rfl) dX5_coming_11 ⟨Nat.zero_le _, Nat.zero_le _⟩ (fun H locs hG => ?_)
  refine lv_if_ne (tgt := 19) hx hb dX5_coming_14 (by decide) (fun c15 => ?_) (fun c15 => ?_)
  · replace hf := if_f c15 hf
    refine lv_aload_n hx hb dX5_coming_19 rfl (lv_at hl 0 rfl) ?_
    obtain ⟨uv16, q17, hf⟩ := cl1_e hf
    refine x_callVv (pre := ([] : va_W)) (wc := WM κ a uv12) (wc1 := WM κ a uv16) (post := ([] : va_W)) (As := []) (rest := []) (w1 := WM κ a uv16) ⟨hx, hb, hml, hown, hts⟩ hK hG hA (by simp only [List.append_assoc, List.nil_append, List.append_nil]) (by simp only [List.append_assoc, List.nil_append, List.append_nil]) (c_X5_think l D κ a H.size uv12 uv16 q17) (cwV 0 hts gX5_coming_X5_think rfl rfl rfl (by decide +kernel) ⟨Nat.le_of_ble_eq_true rfl, Nat.le_of_ble_eq_true rfl⟩) 0 5 rfl rfl rfl rfl hl.1 rfl (Nat.le_of_ble_eq_true rfl) dX5_coming_20 ⟨Nat.zero_le _, Nat.zero_le _⟩ (fun H locs hG => ?_)
    refine lv_iconst (v := 0) hx hb dX5_coming_23 (by decide) ?_
    refine lv_istore_n (lv' := [(2, .int 0), (0, .ref (a 0)), (1, .int p1)]) hx hb dX5_coming_24 rfl hl (by decide) rfl (fun ls hl => ?_)
    refine lv_iconst (v := (-1)) hx hb dX5_coming_25 (by decide) ?_
    refine lv_istore_n (lv' := [(3, .int ((-1))), (2, .int 0), (0, .ref (a 0)), (1, .int p1)]) hx hb dX5_coming_26 rfl hl (by decide) rfl (fun ls hl => ?_)
    refine lv_iconst (v := 0) hx hb dX5_coming_27 (by decide) ?_
    refine lv_istore (lv' := [(4, .int 0), (3, .int ((-1))), (2, .int 0), (0, .ref (a 0)), (1, .int p1)]) hx hb dX5_coming_28 hl (by decide) rfl (fun ls hl => ?_)
    exact L30  FU p1 0 ((-1)) 0 uv16 hf H locs ls hG (lv_sub hl [3, 4, 2, 1, 0] rfl)
  · replace hf := if_t c15 hf
    refine lv_iconst (v := (-1)) hx hb dX5_coming_17 (by decide) ?_
    have hz := Option.some.inj hf
    have z0 := (Prod.mk.inj hz).1
    replace hz := (Prod.mk.inj hz).2
    have z1 := hz
    exact x_iret hx hb hr hlk hK hG z0 (by rw [z1]) dX5_coming_18
set_option maxRecDepth 100000 in
set_option maxHeartbeats 4000000 in
theorem c_X5_tagged (l : Launch) (D : va_G) (κ : Nat → ClassId) (a : Nat → Nat) (sz : Nat) (p1 : Int32) (p2 : Int32) (uv : MS) (r' : Int32) (uv' : MS) (hf : f_X5_tagged p1 p2 uv = some (r', uv')) : Met l yX5_tagged wsX5_tagged ({ frames := 1, cells := 0, slots := 0, locals := 25 } : Room) (xPc D κ [.ref (a 0), .int p1, .int p2] (WM κ a uv) sz) (xQi D κ r' (WM κ a uv') (va_A (WM κ a uv) sz)) 0 0 (va_A (WM κ a uv) sz) := by
  refine x_ofW (cc := cX5_tagged) (maxL := 8) (ret := (some .int)) (Qf := fun A => xQi D κ r' (WM κ a uv') A) (by decide) rfl (Nat.le_of_ble_eq_true rfl) ?_
  intro p e s m below meth c hx hb hr hlk hml hown hts hK A hA H locs hG ls hl
  have hown : s.vm.findClass RX5 = some m.cls := hown
  have hl : lv_has ls 8 [(0, .ref (a 0)), (1, .int p1), (2, .int p2)] := hl
  have iX5 : ∀ w ∈ u_ws RX5 TX5 27, w ∈ wsX5_tagged := fun _ h => List.mem_cons_of_mem _ (List.mem_append_right _ h)
  have k13 := hts (.fieldLink RX5 13 "SpineDesksModel" "row" "[I") (List.mem_of_getElem? (i := 3) rfl)
  have k133 := hts (.constantLong RX5 133 (99)) (List.mem_of_getElem? (i := 2) rfl)
  have k63 := hts (.fieldLink RX5 63 "SpineDesksModel" "thrown" "I") (List.mem_of_getElem? (i := 1) rfl)
  have L153 : ∀ (rec37 : Int32 → Int32 → Int32 → Int32 → Int32 → MS → Option (Int32 × MS)) (hr37 : ∀ (y1 : Int32) (y2 : Int32) (y3 : Int32) (y4 : Int32) (y5 : Int32) (uv : MS), rec37 y1 y2 y3 y4 y5 uv = some (r', uv') → ∀ (H : Heap) (locs : List Loc) (ls : Array Slot), xG D A s.heap (WM κ a uv) H locs → lv_has ls 8 [(0, .ref (a 0)), (1, .int y1), (2, .int y2), (3, .int y3), (4, .int y4), (5, .int y5)] → W p l e ({ frames := 1, cells := 0, slots := 0, locals := 25 } : Room) s m (([.ref (a 0), .int p1, .int p2] : List Value).toArray) below meth c H locs 0 0 (MQ below (xQi D κ r' (WM κ a uv') A) (([.ref (a 0), .int p1, .int p2] : List Value).toArray) s 0 0 A) (F0 m 37 ls [])), ∀ (x1 : Int32) (x2 : Int32) (x3 : Int32) (x5 : Int32) (s0 : Int32) (uv : MS), f_X5_tagged_153 rec37 x1 x2 x3 x5 s0 uv = some (r', uv') → ∀ (H : Heap) (locs : List Loc) (ls : Array Slot), xG D A s.heap (WM κ a uv) H locs → lv_has ls 8 [(0, .ref (a 0)), (1, .int x1), (2, .int x2), (3, .int x3), (5, .int x5)] → W p l e ({ frames := 1, cells := 0, slots := 0, locals := 25 } : Room) s m (([.ref (a 0), .int p1, .int p2] : List Value).toArray) below meth c H locs 0 0 (MQ below (xQi D κ r' (WM κ a uv') A) (([.ref (a 0), .int p1, .int p2] : List Value).toArray) s 0 0 A) (F0 m 153 ls [.int s0]) := by
    intro rec37 hr37 x1 x2 x3 x5 s0 uv hf H locs ls hG hl
    unfold f_X5_tagged_153 at hf
    refine lv_istore (lv' := [(4, .int s0), (0, .ref (a 0)), (1, .int x1), (2, .int x2), (3, .int x3), (5, .int x5)]) hx hb dX5_tagged_153 hl (by decide) rfl (fun ls hl => ?_)
    obtain ⟨y1, ey1, hf⟩ := bnd_e hf
    refine lv_iinc (v := y1) (lv' := [(5, .int y1), (4, .int s0), (0, .ref (a 0)), (1, .int x1), (2, .int x2), (3, .int x3)]) hx hb dX5_tagged_155 hl (k := 5) rfl (by rw [ey1]; rfl) (by decide) rfl (fun ls hl => ?_)
    refine lv_goto (tgt := 37) hx hb dX5_tagged_158 (by decide) ?_
    exact hr37 x1 x2 x3 s0 y1 uv hf H locs ls hG (lv_sub hl [2, 3, 4, 5, 1, 0] rfl)
  have L138 : ∀ (rec37 : Int32 → Int32 → Int32 → Int32 → Int32 → MS → Option (Int32 × MS)) (hr37 : ∀ (y1 : Int32) (y2 : Int32) (y3 : Int32) (y4 : Int32) (y5 : Int32) (uv : MS), rec37 y1 y2 y3 y4 y5 uv = some (r', uv') → ∀ (H : Heap) (locs : List Loc) (ls : Array Slot), xG D A s.heap (WM κ a uv) H locs → lv_has ls 8 [(0, .ref (a 0)), (1, .int y1), (2, .int y2), (3, .int y3), (4, .int y4), (5, .int y5)] → W p l e ({ frames := 1, cells := 0, slots := 0, locals := 25 } : Room) s m (([.ref (a 0), .int p1, .int p2] : List Value).toArray) below meth c H locs 0 0 (MQ below (xQi D κ r' (WM κ a uv') A) (([.ref (a 0), .int p1, .int p2] : List Value).toArray) s 0 0 A) (F0 m 37 ls [])), ∀ (x1 : Int32) (x2 : Int32) (x4 : Int32) (x5 : Int32) (x6 : Int32) (s0 : Int32) (uv : MS), f_X5_tagged_138 rec37 x1 x2 x4 x5 x6 s0 uv = some (r', uv') → ∀ (H : Heap) (locs : List Loc) (ls : Array Slot), xG D A s.heap (WM κ a uv) H locs → lv_has ls 8 [(0, .ref (a 0)), (1, .int x1), (2, .int x2), (4, .int x4), (5, .int x5), (6, .int x6)] → W p l e ({ frames := 1, cells := 0, slots := 0, locals := 25 } : Room) s m (([.ref (a 0), .int p1, .int p2] : List Value).toArray) below meth c H locs 0 0 (MQ below (xQi D κ r' (WM κ a uv') A) (([.ref (a 0), .int p1, .int p2] : List Value).toArray) s 0 0 A) (F0 m 138 ls [.int s0]) := by
    intro rec37 hr37 x1 x2 x4 x5 x6 s0 uv hf H locs ls hG hl
    unfold f_X5_tagged_138 at hf
    refine lv_istore_n (lv' := [(3, .int s0), (0, .ref (a 0)), (1, .int x1), (2, .int x2), (4, .int x4), (5, .int x5), (6, .int x6)]) hx hb dX5_tagged_138 rfl hl (by decide) rfl (fun ls hl => ?_)
    refine lv_iload hx hb dX5_tagged_139 (lv_at hl 6 rfl) ?_
    refine lv_iload hx hb dX5_tagged_141 (lv_at hl 4 rfl) ?_
    refine lv_icmp_le (tgt := 151) hx hb dX5_tagged_143 (by decide) (fun c2 => ?_) (fun c2 => ?_)
    · replace hf := if_t c2 hf
      refine lv_iload hx hb dX5_tagged_151 (lv_at hl 4 rfl) ?_
      exact L153 rec37 hr37  x1 x2 s0 x5 x4 uv hf H locs ls hG (lv_sub hl [1, 2, 3, 0, 5] rfl)
    · replace hf := if_f c2 hf
      refine lv_iload hx hb dX5_tagged_146 (lv_at hl 6 rfl) ?_
      refine lv_goto (tgt := 153) hx hb dX5_tagged_148 (by decide) ?_
      exact L153 rec37 hr37  x1 x2 s0 x5 x6 uv hf H locs ls hG (lv_sub hl [1, 2, 3, 0, 5] rfl)
  have L116 : ∀ (rec37 : Int32 → Int32 → Int32 → Int32 → Int32 → MS → Option (Int32 × MS)) (hr37 : ∀ (y1 : Int32) (y2 : Int32) (y3 : Int32) (y4 : Int32) (y5 : Int32) (uv : MS), rec37 y1 y2 y3 y4 y5 uv = some (r', uv') → ∀ (H : Heap) (locs : List Loc) (ls : Array Slot), xG D A s.heap (WM κ a uv) H locs → lv_has ls 8 [(0, .ref (a 0)), (1, .int y1), (2, .int y2), (3, .int y3), (4, .int y4), (5, .int y5)] → W p l e ({ frames := 1, cells := 0, slots := 0, locals := 25 } : Room) s m (([.ref (a 0), .int p1, .int p2] : List Value).toArray) below meth c H locs 0 0 (MQ below (xQi D κ r' (WM κ a uv') A) (([.ref (a 0), .int p1, .int p2] : List Value).toArray) s 0 0 A) (F0 m 37 ls [])) (rec50 : Int32 → Int32 → Int32 → Int32 → Int32 → Int32 → Int32 → MS → Option (Int32 × MS)) (hr50 : ∀ (y1 : Int32) (y2 : Int32) (y3 : Int32) (y4 : Int32) (y5 : Int32) (y6 : Int32) (y7 : Int32) (uv : MS), rec50 y1 y2 y3 y4 y5 y6 y7 uv = some (r', uv') → ∀ (H : Heap) (locs : List Loc) (ls : Array Slot), xG D A s.heap (WM κ a uv) H locs → lv_has ls 8 [(0, .ref (a 0)), (1, .int y1), (2, .int y2), (3, .int y3), (4, .int y4), (5, .int y5), (6, .int y6), (7, .int y7)] → W p l e ({ frames := 1, cells := 0, slots := 0, locals := 25 } : Room) s m (([.ref (a 0), .int p1, .int p2] : List Value).toArray) below meth c H locs 0 0 (MQ below (xQi D κ r' (WM κ a uv') A) (([.ref (a 0), .int p1, .int p2] : List Value).toArray) s 0 0 A) (F0 m 50 ls [])), ∀ (x1 : Int32) (x2 : Int32) (x3 : Int32) (x4 : Int32) (x5 : Int32) (x7 : Int32) (s0 : Int32) (s1 : Int32) (uv : MS), f_X5_tagged_116 rec37 rec50 x1 x2 x3 x4 x5 x7 s0 s1 uv = some (r', uv') → ∀ (H : Heap) (locs : List Loc) (ls : Array Slot), xG D A s.heap (WM κ a uv) H locs → lv_has ls 8 [(0, .ref (a 0)), (1, .int x1), (2, .int x2), (3, .int x3), (4, .int x4), (5, .int x5), (7, .int x7)] → W p l e ({ frames := 1, cells := 0, slots := 0, locals := 25 } : Room) s m (([.ref (a 0), .int p1, .int p2] : List Value).toArray) below meth c H locs 0 0 (MQ below (xQi D κ r' (WM κ a uv') A) (([.ref (a 0), .int p1, .int p2] : List Value).toArray) s 0 0 A) (F0 m 116 ls [.int s1, .int s0]) := by
    intro rec37 hr37 rec50 hr50 x1 x2 x3 x4 x5 x7 s0 s1 uv hf H locs ls hG hl
    unfold f_X5_tagged_116 at hf
    refine lv_iadd hx hb dX5_tagged_116 ?_
    refine lv_topi (fun y3 ey3 => ?_)
    replace hf := bnd_at ey3 hf
    refine lv_istore (lv' := [(6, .int y3), (0, .ref (a 0)), (1, .int x1), (2, .int x2), (3, .int x3), (4, .int x4), (5, .int x5), (7, .int x7)]) hx hb dX5_tagged_117 hl (by decide) rfl (fun ls hl => ?_)
    obtain ⟨y4, ey4, hf⟩ := bnd_e hf
    refine lv_iinc (v := y4) (lv' := [(7, .int y4), (6, .int y3), (0, .ref (a 0)), (1, .int x1), (2, .int x2), (3, .int x3), (4, .int x4), (5, .int x5)]) hx hb dX5_tagged_119 hl (k := 7) rfl (by rw [ey4]; rfl) (by decide) rfl (fun ls hl => ?_)
    refine lv_goto (tgt := 50) hx hb dX5_tagged_122 (by decide) ?_
    exact hr50 x1 x2 x3 x4 x5 y3 y4 uv hf H locs ls hG (lv_sub hl [2, 3, 4, 5, 6, 7, 1, 0] rfl)
  have L115 : ∀ (rec37 : Int32 → Int32 → Int32 → Int32 → Int32 → MS → Option (Int32 × MS)) (hr37 : ∀ (y1 : Int32) (y2 : Int32) (y3 : Int32) (y4 : Int32) (y5 : Int32) (uv : MS), rec37 y1 y2 y3 y4 y5 uv = some (r', uv') → ∀ (H : Heap) (locs : List Loc) (ls : Array Slot), xG D A s.heap (WM κ a uv) H locs → lv_has ls 8 [(0, .ref (a 0)), (1, .int y1), (2, .int y2), (3, .int y3), (4, .int y4), (5, .int y5)] → W p l e ({ frames := 1, cells := 0, slots := 0, locals := 25 } : Room) s m (([.ref (a 0), .int p1, .int p2] : List Value).toArray) below meth c H locs 0 0 (MQ below (xQi D κ r' (WM κ a uv') A) (([.ref (a 0), .int p1, .int p2] : List Value).toArray) s 0 0 A) (F0 m 37 ls [])) (rec50 : Int32 → Int32 → Int32 → Int32 → Int32 → Int32 → Int32 → MS → Option (Int32 × MS)) (hr50 : ∀ (y1 : Int32) (y2 : Int32) (y3 : Int32) (y4 : Int32) (y5 : Int32) (y6 : Int32) (y7 : Int32) (uv : MS), rec50 y1 y2 y3 y4 y5 y6 y7 uv = some (r', uv') → ∀ (H : Heap) (locs : List Loc) (ls : Array Slot), xG D A s.heap (WM κ a uv) H locs → lv_has ls 8 [(0, .ref (a 0)), (1, .int y1), (2, .int y2), (3, .int y3), (4, .int y4), (5, .int y5), (6, .int y6), (7, .int y7)] → W p l e ({ frames := 1, cells := 0, slots := 0, locals := 25 } : Room) s m (([.ref (a 0), .int p1, .int p2] : List Value).toArray) below meth c H locs 0 0 (MQ below (xQi D κ r' (WM κ a uv') A) (([.ref (a 0), .int p1, .int p2] : List Value).toArray) s 0 0 A) (F0 m 50 ls [])), ∀ (x1 : Int32) (x2 : Int32) (x3 : Int32) (x4 : Int32) (x5 : Int32) (x7 : Int32) (s0 : Int32) (uv : MS), f_X5_tagged_115 rec37 rec50 x1 x2 x3 x4 x5 x7 s0 uv = some (r', uv') → ∀ (H : Heap) (locs : List Loc) (ls : Array Slot), xG D A s.heap (WM κ a uv) H locs → lv_has ls 8 [(0, .ref (a 0)), (1, .int x1), (2, .int x2), (3, .int x3), (4, .int x4), (5, .int x5), (7, .int x7)] → W p l e ({ frames := 1, cells := 0, slots := 0, locals := 25 } : Room) s m (([.ref (a 0), .int p1, .int p2] : List Value).toArray) below meth c H locs 0 0 (MQ below (xQi D κ r' (WM κ a uv') A) (([.ref (a 0), .int p1, .int p2] : List Value).toArray) s 0 0 A) (F0 m 115 ls [.int s0]) := by
    intro rec37 hr37 rec50 hr50 x1 x2 x3 x4 x5 x7 s0 uv hf H locs ls hG hl
    unfold f_X5_tagged_115 at hf
    refine lv_iconst (v := 0) hx hb dX5_tagged_115 (by decide) ?_
    exact L116 rec37 hr37 rec50 hr50  x1 x2 x3 x4 x5 x7 s0 0 uv hf H locs ls hG (lv_sub hl [0, 1, 2, 3, 4, 5, 6] rfl)
  have L50 : ∀ (rec37 : Int32 → Int32 → Int32 → Int32 → Int32 → MS → Option (Int32 × MS)) (hr37 : ∀ (y1 : Int32) (y2 : Int32) (y3 : Int32) (y4 : Int32) (y5 : Int32) (uv : MS), rec37 y1 y2 y3 y4 y5 uv = some (r', uv') → ∀ (H : Heap) (locs : List Loc) (ls : Array Slot), xG D A s.heap (WM κ a uv) H locs → lv_has ls 8 [(0, .ref (a 0)), (1, .int y1), (2, .int y2), (3, .int y3), (4, .int y4), (5, .int y5)] → W p l e ({ frames := 1, cells := 0, slots := 0, locals := 25 } : Room) s m (([.ref (a 0), .int p1, .int p2] : List Value).toArray) below meth c H locs 0 0 (MQ below (xQi D κ r' (WM κ a uv') A) (([.ref (a 0), .int p1, .int p2] : List Value).toArray) s 0 0 A) (F0 m 37 ls [])), ∀ (n : Nat), ∀ (x1 : Int32) (x2 : Int32) (x3 : Int32) (x4 : Int32) (x5 : Int32) (x6 : Int32) (x7 : Int32) (uv : MS), f_X5_tagged_50 rec37 n x1 x2 x3 x4 x5 x6 x7 uv = some (r', uv') → ∀ (H : Heap) (locs : List Loc) (ls : Array Slot), xG D A s.heap (WM κ a uv) H locs → lv_has ls 8 [(0, .ref (a 0)), (1, .int x1), (2, .int x2), (3, .int x3), (4, .int x4), (5, .int x5), (6, .int x6), (7, .int x7)] → W p l e ({ frames := 1, cells := 0, slots := 0, locals := 25 } : Room) s m (([.ref (a 0), .int p1, .int p2] : List Value).toArray) below meth c H locs 0 0 (MQ below (xQi D κ r' (WM κ a uv') A) (([.ref (a 0), .int p1, .int p2] : List Value).toArray) s 0 0 A) (F0 m 50 ls []) := by
    intro rec37 hr37 n
    induction n with
    | zero => intro x1 x2 x3 x4 x5 x6 x7 uv hf; cases hf
    | succ n ih =>
      intro x1 x2 x3 x4 x5 x6 x7 uv hf H locs ls hG hl
      replace hf : f_X5_tagged_B50 rec37 (f_X5_tagged_50 rec37 n) x1 x2 x3 x4 x5 x6 x7 uv = some (r', uv') := hf
      unfold f_X5_tagged_B50 at hf
      refine lv_iload hx hb dX5_tagged_50 (lv_at hl 7 rfl) ?_
      refine lv_aload_n hx hb dX5_tagged_52 rfl (lv_at hl 0 rfl) ?_
      refine x_get (C := RX5) (T := TX5) (N := 27) (ci := 5) hx hb hts iX5 hown hK hG 0 rfl rfl 2 (by decide) k13 (v := .ref (a 2)) rfl dX5_tagged_53 ?_
      refine lv_iconst (v := 0) hx hb dX5_tagged_56 (by decide) ?_
      obtain ⟨v5, ev5, hin, hf⟩ := ck_e hf
      refine x_iald hx hb hK hG 2 rfl ev5 hin dX5_tagged_57 ?_
      refine lv_icmp_ge (tgt := 125) hx hb dX5_tagged_58 (by decide) (fun c6 => ?_) (fun c6 => ?_)
      · replace hf := if_t c6 hf
        refine lv_iload hx hb dX5_tagged_125 (lv_at hl 6 rfl) ?_
        refine lv_iload hx hb dX5_tagged_127 (lv_at hl 4 rfl) ?_
        refine lv_icmp_le (tgt := 137) hx hb dX5_tagged_129 (by decide) (fun c7 => ?_) (fun c7 => ?_)
        · replace hf := if_t c7 hf
          refine lv_iload_n hx hb dX5_tagged_137 rfl (lv_at hl 3 rfl) ?_
          exact L138 rec37 hr37  x1 x2 x4 x5 x6 x3 uv hf H locs ls hG (lv_sub hl [0, 1, 2, 4, 5, 6] rfl)
        · replace hf := if_f c7 hf
          refine lv_iload hx hb dX5_tagged_132 (lv_at hl 5 rfl) ?_
          refine lv_goto (tgt := 138) hx hb dX5_tagged_134 (by decide) ?_
          exact L138 rec37 hr37  x1 x2 x4 x5 x6 x5 uv hf H locs ls hG (lv_sub hl [0, 1, 2, 4, 5, 6] rfl)
      · replace hf := if_f c6 hf
        refine lv_iload hx hb dX5_tagged_61 (lv_at hl 6 rfl) ?_
        refine lv_aload_n hx hb dX5_tagged_63 rfl (lv_at hl 0 rfl) ?_
        refine x_get (C := RX5) (T := TX5) (N := 27) (ci := 5) hx hb hts iX5 hown hK hG 0 rfl rfl 2 (by decide) k13 (v := .ref (a 2)) rfl dX5_tagged_64 ?_
        refine lv_iload hx hb dX5_tagged_67 (lv_at hl 7 rfl) ?_
        obtain ⟨r8, q9, hf⟩ := cl1_e hf
        refine x_callSi (pre := ([] : va_W)) (wc := ([] : va_W)) (wc1 := ([] : va_W)) (post := WM κ a uv) (As := [.int x7]) (rest := [.ref (a 2), .int x6]) (w1 := WM κ a uv) ⟨hx, hb, hml, hown, hts⟩ hK hG hA (by simp only [List.append_assoc, List.nil_append, List.append_nil]) (by simp only [List.append_assoc, List.nil_append, List.append_nil]) (c_X5_at l D κ a H.size x7 r8 q9) (va_cwS 1 hts gX5_tagged_X5_at rfl rfl rfl (by decide +kernel) ⟨Nat.le_of_ble_eq_true rfl, Nat.le_of_ble_eq_true rfl⟩) rfl hl.1 rfl (Nat.le_of_ble_eq_true rfl) dX5_tagged_69 ⟨Nat.zero_le _, Nat.zero_le _⟩ (fun H locs hG => ?_)
        refine lv_iconst (v := 1) hx hb dX5_tagged_72 (by decide) ?_
        refine lv_iadd hx hb dX5_tagged_73 ?_
        obtain ⟨v10, ev10, hin, hf⟩ := ck_e hf
        refine x_iald hx hb hK hG 2 rfl ev10 hin dX5_tagged_74 ?_
        refine lv_iload hx hb dX5_tagged_75 (lv_at hl 5 rfl) ?_
        refine lv_icmp_ne (tgt := 115) hx hb dX5_tagged_77 (by decide) (fun c11 => ?_) (fun c11 => ?_)
        · replace hf := if_f c11 hf
          exact L115 rec37 hr37 (f_X5_tagged_50 rec37 n) ih  x1 x2 x3 x4 x5 x7 x6 uv hf H locs ls hG (lv_sub hl [0, 1, 2, 3, 4, 5, 7] rfl)
        · replace hf := if_t c11 hf
          refine lv_aload_n hx hb dX5_tagged_80 rfl (lv_at hl 0 rfl) ?_
          refine x_get (C := RX5) (T := TX5) (N := 27) (ci := 5) hx hb hts iX5 hown hK hG 0 rfl rfl 2 (by decide) k13 (v := .ref (a 2)) rfl dX5_tagged_81 ?_
          refine lv_iload hx hb dX5_tagged_84 (lv_at hl 7 rfl) ?_
          obtain ⟨r12, q13, hf⟩ := cl1_e hf
          refine x_callSi (pre := ([] : va_W)) (wc := ([] : va_W)) (wc1 := ([] : va_W)) (post := WM κ a uv) (As := [.int x7]) (rest := [.ref (a 2), .int x6]) (w1 := WM κ a uv) ⟨hx, hb, hml, hown, hts⟩ hK hG hA (by simp only [List.append_assoc, List.nil_append, List.append_nil]) (by simp only [List.append_assoc, List.nil_append, List.append_nil]) (c_X5_at l D κ a H.size x7 r12 q13) (va_cwS 1 hts gX5_tagged_X5_at rfl rfl rfl (by decide +kernel) ⟨Nat.le_of_ble_eq_true rfl, Nat.le_of_ble_eq_true rfl⟩) rfl hl.1 rfl (Nat.le_of_ble_eq_true rfl) dX5_tagged_86 ⟨Nat.zero_le _, Nat.zero_le _⟩ (fun H locs hG => ?_)
          refine lv_iconst (v := 2) hx hb dX5_tagged_89 (by decide) ?_
          refine lv_iadd hx hb dX5_tagged_90 ?_
          obtain ⟨v14, ev14, hin, hf⟩ := ck_e hf
          refine x_iald hx hb hK hG 2 rfl ev14 hin dX5_tagged_91 ?_
          refine lv_if_ne (tgt := 115) hx hb dX5_tagged_92 (by decide) (fun c15 => ?_) (fun c15 => ?_)
          · replace hf := if_f c15 hf
            exact L115 rec37 hr37 (f_X5_tagged_50 rec37 n) ih  x1 x2 x3 x4 x5 x7 x6 uv hf H locs ls hG (lv_sub hl [0, 1, 2, 3, 4, 5, 7] rfl)
          · replace hf := if_t c15 hf
            refine lv_aload_n hx hb dX5_tagged_95 rfl (lv_at hl 0 rfl) ?_
            refine x_get (C := RX5) (T := TX5) (N := 27) (ci := 5) hx hb hts iX5 hown hK hG 0 rfl rfl 2 (by decide) k13 (v := .ref (a 2)) rfl dX5_tagged_96 ?_
            refine lv_iload hx hb dX5_tagged_99 (lv_at hl 7 rfl) ?_
            obtain ⟨r16, q17, hf⟩ := cl1_e hf
            refine x_callSi (pre := ([] : va_W)) (wc := ([] : va_W)) (wc1 := ([] : va_W)) (post := WM κ a uv) (As := [.int x7]) (rest := [.ref (a 2), .int x6]) (w1 := WM κ a uv) ⟨hx, hb, hml, hown, hts⟩ hK hG hA (by simp only [List.append_assoc, List.nil_append, List.append_nil]) (by simp only [List.append_assoc, List.nil_append, List.append_nil]) (c_X5_at l D κ a H.size x7 r16 q17) (va_cwS 1 hts gX5_tagged_X5_at rfl rfl rfl (by decide +kernel) ⟨Nat.le_of_ble_eq_true rfl, Nat.le_of_ble_eq_true rfl⟩) rfl hl.1 rfl (Nat.le_of_ble_eq_true rfl) dX5_tagged_101 ⟨Nat.zero_le _, Nat.zero_le _⟩ (fun H locs hG => ?_)
            refine lv_iconst (v := 0) hx hb dX5_tagged_104 (by decide) ?_
            refine lv_iadd hx hb dX5_tagged_105 ?_
            obtain ⟨v18, ev18, hin, hf⟩ := ck_e hf
            refine x_iald hx hb hK hG 2 rfl ev18 hin dX5_tagged_106 ?_
            refine lv_iload_n hx hb dX5_tagged_107 rfl (lv_at hl 1 rfl) ?_
            refine lv_icmp_ne (tgt := 115) hx hb dX5_tagged_108 (by decide) (fun c19 => ?_) (fun c19 => ?_)
            · replace hf := if_f c19 hf
              exact L115 rec37 hr37 (f_X5_tagged_50 rec37 n) ih  x1 x2 x3 x4 x5 x7 x6 uv hf H locs ls hG (lv_sub hl [0, 1, 2, 3, 4, 5, 7] rfl)
            · replace hf := if_t c19 hf
              refine lv_iconst (v := 1) hx hb dX5_tagged_111 (by decide) ?_
              refine lv_goto (tgt := 116) hx hb dX5_tagged_112 (by decide) ?_
              exact L116 rec37 hr37 (f_X5_tagged_50 rec37 n) ih  x1 x2 x3 x4 x5 x7 x6 1 uv hf H locs ls hG (lv_sub hl [0, 1, 2, 3, 4, 5, 7] rfl)
  have L37 : ∀ (n : Nat), ∀ (x1 : Int32) (x2 : Int32) (x3 : Int32) (x4 : Int32) (x5 : Int32) (uv : MS), f_X5_tagged_37 n x1 x2 x3 x4 x5 uv = some (r', uv') → ∀ (H : Heap) (locs : List Loc) (ls : Array Slot), xG D A s.heap (WM κ a uv) H locs → lv_has ls 8 [(0, .ref (a 0)), (1, .int x1), (2, .int x2), (3, .int x3), (4, .int x4), (5, .int x5)] → W p l e ({ frames := 1, cells := 0, slots := 0, locals := 25 } : Room) s m (([.ref (a 0), .int p1, .int p2] : List Value).toArray) below meth c H locs 0 0 (MQ below (xQi D κ r' (WM κ a uv') A) (([.ref (a 0), .int p1, .int p2] : List Value).toArray) s 0 0 A) (F0 m 37 ls []) := by
    intro  n
    induction n with
    | zero => intro x1 x2 x3 x4 x5 uv hf; cases hf
    | succ n ih =>
      intro x1 x2 x3 x4 x5 uv hf H locs ls hG hl
      replace hf : f_X5_tagged_B37 (f_X5_tagged_37 n) x1 x2 x3 x4 x5 uv = some (r', uv') := hf
      unfold f_X5_tagged_B37 at hf
      refine lv_iload hx hb dX5_tagged_37 (lv_at hl 5 rfl) ?_
      refine lv_bipush (v := 6) hx hb dX5_tagged_39 (by decide) ?_
      refine lv_icmp_ge (tgt := 161) hx hb dX5_tagged_41 (by decide) (fun c20 => ?_) (fun c20 => ?_)
      · replace hf := if_t c20 hf
        refine lv_iload_n hx hb dX5_tagged_161 rfl (lv_at hl 3 rfl) ?_
        refine lv_iconst (v := (-1)) hx hb dX5_tagged_162 (by decide) ?_
        refine lv_icmp_eq (tgt := 170) hx hb dX5_tagged_163 (by decide) (fun c21 => ?_) (fun c21 => ?_)
        · replace hf := if_t c21 hf
          refine lv_iload_n hx hb dX5_tagged_170 rfl (lv_at hl 3 rfl) ?_
          refine lv_goto (tgt := 176) hx hb dX5_tagged_171 (by decide) ?_
          have hz := Option.some.inj hf
          have z0 := (Prod.mk.inj hz).1
          replace hz := (Prod.mk.inj hz).2
          have z1 := hz
          exact x_iret hx hb hr hlk hK hG z0 (by rw [z1]) dX5_tagged_176
        · replace hf := if_f c21 hf
          refine lv_iload_n hx hb dX5_tagged_166 rfl (lv_at hl 2 rfl) ?_
          refine lv_if_ne (tgt := 174) hx hb dX5_tagged_167 (by decide) (fun c22 => ?_) (fun c22 => ?_)
          · replace hf := if_f c22 hf
            refine lv_iload hx hb dX5_tagged_174 (lv_at hl 4 rfl) ?_
            have hz := Option.some.inj hf
            have z0 := (Prod.mk.inj hz).1
            replace hz := (Prod.mk.inj hz).2
            have z1 := hz
            exact x_iret hx hb hr hlk hK hG z0 (by rw [z1]) dX5_tagged_176
          · replace hf := if_t c22 hf
            refine lv_iload_n hx hb dX5_tagged_170 rfl (lv_at hl 3 rfl) ?_
            refine lv_goto (tgt := 176) hx hb dX5_tagged_171 (by decide) ?_
            have hz := Option.some.inj hf
            have z0 := (Prod.mk.inj hz).1
            replace hz := (Prod.mk.inj hz).2
            have z1 := hz
            exact x_iret hx hb hr hlk hK hG z0 (by rw [z1]) dX5_tagged_176
      · replace hf := if_f c20 hf
        refine lv_iconst (v := 0) hx hb dX5_tagged_44 (by decide) ?_
        refine lv_istore (lv' := [(6, .int 0), (0, .ref (a 0)), (1, .int x1), (2, .int x2), (3, .int x3), (4, .int x4), (5, .int x5)]) hx hb dX5_tagged_45 hl (by decide) rfl (fun ls hl => ?_)
        refine lv_iconst (v := 0) hx hb dX5_tagged_47 (by decide) ?_
        refine lv_istore (lv' := [(7, .int 0), (6, .int 0), (0, .ref (a 0)), (1, .int x1), (2, .int x2), (3, .int x3), (4, .int x4), (5, .int x5)]) hx hb dX5_tagged_48 hl (by decide) rfl (fun ls hl => ?_)
        exact L50 (f_X5_tagged_37 n) ih FU x1 x2 x3 x4 x5 0 0 uv hf H locs ls hG (lv_sub hl [2, 3, 4, 5, 6, 7, 1, 0] rfl)
  unfold f_X5_tagged at hf
  refine lv_aload_n hx hb dX5_tagged_0 rfl (lv_at hl 0 rfl) ?_
  refine lv_iconst (v := 0) hx hb dX5_tagged_1 (by decide) ?_
  obtain ⟨uv23, euv23, hf⟩ := bnd_e hf
  refine x_put (C := RX5) (T := TX5) (N := 27) (ci := 5) hx hb hts iX5 tyX5 tyX5_ok nmX5 hown hK hG 0 rfl rfl 0 (by decide) k63 rfl (ty := .int) (v := .int 0) rfl rfl rfl (Nat.le_of_ble_eq_true rfl) (w1 := WM κ a uv23) (by rw [euv23]; rfl) dX5_tagged_2 (fun H locs hG => ?_)
  refine lv_iload_n hx hb dX5_tagged_5 rfl (lv_at hl 1 rfl) ?_
  refine lv_i2l hx hb dX5_tagged_6 rfl ?_
  refine lv_lconst (v := 0) hx hb dX5_tagged_7 (by decide) ?_
  refine lv_ldc2 (v := 99) hx hb hown k133 dX5_tagged_8 ?_
  obtain ⟨r24, q25, hf⟩ := cl1_e hf
  refine x_callSi (pre := ([] : va_W)) (wc := ([] : va_W)) (wc1 := ([] : va_W)) (post := WM κ a uv23) (As := [.long (p1.toInt64), .long 0, .long 99]) (rest := []) (w1 := WM κ a uv23) ⟨hx, hb, hml, hown, hts⟩ hK hG hA (by simp only [List.append_assoc, List.nil_append, List.append_nil]) (by simp only [List.append_assoc, List.nil_append, List.append_nil]) (c_X5_in l D κ a H.size (p1.toInt64) 0 99 r24 q25) (va_cwS 3 hts gX5_tagged_X5_in rfl rfl rfl (by decide +kernel) ⟨Nat.le_of_ble_eq_true rfl, Nat.le_of_ble_eq_true rfl⟩) rfl hl.1 rfl (Nat.le_of_ble_eq_true rfl) dX5_tagged_11 ⟨Nat.zero_le _, Nat.zero_le _⟩ (fun H locs hG => ?_)
  refine lv_if_eq (tgt := 27) hx hb dX5_tagged_14 (by decide) (fun c26 => ?_) (fun c26 => ?_)
  · replace hf := if_t c26 hf
    refine lv_iconst (v := (-1)) hx hb dX5_tagged_27 (by decide) ?_
    have hz := Option.some.inj hf
    have z0 := (Prod.mk.inj hz).1
    replace hz := (Prod.mk.inj hz).2
    have z1 := hz
    exact x_iret hx hb hr hlk hK hG z0 (by rw [z1]) dX5_tagged_28
  · replace hf := if_f c26 hf
    refine lv_iload_n hx hb dX5_tagged_17 rfl (lv_at hl 2 rfl) ?_
    refine lv_i2l hx hb dX5_tagged_18 rfl ?_
    refine lv_lconst (v := 0) hx hb dX5_tagged_19 (by decide) ?_
    refine lv_lconst (v := 1) hx hb dX5_tagged_20 (by decide) ?_
    obtain ⟨r27, q28, hf⟩ := cl1_e hf
    refine x_callSi (pre := ([] : va_W)) (wc := ([] : va_W)) (wc1 := ([] : va_W)) (post := WM κ a uv23) (As := [.long (p2.toInt64), .long 0, .long 1]) (rest := []) (w1 := WM κ a uv23) ⟨hx, hb, hml, hown, hts⟩ hK hG hA (by simp only [List.append_assoc, List.nil_append, List.append_nil]) (by simp only [List.append_assoc, List.nil_append, List.append_nil]) (c_X5_in l D κ a H.size (p2.toInt64) 0 1 r27 q28) (va_cwS 3 hts gX5_tagged_X5_in rfl rfl rfl (by decide +kernel) ⟨Nat.le_of_ble_eq_true rfl, Nat.le_of_ble_eq_true rfl⟩) rfl hl.1 rfl (Nat.le_of_ble_eq_true rfl) dX5_tagged_21 ⟨Nat.zero_le _, Nat.zero_le _⟩ (fun H locs hG => ?_)
    refine lv_if_ne (tgt := 29) hx hb dX5_tagged_24 (by decide) (fun c29 => ?_) (fun c29 => ?_)
    · replace hf := if_f c29 hf
      refine lv_iconst (v := (-1)) hx hb dX5_tagged_29 (by decide) ?_
      refine lv_istore_n (lv' := [(3, .int ((-1))), (0, .ref (a 0)), (1, .int p1), (2, .int p2)]) hx hb dX5_tagged_30 rfl hl (by decide) rfl (fun ls hl => ?_)
      refine lv_iconst (v := 0) hx hb dX5_tagged_31 (by decide) ?_
      refine lv_istore (lv' := [(4, .int 0), (3, .int ((-1))), (0, .ref (a 0)), (1, .int p1), (2, .int p2)]) hx hb dX5_tagged_32 hl (by decide) rfl (fun ls hl => ?_)
      refine lv_iconst (v := 0) hx hb dX5_tagged_34 (by decide) ?_
      refine lv_istore (lv' := [(5, .int 0), (4, .int 0), (3, .int ((-1))), (0, .ref (a 0)), (1, .int p1), (2, .int p2)]) hx hb dX5_tagged_35 hl (by decide) rfl (fun ls hl => ?_)
      exact L37  FU p1 p2 ((-1)) 0 0 uv23 hf H locs ls hG (lv_sub hl [3, 4, 5, 2, 1, 0] rfl)
    · replace hf := if_t c29 hf
      refine lv_iconst (v := (-1)) hx hb dX5_tagged_27 (by decide) ?_
      have hz := Option.some.inj hf
      have z0 := (Prod.mk.inj hz).1
      replace hz := (Prod.mk.inj hz).2
      have z1 := hz
      exact x_iret hx hb hr hlk hK hG z0 (by rw [z1]) dX5_tagged_28
set_option maxRecDepth 100000 in
set_option maxHeartbeats 4000000 in
theorem c_X5_log (l : Launch) (D : va_G) (κ : Nat → ClassId) (a : Nat → Nat) (sz : Nat) (p1 : Int32) (p2 : Int32) (uv : MS) (r' : Int64) (uv' : MS) (hf : f_X5_log p1 p2 uv = some (r', uv')) : Met l yX5_log wsX5_log ({ frames := 1, cells := 0, slots := 0, locals := 25 } : Room) (xPc D κ [.ref (a 0), .int p1, .int p2] (WM κ a uv) sz) (xQl D κ r' (WM κ a uv') (va_A (WM κ a uv) sz)) 0 0 (va_A (WM κ a uv) sz) := by
  refine x_ofW (cc := cX5_log) (maxL := 4) (ret := (some .long)) (Qf := fun A => xQl D κ r' (WM κ a uv') A) (by decide) rfl (Nat.le_of_ble_eq_true rfl) ?_
  intro p e s m below meth c hx hb hr hlk hml hown hts hK A hA H locs hG ls hl
  have hown : s.vm.findClass RX5 = some m.cls := hown
  have hl : lv_has ls 4 [(0, .ref (a 0)), (1, .int p1), (2, .int p2)] := hl
  have iX5 : ∀ w ∈ u_ws RX5 TX5 27, w ∈ wsX5_log := fun _ h => List.mem_cons_of_mem _ (List.mem_append_right _ h)
  have k13 := hts (.fieldLink RX5 13 "SpineDesksModel" "row" "[I") (List.mem_of_getElem? (i := 2) rfl)
  have k16 := hts (.fieldLink RX5 16 "SpineDesksModel" "keys" "[J") (List.mem_of_getElem? (i := 5) rfl)
  have k234 := hts (.constantLong RX5 234 (-9223372036854775808)) (List.mem_of_getElem? (i := 4) rfl)
  have k238 := hts (.constantLong RX5 238 (2)) (List.mem_of_getElem? (i := 3) rfl)
  have k63 := hts (.fieldLink RX5 63 "SpineDesksModel" "thrown" "I") (List.mem_of_getElem? (i := 1) rfl)
  unfold f_X5_log at hf
  refine lv_aload_n hx hb dX5_log_0 rfl (lv_at hl 0 rfl) ?_
  refine lv_iconst (v := 0) hx hb dX5_log_1 (by decide) ?_
  obtain ⟨uv1, euv1, hf⟩ := bnd_e hf
  refine x_put (C := RX5) (T := TX5) (N := 27) (ci := 5) hx hb hts iX5 tyX5 tyX5_ok nmX5 hown hK hG 0 rfl rfl 0 (by decide) k63 rfl (ty := .int) (v := .int 0) rfl rfl rfl (Nat.le_of_ble_eq_true rfl) (w1 := WM κ a uv1) (by rw [euv1]; rfl) dX5_log_2 (fun H locs hG => ?_)
  refine lv_iload_n hx hb dX5_log_5 rfl (lv_at hl 1 rfl) ?_
  refine lv_i2l hx hb dX5_log_6 rfl ?_
  refine lv_lconst (v := 0) hx hb dX5_log_7 (by decide) ?_
  refine lv_aload_n hx hb dX5_log_8 rfl (lv_at hl 0 rfl) ?_
  refine x_get (C := RX5) (T := TX5) (N := 27) (ci := 5) hx hb hts iX5 hown hK hG 0 rfl rfl 2 (by decide) k13 (v := .ref (a 2)) rfl dX5_log_9 ?_
  refine lv_iconst (v := 2) hx hb dX5_log_12 (by decide) ?_
  obtain ⟨v2, ev2, hin, hf⟩ := ck_e hf
  refine x_iald hx hb hK hG 2 rfl ev2 hin dX5_log_13 ?_
  refine lv_i2l hx hb dX5_log_14 rfl ?_
  refine lv_lconst (v := 1) hx hb dX5_log_15 (by decide) ?_
  refine lv_lsub hx hb dX5_log_16 ?_
  obtain ⟨r3, q4, hf⟩ := cl1_e hf
  refine x_callSi (pre := ([] : va_W)) (wc := ([] : va_W)) (wc1 := ([] : va_W)) (post := WM κ a uv1) (As := [.long (p1.toInt64), .long 0, .long ((v2.toInt64) - 1)]) (rest := []) (w1 := WM κ a uv1) ⟨hx, hb, hml, hown, hts⟩ hK hG hA (by simp only [List.append_assoc, List.nil_append, List.append_nil]) (by simp only [List.append_assoc, List.nil_append, List.append_nil]) (c_X5_in l D κ a H.size (p1.toInt64) 0 ((v2.toInt64) - 1) r3 q4) (va_cwS 3 hts gX5_log_X5_in rfl rfl rfl (by decide +kernel) ⟨Nat.le_of_ble_eq_true rfl, Nat.le_of_ble_eq_true rfl⟩) rfl hl.1 rfl (Nat.le_of_ble_eq_true rfl) dX5_log_17 ⟨Nat.zero_le _, Nat.zero_le _⟩ (fun H locs hG => ?_)
  refine lv_if_eq (tgt := 35) hx hb dX5_log_20 (by decide) (fun c5 => ?_) (fun c5 => ?_)
  · replace hf := if_t c5 hf
    refine lv_ldc2 (v := (-9223372036854775808)) hx hb hown k234 dX5_log_35 ?_
    have hz := Option.some.inj hf
    have z0 := (Prod.mk.inj hz).1
    replace hz := (Prod.mk.inj hz).2
    have z1 := hz
    exact x_lret hx hb hr hlk hK hG z0 (by rw [z1]) dX5_log_38
  · replace hf := if_f c5 hf
    refine lv_iload_n hx hb dX5_log_23 rfl (lv_at hl 2 rfl) ?_
    refine lv_i2l hx hb dX5_log_24 rfl ?_
    refine lv_lconst (v := 0) hx hb dX5_log_25 (by decide) ?_
    refine lv_ldc2 (v := 2) hx hb hown k238 dX5_log_26 ?_
    obtain ⟨r6, q7, hf⟩ := cl1_e hf
    refine x_callSi (pre := ([] : va_W)) (wc := ([] : va_W)) (wc1 := ([] : va_W)) (post := WM κ a uv1) (As := [.long (p2.toInt64), .long 0, .long 2]) (rest := []) (w1 := WM κ a uv1) ⟨hx, hb, hml, hown, hts⟩ hK hG hA (by simp only [List.append_assoc, List.nil_append, List.append_nil]) (by simp only [List.append_assoc, List.nil_append, List.append_nil]) (c_X5_in l D κ a H.size (p2.toInt64) 0 2 r6 q7) (va_cwS 3 hts gX5_log_X5_in rfl rfl rfl (by decide +kernel) ⟨Nat.le_of_ble_eq_true rfl, Nat.le_of_ble_eq_true rfl⟩) rfl hl.1 rfl (Nat.le_of_ble_eq_true rfl) dX5_log_29 ⟨Nat.zero_le _, Nat.zero_le _⟩ (fun H locs hG => ?_)
    refine lv_if_ne (tgt := 39) hx hb dX5_log_32 (by decide) (fun c8 => ?_) (fun c8 => ?_)
    · replace hf := if_f c8 hf
      refine lv_aload_n hx hb dX5_log_39 rfl (lv_at hl 0 rfl) ?_
      refine x_get (C := RX5) (T := TX5) (N := 27) (ci := 5) hx hb hts iX5 hown hK hG 0 rfl rfl 2 (by decide) k13 (v := .ref (a 2)) rfl dX5_log_40 ?_
      refine lv_iconst (v := 2) hx hb dX5_log_43 (by decide) ?_
      obtain ⟨v9, ev9, hin, hf⟩ := ck_e hf
      refine x_iald hx hb hK hG 2 rfl ev9 hin dX5_log_44 ?_
      refine lv_iconst (v := 1) hx hb dX5_log_45 (by decide) ?_
      refine lv_isub hx hb dX5_log_46 ?_
      refine lv_iload_n hx hb dX5_log_47 rfl (lv_at hl 1 rfl) ?_
      refine lv_isub hx hb dX5_log_48 ?_
      refine lv_topi (fun y10 ey10 => ?_)
      replace hf := bnd_at ey10 hf
      refine lv_istore_n (lv' := [(3, .int y10), (0, .ref (a 0)), (1, .int p1), (2, .int p2)]) hx hb dX5_log_49 rfl hl (by decide) rfl (fun ls hl => ?_)
      refine lv_iload_n hx hb dX5_log_50 rfl (lv_at hl 3 rfl) ?_
      refine lv_if_ne (tgt := 69) hx hb dX5_log_51 (by decide) (fun c11 => ?_) (fun c11 => ?_)
      · replace hf := if_f c11 hf
        refine lv_iload_n hx hb dX5_log_69 rfl (lv_at hl 3 rfl) ?_
        refine lv_iconst (v := 1) hx hb dX5_log_70 (by decide) ?_
        refine lv_icmp_ne (tgt := 87) hx hb dX5_log_71 (by decide) (fun c12 => ?_) (fun c12 => ?_)
        · replace hf := if_f c12 hf
          refine lv_aload_n hx hb dX5_log_87 rfl (lv_at hl 1 rfl) ?_
          refine x_get (C := RX5) (T := TX5) (N := 27) (ci := 5) hx hb hts iX5 hown hK hG 0 rfl rfl 2 (by decide) k13 (v := .ref (a 2)) rfl dX5_log_88 ?_
          refine lv_bipush (v := 70) hx hb dX5_log_91 (by decide) ?_
          refine lv_iconst (v := 2) hx hb dX5_log_93 (by decide) ?_
          refine lv_iload_n hx hb dX5_log_94 rfl (lv_at hl 0 rfl) ?_
          refine lv_imul hx hb dX5_log_95 ?_
          refine lv_iadd hx hb dX5_log_96 ?_
          refine lv_iconst (v := 1) hx hb dX5_log_97 (by decide) ?_
          refine lv_iadd hx hb dX5_log_98 ?_
          obtain ⟨v13, ev13, hin, hf⟩ := ck_e hf
          refine x_iald hx hb hK hG 2 rfl ev13 hin dX5_log_99 ?_
          refine lv_i2l hx hb dX5_log_100 rfl ?_
          have hz := Option.some.inj hf
          have z0 := (Prod.mk.inj hz).1
          replace hz := (Prod.mk.inj hz).2
          have z1 := hz
          exact x_lret hx hb hr hlk hK hG z0 (by rw [z1]) dX5_log_101
        · replace hf := if_t c12 hf
          refine lv_aload_n hx hb dX5_log_74 rfl (lv_at hl 1 rfl) ?_
          refine x_get (C := RX5) (T := TX5) (N := 27) (ci := 5) hx hb hts iX5 hown hK hG 0 rfl rfl 3 (by decide) k16 (v := .ref (a 3)) rfl dX5_log_75 ?_
          refine lv_sipush (v := 300) hx hb dX5_log_78 (by decide) ?_
          refine lv_iload_n hx hb dX5_log_81 rfl (lv_at hl 0 rfl) ?_
          refine lv_iadd hx hb dX5_log_82 ?_
          obtain ⟨v14, ev14, hin, hf⟩ := ck_e hf
          refine x_lald hx hb hK hG 3 rfl ev14 hin dX5_log_83 ?_
          refine lv_goto (tgt := 101) hx hb dX5_log_84 (by decide) ?_
          have hz := Option.some.inj hf
          have z0 := (Prod.mk.inj hz).1
          replace hz := (Prod.mk.inj hz).2
          have z1 := hz
          exact x_lret hx hb hr hlk hK hG z0 (by rw [z1]) dX5_log_101
      · replace hf := if_t c11 hf
        refine lv_aload_n hx hb dX5_log_54 rfl (lv_at hl 1 rfl) ?_
        refine x_get (C := RX5) (T := TX5) (N := 27) (ci := 5) hx hb hts iX5 hown hK hG 0 rfl rfl 2 (by decide) k13 (v := .ref (a 2)) rfl dX5_log_55 ?_
        refine lv_bipush (v := 70) hx hb dX5_log_58 (by decide) ?_
        refine lv_iconst (v := 2) hx hb dX5_log_60 (by decide) ?_
        refine lv_iload_n hx hb dX5_log_61 rfl (lv_at hl 0 rfl) ?_
        refine lv_imul hx hb dX5_log_62 ?_
        refine lv_iadd hx hb dX5_log_63 ?_
        obtain ⟨v15, ev15, hin, hf⟩ := ck_e hf
        refine x_iald hx hb hK hG 2 rfl ev15 hin dX5_log_64 ?_
        refine lv_i2l hx hb dX5_log_65 rfl ?_
        refine lv_goto (tgt := 101) hx hb dX5_log_66 (by decide) ?_
        have hz := Option.some.inj hf
        have z0 := (Prod.mk.inj hz).1
        replace hz := (Prod.mk.inj hz).2
        have z1 := hz
        exact x_lret hx hb hr hlk hK hG z0 (by rw [z1]) dX5_log_101
    · replace hf := if_t c8 hf
      refine lv_ldc2 (v := (-9223372036854775808)) hx hb hown k234 dX5_log_35 ?_
      have hz := Option.some.inj hf
      have z0 := (Prod.mk.inj hz).1
      replace hz := (Prod.mk.inj hz).2
      have z1 := hz
      exact x_lret hx hb hr hlk hK hG z0 (by rw [z1]) dX5_log_38
set_option maxRecDepth 100000 in
set_option maxHeartbeats 4000000 in
theorem c_X5_reach (l : Launch) (D : va_G) (κ : Nat → ClassId) (a : Nat → Nat) (sz : Nat) (p1 : Int32) (p2 : Int32) (uv : MS) (r' : Int32)  (hf : f_X5_reach p1 p2 uv = some (r')) : Met l yX5_reach wsX5_reach ({ frames := 2, cells := 0, slots := 0, locals := 46 } : Room) (xPc D κ [.ref (a 0), .int p1, .int p2] (WM κ a uv) sz) (xQi D κ r' (WM κ a uv) (va_A (WM κ a uv) sz)) 0 0 (va_A (WM κ a uv) sz) := by
  refine x_ofW (cc := cX5_reach) (maxL := 6) (ret := (some .int)) (Qf := fun A => xQi D κ r' (WM κ a uv) A) (by decide) rfl (Nat.le_of_ble_eq_true rfl) ?_
  intro p e s m below meth c hx hb hr hlk hml hown hts hK A hA H locs hG ls hl
  have hown : s.vm.findClass RX5 = some m.cls := hown
  have hl : lv_has ls 6 [(0, .ref (a 0)), (1, .int p1), (2, .int p2)] := hl
  have iX5 : ∀ w ∈ u_ws RX5 TX5 27, w ∈ wsX5_reach := fun _ h => List.mem_cons_of_mem _ (List.mem_append_right _ h)
  have k13 := hts (.fieldLink RX5 13 "SpineDesksModel" "row" "[I") (List.mem_of_getElem? (i := 1) rfl)
  have L78 : ∀ (rec7 : Int32 → Int32 → Int32 → Option (Int32)) (hr7 : ∀ (y2 : Int32) (y3 : Int32) (y4 : Int32), rec7 y2 y3 y4 = some (r') → ∀ (H : Heap) (locs : List Loc) (ls : Array Slot), xG D A s.heap (WM κ a uv) H locs → lv_has ls 6 [(0, .ref (a 0)), (2, .int y2), (3, .int y3), (4, .int y4)] → W p l e ({ frames := 2, cells := 0, slots := 0, locals := 46 } : Room) s m (([.ref (a 0), .int p1, .int p2] : List Value).toArray) below meth c H locs 0 0 (MQ below (xQi D κ r' (WM κ a uv) A) (([.ref (a 0), .int p1, .int p2] : List Value).toArray) s 0 0 A) (F0 m 7 ls [])) (rec17 : Int32 → Int32 → Int32 → Int32 → Option (Int32)) (hr17 : ∀ (y2 : Int32) (y3 : Int32) (y4 : Int32) (y5 : Int32), rec17 y2 y3 y4 y5 = some (r') → ∀ (H : Heap) (locs : List Loc) (ls : Array Slot), xG D A s.heap (WM κ a uv) H locs → lv_has ls 6 [(0, .ref (a 0)), (2, .int y2), (3, .int y3), (4, .int y4), (5, .int y5)] → W p l e ({ frames := 2, cells := 0, slots := 0, locals := 46 } : Room) s m (([.ref (a 0), .int p1, .int p2] : List Value).toArray) below meth c H locs 0 0 (MQ below (xQi D κ r' (WM κ a uv) A) (([.ref (a 0), .int p1, .int p2] : List Value).toArray) s 0 0 A) (F0 m 17 ls [])), ∀ (x2 : Int32) (x3 : Int32) (x4 : Int32) (x5 : Int32), f_X5_reach_78 uv rec7 rec17 x2 x3 x4 x5 = some (r') → ∀ (H : Heap) (locs : List Loc) (ls : Array Slot), xG D A s.heap (WM κ a uv) H locs → lv_has ls 6 [(0, .ref (a 0)), (2, .int x2), (3, .int x3), (4, .int x4), (5, .int x5)] → W p l e ({ frames := 2, cells := 0, slots := 0, locals := 46 } : Room) s m (([.ref (a 0), .int p1, .int p2] : List Value).toArray) below meth c H locs 0 0 (MQ below (xQi D κ r' (WM κ a uv) A) (([.ref (a 0), .int p1, .int p2] : List Value).toArray) s 0 0 A) (F0 m 78 ls []) := by
    intro rec7 hr7 rec17 hr17 x2 x3 x4 x5 hf H locs ls hG hl
    unfold f_X5_reach_78 at hf
    obtain ⟨y1, ey1, hf⟩ := bnd_e hf
    refine lv_iinc (v := y1) (lv' := [(5, .int y1), (0, .ref (a 0)), (2, .int x2), (3, .int x3), (4, .int x4)]) hx hb dX5_reach_78 hl (k := 4) rfl (by rw [ey1]; rfl) (by decide) rfl (fun ls hl => ?_)
    refine lv_goto (tgt := 17) hx hb dX5_reach_81 (by decide) ?_
    exact hr17 x2 x3 x4 y1 hf H locs ls hG (lv_sub hl [1, 2, 3, 4, 0] rfl)
  have L17 : ∀ (rec7 : Int32 → Int32 → Int32 → Option (Int32)) (hr7 : ∀ (y2 : Int32) (y3 : Int32) (y4 : Int32), rec7 y2 y3 y4 = some (r') → ∀ (H : Heap) (locs : List Loc) (ls : Array Slot), xG D A s.heap (WM κ a uv) H locs → lv_has ls 6 [(0, .ref (a 0)), (2, .int y2), (3, .int y3), (4, .int y4)] → W p l e ({ frames := 2, cells := 0, slots := 0, locals := 46 } : Room) s m (([.ref (a 0), .int p1, .int p2] : List Value).toArray) below meth c H locs 0 0 (MQ below (xQi D κ r' (WM κ a uv) A) (([.ref (a 0), .int p1, .int p2] : List Value).toArray) s 0 0 A) (F0 m 7 ls [])), ∀ (n : Nat), ∀ (x2 : Int32) (x3 : Int32) (x4 : Int32) (x5 : Int32), f_X5_reach_17 uv rec7 n x2 x3 x4 x5 = some (r') → ∀ (H : Heap) (locs : List Loc) (ls : Array Slot), xG D A s.heap (WM κ a uv) H locs → lv_has ls 6 [(0, .ref (a 0)), (2, .int x2), (3, .int x3), (4, .int x4), (5, .int x5)] → W p l e ({ frames := 2, cells := 0, slots := 0, locals := 46 } : Room) s m (([.ref (a 0), .int p1, .int p2] : List Value).toArray) below meth c H locs 0 0 (MQ below (xQi D κ r' (WM κ a uv) A) (([.ref (a 0), .int p1, .int p2] : List Value).toArray) s 0 0 A) (F0 m 17 ls []) := by
    intro rec7 hr7 n
    induction n with
    | zero => intro x2 x3 x4 x5 hf; cases hf
    | succ n ih =>
      intro x2 x3 x4 x5 hf H locs ls hG hl
      replace hf : f_X5_reach_B17 uv rec7 (f_X5_reach_17 uv rec7 n) x2 x3 x4 x5 = some (r') := hf
      unfold f_X5_reach_B17 at hf
      refine lv_iload hx hb dX5_reach_17 (lv_at hl 4 rfl) ?_
      refine lv_bipush (v := 20) hx hb dX5_reach_19 (by decide) ?_
      refine lv_icmp_ge (tgt := 84) hx hb dX5_reach_21 (by decide) (fun c2 => ?_) (fun c2 => ?_)
      · replace hf := if_t c2 hf
        obtain ⟨y3, ey3, hf⟩ := bnd_e hf
        refine lv_iinc (v := y3) (lv' := [(4, .int y3), (0, .ref (a 0)), (2, .int x2), (3, .int x3), (5, .int x5)]) hx hb dX5_reach_84 hl (k := 3) rfl (by rw [ey3]; rfl) (by decide) rfl (fun ls hl => ?_)
        refine lv_goto (tgt := 7) hx hb dX5_reach_87 (by decide) ?_
        exact hr7 x2 x3 y3 hf H locs ls hG (lv_sub hl [1, 2, 3, 0] rfl)
      · replace hf := if_f c2 hf
        refine lv_aload_n hx hb dX5_reach_24 rfl (lv_at hl 0 rfl) ?_
        refine lv_iload hx hb dX5_reach_25 (lv_at hl 4 rfl) ?_
        obtain ⟨r4, q5, hf⟩ := cl1_e hf
        refine x_callVi (pre := ([] : va_W)) (wc := WM κ a uv) (wc1 := WM κ a uv) (post := ([] : va_W)) (As := [.int x5]) (rest := []) (w1 := WM κ a uv) ⟨hx, hb, hml, hown, hts⟩ hK hG hA (by simp only [List.append_assoc, List.nil_append, List.append_nil]) (by simp only [List.append_assoc, List.nil_append, List.append_nil]) (c_X5_isArc l D κ a H.size x5 uv r4 q5) (cwV 1 hts gX5_reach_X5_isArc rfl rfl rfl (by decide +kernel) ⟨Nat.le_of_ble_eq_true rfl, Nat.le_of_ble_eq_true rfl⟩) 0 5 rfl rfl rfl rfl hl.1 rfl (Nat.le_of_ble_eq_true rfl) dX5_reach_27 ⟨Nat.zero_le _, Nat.zero_le _⟩ (fun H locs hG => ?_)
        refine lv_if_eq (tgt := 78) hx hb dX5_reach_30 (by decide) (fun c6 => ?_) (fun c6 => ?_)
        · replace hf := if_t c6 hf
          exact L78 rec7 hr7 (f_X5_reach_17 uv rec7 n) ih  x2 x3 x4 x5 hf H locs ls hG (lv_sub hl [0, 1, 2, 3, 4] rfl)
        · replace hf := if_f c6 hf
          refine lv_iload hx hb dX5_reach_33 (lv_at hl 4 rfl) ?_
          refine lv_iload_n hx hb dX5_reach_35 rfl (lv_at hl 1 rfl) ?_
          refine lv_icmp_eq (tgt := 78) hx hb dX5_reach_36 (by decide) (fun c7 => ?_) (fun c7 => ?_)
          · replace hf := if_t c7 hf
            exact L78 rec7 hr7 (f_X5_reach_17 uv rec7 n) ih  x2 x3 x4 x5 hf H locs ls hG (lv_sub hl [0, 1, 2, 3, 4] rfl)
          · replace hf := if_f c7 hf
            refine lv_iload_n hx hb dX5_reach_39 rfl (lv_at hl 2 rfl) ?_
            refine lv_aload_n hx hb dX5_reach_40 rfl (lv_at hl 0 rfl) ?_
            refine x_get (C := RX5) (T := TX5) (N := 27) (ci := 5) hx hb hts iX5 hown hK hG 0 rfl rfl 2 (by decide) k13 (v := .ref (a 2)) rfl dX5_reach_41 ?_
            refine lv_bipush (v := 10) hx hb dX5_reach_44 (by decide) ?_
            refine lv_iconst (v := 3) hx hb dX5_reach_46 (by decide) ?_
            refine lv_iload hx hb dX5_reach_47 (lv_at hl 4 rfl) ?_
            refine lv_imul hx hb dX5_reach_49 ?_
            refine lv_iadd hx hb dX5_reach_50 ?_
            obtain ⟨v8, ev8, hin, hf⟩ := ck_e hf
            refine x_iald hx hb hK hG 2 rfl ev8 hin dX5_reach_51 ?_
            refine lv_ishr hx hb dX5_reach_52 ?_
            refine lv_iconst (v := 1) hx hb dX5_reach_53 (by decide) ?_
            refine lv_iand hx hb dX5_reach_54 ?_
            refine lv_iconst (v := 1) hx hb dX5_reach_55 (by decide) ?_
            refine lv_icmp_ne (tgt := 78) hx hb dX5_reach_56 (by decide) (fun c9 => ?_) (fun c9 => ?_)
            · replace hf := if_f c9 hf
              exact L78 rec7 hr7 (f_X5_reach_17 uv rec7 n) ih  x2 x3 x4 x5 hf H locs ls hG (lv_sub hl [0, 1, 2, 3, 4] rfl)
            · replace hf := if_t c9 hf
              refine lv_iload_n hx hb dX5_reach_59 rfl (lv_at hl 2 rfl) ?_
              refine lv_iconst (v := 1) hx hb dX5_reach_60 (by decide) ?_
              refine lv_aload_n hx hb dX5_reach_61 rfl (lv_at hl 0 rfl) ?_
              refine x_get (C := RX5) (T := TX5) (N := 27) (ci := 5) hx hb hts iX5 hown hK hG 0 rfl rfl 2 (by decide) k13 (v := .ref (a 2)) rfl dX5_reach_62 ?_
              refine lv_bipush (v := 10) hx hb dX5_reach_65 (by decide) ?_
              refine lv_iconst (v := 3) hx hb dX5_reach_67 (by decide) ?_
              refine lv_iload hx hb dX5_reach_68 (lv_at hl 4 rfl) ?_
              refine lv_imul hx hb dX5_reach_70 ?_
              refine lv_iadd hx hb dX5_reach_71 ?_
              refine lv_iconst (v := 1) hx hb dX5_reach_72 (by decide) ?_
              refine lv_iadd hx hb dX5_reach_73 ?_
              obtain ⟨v10, ev10, hin, hf⟩ := ck_e hf
              refine x_iald hx hb hK hG 2 rfl ev10 hin dX5_reach_74 ?_
              refine lv_ishl hx hb dX5_reach_75 ?_
              refine lv_ior hx hb dX5_reach_76 ?_
              refine lv_topi (fun y11 ey11 => ?_)
              replace hf := bnd_at ey11 hf
              refine lv_istore_n (lv' := [(3, .int y11), (0, .ref (a 0)), (2, .int x2), (4, .int x4), (5, .int x5)]) hx hb dX5_reach_77 rfl hl (by decide) rfl (fun ls hl => ?_)
              exact L78 rec7 hr7 (f_X5_reach_17 uv rec7 n) ih  x2 y11 x4 x5 hf H locs ls hG (lv_sub hl [1, 2, 0, 3, 4] rfl)
  have L7 : ∀ (n : Nat), ∀ (x2 : Int32) (x3 : Int32) (x4 : Int32), f_X5_reach_7 uv n x2 x3 x4 = some (r') → ∀ (H : Heap) (locs : List Loc) (ls : Array Slot), xG D A s.heap (WM κ a uv) H locs → lv_has ls 6 [(0, .ref (a 0)), (2, .int x2), (3, .int x3), (4, .int x4)] → W p l e ({ frames := 2, cells := 0, slots := 0, locals := 46 } : Room) s m (([.ref (a 0), .int p1, .int p2] : List Value).toArray) below meth c H locs 0 0 (MQ below (xQi D κ r' (WM κ a uv) A) (([.ref (a 0), .int p1, .int p2] : List Value).toArray) s 0 0 A) (F0 m 7 ls []) := by
    intro  n
    induction n with
    | zero => intro x2 x3 x4 hf; cases hf
    | succ n ih =>
      intro x2 x3 x4 hf H locs ls hG hl
      replace hf : f_X5_reach_B7 uv (f_X5_reach_7 uv n) x2 x3 x4 = some (r') := hf
      unfold f_X5_reach_B7 at hf
      refine lv_iload hx hb dX5_reach_7 (lv_at hl 3 rfl) ?_
      refine lv_bipush (v := 8) hx hb dX5_reach_9 (by decide) ?_
      refine lv_icmp_ge (tgt := 90) hx hb dX5_reach_11 (by decide) (fun c12 => ?_) (fun c12 => ?_)
      · replace hf := if_t c12 hf
        refine lv_iload_n hx hb dX5_reach_90 rfl (lv_at hl 2 rfl) ?_
        have z0 := Option.some.inj hf
        exact x_iret hx hb hr hlk hK hG z0 rfl dX5_reach_91
      · replace hf := if_f c12 hf
        refine lv_iconst (v := 0) hx hb dX5_reach_14 (by decide) ?_
        refine lv_istore (lv' := [(5, .int 0), (0, .ref (a 0)), (2, .int x2), (3, .int x3), (4, .int x4)]) hx hb dX5_reach_15 hl (by decide) rfl (fun ls hl => ?_)
        exact L17 (f_X5_reach_7 uv n) ih FU x2 x3 x4 0 hf H locs ls hG (lv_sub hl [1, 2, 3, 4, 0] rfl)
  unfold f_X5_reach at hf
  refine lv_iconst (v := 1) hx hb dX5_reach_0 (by decide) ?_
  refine lv_iload_n hx hb dX5_reach_1 rfl (lv_at hl 1 rfl) ?_
  refine lv_ishl hx hb dX5_reach_2 ?_
  refine lv_topi (fun y13 ey13 => ?_)
  replace hf := bnd_at ey13 hf
  refine lv_istore_n (lv' := [(3, .int y13), (0, .ref (a 0)), (1, .int p1), (2, .int p2)]) hx hb dX5_reach_3 rfl hl (by decide) rfl (fun ls hl => ?_)
  refine lv_iconst (v := 0) hx hb dX5_reach_4 (by decide) ?_
  refine lv_istore (lv' := [(4, .int 0), (3, .int y13), (0, .ref (a 0)), (1, .int p1), (2, .int p2)]) hx hb dX5_reach_5 hl (by decide) rfl (fun ls hl => ?_)
  exact L7  FU p2 y13 0 hf H locs ls hG (lv_sub hl [2, 4, 1, 0] rfl)
set_option maxRecDepth 100000 in
set_option maxHeartbeats 4000000 in
theorem c_X5_nextTo (l : Launch) (D : va_G) (κ : Nat → ClassId) (a : Nat → Nat) (sz : Nat) (p1 : Int32) (p2 : Int32) (p3 : Int32) (uv : MS) (r' : Int32)  (hf : f_X5_nextTo p1 p2 p3 uv = some (r')) : Met l yX5_nextTo wsX5_nextTo ({ frames := 2, cells := 0, slots := 0, locals := 46 } : Room) (xPc D κ [.ref (a 0), .int p1, .int p2, .int p3] (WM κ a uv) sz) (xQi D κ r' (WM κ a uv) (va_A (WM κ a uv) sz)) 0 0 (va_A (WM κ a uv) sz) := by
  refine x_ofW (cc := cX5_nextTo) (maxL := 5) (ret := (some .int)) (Qf := fun A => xQi D κ r' (WM κ a uv) A) (by decide) rfl (Nat.le_of_ble_eq_true rfl) ?_
  intro p e s m below meth c hx hb hr hlk hml hown hts hK A hA H locs hG ls hl
  have hown : s.vm.findClass RX5 = some m.cls := hown
  have hl : lv_has ls 5 [(0, .ref (a 0)), (1, .int p1), (2, .int p2), (3, .int p3)] := hl
  have iX5 : ∀ w ∈ u_ws RX5 TX5 27, w ∈ wsX5_nextTo := fun _ h => List.mem_cons_of_mem _ (List.mem_append_right _ h)
  have k13 := hts (.fieldLink RX5 13 "SpineDesksModel" "row" "[I") (List.mem_of_getElem? (i := 1) rfl)
  have k252 := hts (.fieldLink RX5 252 "SpineDesksModel" "reached" "I") (List.mem_of_getElem? (i := 2) rfl)
  have L71 : ∀ (rec5 : Int32 → Int32 → Int32 → Option (Int32)) (hr5 : ∀ (y1 : Int32) (y3 : Int32) (y4 : Int32), rec5 y1 y3 y4 = some (r') → ∀ (H : Heap) (locs : List Loc) (ls : Array Slot), xG D A s.heap (WM κ a uv) H locs → lv_has ls 5 [(0, .ref (a 0)), (1, .int y1), (3, .int y3), (4, .int y4)] → W p l e ({ frames := 2, cells := 0, slots := 0, locals := 46 } : Room) s m (([.ref (a 0), .int p1, .int p2, .int p3] : List Value).toArray) below meth c H locs 0 0 (MQ below (xQi D κ r' (WM κ a uv) A) (([.ref (a 0), .int p1, .int p2, .int p3] : List Value).toArray) s 0 0 A) (F0 m 5 ls [])), ∀ (x1 : Int32) (x3 : Int32) (x4 : Int32), f_X5_nextTo_71 uv rec5 x1 x3 x4 = some (r') → ∀ (H : Heap) (locs : List Loc) (ls : Array Slot), xG D A s.heap (WM κ a uv) H locs → lv_has ls 5 [(0, .ref (a 0)), (1, .int x1), (3, .int x3), (4, .int x4)] → W p l e ({ frames := 2, cells := 0, slots := 0, locals := 46 } : Room) s m (([.ref (a 0), .int p1, .int p2, .int p3] : List Value).toArray) below meth c H locs 0 0 (MQ below (xQi D κ r' (WM κ a uv) A) (([.ref (a 0), .int p1, .int p2, .int p3] : List Value).toArray) s 0 0 A) (F0 m 71 ls []) := by
    intro rec5 hr5 x1 x3 x4 hf H locs ls hG hl
    unfold f_X5_nextTo_71 at hf
    obtain ⟨y1, ey1, hf⟩ := bnd_e hf
    refine lv_iinc (v := y1) (lv' := [(4, .int y1), (0, .ref (a 0)), (1, .int x1), (3, .int x3)]) hx hb dX5_nextTo_71 hl (k := 3) rfl (by rw [ey1]; rfl) (by decide) rfl (fun ls hl => ?_)
    refine lv_goto (tgt := 5) hx hb dX5_nextTo_74 (by decide) ?_
    exact hr5 x1 x3 y1 hf H locs ls hG (lv_sub hl [1, 2, 3, 0] rfl)
  have L5 : ∀ (n : Nat), ∀ (x1 : Int32) (x3 : Int32) (x4 : Int32), f_X5_nextTo_5 uv n x1 x3 x4 = some (r') → ∀ (H : Heap) (locs : List Loc) (ls : Array Slot), xG D A s.heap (WM κ a uv) H locs → lv_has ls 5 [(0, .ref (a 0)), (1, .int x1), (3, .int x3), (4, .int x4)] → W p l e ({ frames := 2, cells := 0, slots := 0, locals := 46 } : Room) s m (([.ref (a 0), .int p1, .int p2, .int p3] : List Value).toArray) below meth c H locs 0 0 (MQ below (xQi D κ r' (WM κ a uv) A) (([.ref (a 0), .int p1, .int p2, .int p3] : List Value).toArray) s 0 0 A) (F0 m 5 ls []) := by
    intro  n
    induction n with
    | zero => intro x1 x3 x4 hf; cases hf
    | succ n ih =>
      intro x1 x3 x4 hf H locs ls hG hl
      replace hf : f_X5_nextTo_B5 uv (f_X5_nextTo_5 uv n) x1 x3 x4 = some (r') := hf
      unfold f_X5_nextTo_B5 at hf
      refine lv_iload hx hb dX5_nextTo_5 (lv_at hl 3 rfl) ?_
      refine lv_bipush (v := 20) hx hb dX5_nextTo_7 (by decide) ?_
      refine lv_icmp_ge (tgt := 77) hx hb dX5_nextTo_9 (by decide) (fun c2 => ?_) (fun c2 => ?_)
      · replace hf := if_t c2 hf
        refine lv_iconst (v := (-1)) hx hb dX5_nextTo_77 (by decide) ?_
        have z0 := Option.some.inj hf
        exact x_iret hx hb hr hlk hK hG z0 rfl dX5_nextTo_78
      · replace hf := if_f c2 hf
        refine lv_iload hx hb dX5_nextTo_12 (lv_at hl 3 rfl) ?_
        refine lv_iload_n hx hb dX5_nextTo_14 rfl (lv_at hl 2 rfl) ?_
        refine lv_icmp_eq (tgt := 71) hx hb dX5_nextTo_15 (by decide) (fun c3 => ?_) (fun c3 => ?_)
        · replace hf := if_t c3 hf
          exact L71 (f_X5_nextTo_5 uv n) ih  x1 x3 x4 hf H locs ls hG (lv_sub hl [0, 1, 2, 3] rfl)
        · replace hf := if_f c3 hf
          refine lv_aload_n hx hb dX5_nextTo_18 rfl (lv_at hl 0 rfl) ?_
          refine lv_iload hx hb dX5_nextTo_19 (lv_at hl 3 rfl) ?_
          obtain ⟨r4, q5, hf⟩ := cl1_e hf
          refine x_callVi (pre := ([] : va_W)) (wc := WM κ a uv) (wc1 := WM κ a uv) (post := ([] : va_W)) (As := [.int x4]) (rest := []) (w1 := WM κ a uv) ⟨hx, hb, hml, hown, hts⟩ hK hG hA (by simp only [List.append_assoc, List.nil_append, List.append_nil]) (by simp only [List.append_assoc, List.nil_append, List.append_nil]) (c_X5_isArc l D κ a H.size x4 uv r4 q5) (cwV 1 hts gX5_nextTo_X5_isArc rfl rfl rfl (by decide +kernel) ⟨Nat.le_of_ble_eq_true rfl, Nat.le_of_ble_eq_true rfl⟩) 0 5 rfl rfl rfl rfl hl.1 rfl (Nat.le_of_ble_eq_true rfl) dX5_nextTo_21 ⟨Nat.zero_le _, Nat.zero_le _⟩ (fun H locs hG => ?_)
          refine lv_if_eq (tgt := 71) hx hb dX5_nextTo_24 (by decide) (fun c6 => ?_) (fun c6 => ?_)
          · replace hf := if_t c6 hf
            exact L71 (f_X5_nextTo_5 uv n) ih  x1 x3 x4 hf H locs ls hG (lv_sub hl [0, 1, 2, 3] rfl)
          · replace hf := if_f c6 hf
            refine lv_aload_n hx hb dX5_nextTo_27 rfl (lv_at hl 0 rfl) ?_
            refine x_get (C := RX5) (T := TX5) (N := 27) (ci := 5) hx hb hts iX5 hown hK hG 0 rfl rfl 2 (by decide) k13 (v := .ref (a 2)) rfl dX5_nextTo_28 ?_
            refine lv_bipush (v := 10) hx hb dX5_nextTo_31 (by decide) ?_
            refine lv_iconst (v := 3) hx hb dX5_nextTo_33 (by decide) ?_
            refine lv_iload hx hb dX5_nextTo_34 (lv_at hl 3 rfl) ?_
            refine lv_imul hx hb dX5_nextTo_36 ?_
            refine lv_iadd hx hb dX5_nextTo_37 ?_
            refine lv_iconst (v := 1) hx hb dX5_nextTo_38 (by decide) ?_
            refine lv_iadd hx hb dX5_nextTo_39 ?_
            obtain ⟨v7, ev7, hin, hf⟩ := ck_e hf
            refine x_iald hx hb hK hG 2 rfl ev7 hin dX5_nextTo_40 ?_
            refine lv_iload_n hx hb dX5_nextTo_41 rfl (lv_at hl 1 rfl) ?_
            refine lv_icmp_ne (tgt := 71) hx hb dX5_nextTo_42 (by decide) (fun c8 => ?_) (fun c8 => ?_)
            · replace hf := if_f c8 hf
              exact L71 (f_X5_nextTo_5 uv n) ih  x1 x3 x4 hf H locs ls hG (lv_sub hl [0, 1, 2, 3] rfl)
            · replace hf := if_t c8 hf
              refine lv_aload_n hx hb dX5_nextTo_45 rfl (lv_at hl 0 rfl) ?_
              refine x_get (C := RX5) (T := TX5) (N := 27) (ci := 5) hx hb hts iX5 hown hK hG 0 rfl rfl 23 (by decide) k252 (v := .int (uv.reached)) rfl dX5_nextTo_46 ?_
              refine lv_aload_n hx hb dX5_nextTo_49 rfl (lv_at hl 0 rfl) ?_
              refine x_get (C := RX5) (T := TX5) (N := 27) (ci := 5) hx hb hts iX5 hown hK hG 0 rfl rfl 2 (by decide) k13 (v := .ref (a 2)) rfl dX5_nextTo_50 ?_
              refine lv_bipush (v := 10) hx hb dX5_nextTo_53 (by decide) ?_
              refine lv_iconst (v := 3) hx hb dX5_nextTo_55 (by decide) ?_
              refine lv_iload hx hb dX5_nextTo_56 (lv_at hl 3 rfl) ?_
              refine lv_imul hx hb dX5_nextTo_58 ?_
              refine lv_iadd hx hb dX5_nextTo_59 ?_
              obtain ⟨v9, ev9, hin, hf⟩ := ck_e hf
              refine x_iald hx hb hK hG 2 rfl ev9 hin dX5_nextTo_60 ?_
              refine lv_ishr hx hb dX5_nextTo_61 ?_
              refine lv_iconst (v := 1) hx hb dX5_nextTo_62 (by decide) ?_
              refine lv_iand hx hb dX5_nextTo_63 ?_
              refine lv_iconst (v := 1) hx hb dX5_nextTo_64 (by decide) ?_
              refine lv_icmp_ne (tgt := 71) hx hb dX5_nextTo_65 (by decide) (fun c10 => ?_) (fun c10 => ?_)
              · replace hf := if_f c10 hf
                exact L71 (f_X5_nextTo_5 uv n) ih  x1 x3 x4 hf H locs ls hG (lv_sub hl [0, 1, 2, 3] rfl)
              · replace hf := if_t c10 hf
                refine lv_iload hx hb dX5_nextTo_68 (lv_at hl 3 rfl) ?_
                have z0 := Option.some.inj hf
                exact x_iret hx hb hr hlk hK hG z0 rfl dX5_nextTo_70
  unfold f_X5_nextTo at hf
  refine lv_iload_n hx hb dX5_nextTo_0 rfl (lv_at hl 2 rfl) ?_
  refine lv_iconst (v := 1) hx hb dX5_nextTo_1 (by decide) ?_
  refine lv_iadd hx hb dX5_nextTo_2 ?_
  refine lv_topi (fun y11 ey11 => ?_)
  replace hf := bnd_at ey11 hf
  refine lv_istore (lv' := [(4, .int y11), (0, .ref (a 0)), (1, .int p1), (2, .int p2), (3, .int p3)]) hx hb dX5_nextTo_3 hl (by decide) rfl (fun ls hl => ?_)
  exact L5  FU p1 p3 y11 hf H locs ls hG (lv_sub hl [1, 2, 4, 0] rfl)
set_option maxRecDepth 100000 in
set_option maxHeartbeats 4000000 in
theorem c_X5_firstChoice (l : Launch) (D : va_G) (κ : Nat → ClassId) (a : Nat → Nat) (sz : Nat) (p1 : Int32) (p2 : Int32) (uv : MS)  (uv' : MS) (hf : f_X5_firstChoice p1 p2 uv = some (uv')) : Met l yX5_firstChoice wsX5_firstChoice ({ frames := 3, cells := 0, slots := 0, locals := 71 } : Room) (xPc D κ [.ref (a 0), .int p1, .int p2] (WM κ a uv) sz) (xQv D κ (WM κ a uv') (va_A (WM κ a uv) sz)) 0 0 (va_A (WM κ a uv) sz) := by
  refine x_ofW (cc := cX5_firstChoice) (maxL := 4) (ret := none) (Qf := fun A => xQv D κ (WM κ a uv') A) (by decide) rfl (Nat.le_of_ble_eq_true rfl) ?_
  intro p e s m below meth c hx hb hr hlk hml hown hts hK A hA H locs hG ls hl
  have hown : s.vm.findClass RX5 = some m.cls := hown
  have hl : lv_has ls 4 [(0, .ref (a 0)), (1, .int p1), (2, .int p2)] := hl
  have iX5 : ∀ w ∈ u_ws RX5 TX5 27, w ∈ wsX5_firstChoice := fun _ h => List.mem_cons_of_mem _ (List.mem_append_right _ h)
  have k252 := hts (.fieldLink RX5 252 "SpineDesksModel" "reached" "I") (List.mem_of_getElem? (i := 1) rfl)
  have k60 := hts (.fieldLink RX5 60 "SpineDesksModel" "byArc" "[I") (List.mem_of_getElem? (i := 2) rfl)
  have L50 : ∀ (rec12 : Int32 → Int32 → Int32 → MS → Option (MS)) (hr12 : ∀ (y1 : Int32) (y2 : Int32) (y3 : Int32) (uv : MS), rec12 y1 y2 y3 uv = some (uv') → ∀ (H : Heap) (locs : List Loc) (ls : Array Slot), xG D A s.heap (WM κ a uv) H locs → lv_has ls 4 [(0, .ref (a 0)), (1, .int y1), (2, .int y2), (3, .int y3)] → W p l e ({ frames := 3, cells := 0, slots := 0, locals := 71 } : Room) s m (([.ref (a 0), .int p1, .int p2] : List Value).toArray) below meth c H locs 0 0 (MQ below (xQv D κ (WM κ a uv') A) (([.ref (a 0), .int p1, .int p2] : List Value).toArray) s 0 0 A) (F0 m 12 ls [])), ∀ (x1 : Int32) (x2 : Int32) (x3 : Int32) (s1 : Int32) (s2 : Int32) (uv : MS), f_X5_firstChoice_50 rec12 x1 x2 x3 s1 s2 uv = some (uv') → ∀ (H : Heap) (locs : List Loc) (ls : Array Slot), xG D A s.heap (WM κ a uv) H locs → lv_has ls 4 [(0, .ref (a 0)), (1, .int x1), (2, .int x2), (3, .int x3)] → W p l e ({ frames := 3, cells := 0, slots := 0, locals := 71 } : Room) s m (([.ref (a 0), .int p1, .int p2] : List Value).toArray) below meth c H locs 0 0 (MQ below (xQv D κ (WM κ a uv') A) (([.ref (a 0), .int p1, .int p2] : List Value).toArray) s 0 0 A) (F0 m 50 ls [.int s2, .int s1, .ref (a 17)]) := by
    intro rec12 hr12 x1 x2 x3 s1 s2 uv hf H locs ls hG hl
    unfold f_X5_firstChoice_50 at hf
    obtain ⟨uv1, euv1, hin, hf⟩ := ck_e hf
    refine x_iast hx hb hK hG 17 rfl (w1 := WM κ a uv1) (by rw [euv1]; rfl) hin dX5_firstChoice_50 (fun H locs hG => ?_)
    obtain ⟨y2, ey2, hf⟩ := bnd_e hf
    refine lv_iinc (v := y2) (lv' := [(3, .int y2), (0, .ref (a 0)), (1, .int x1), (2, .int x2)]) hx hb dX5_firstChoice_51 hl (k := 3) rfl (by rw [ey2]; rfl) (by decide) rfl (fun ls hl => ?_)
    refine lv_goto (tgt := 12) hx hb dX5_firstChoice_54 (by decide) ?_
    exact hr12 x1 x2 y2 uv1 hf H locs ls hG (lv_sub hl [1, 2, 3, 0] rfl)
  have L39 : ∀ (rec12 : Int32 → Int32 → Int32 → MS → Option (MS)) (hr12 : ∀ (y1 : Int32) (y2 : Int32) (y3 : Int32) (uv : MS), rec12 y1 y2 y3 uv = some (uv') → ∀ (H : Heap) (locs : List Loc) (ls : Array Slot), xG D A s.heap (WM κ a uv) H locs → lv_has ls 4 [(0, .ref (a 0)), (1, .int y1), (2, .int y2), (3, .int y3)] → W p l e ({ frames := 3, cells := 0, slots := 0, locals := 71 } : Room) s m (([.ref (a 0), .int p1, .int p2] : List Value).toArray) below meth c H locs 0 0 (MQ below (xQv D κ (WM κ a uv') A) (([.ref (a 0), .int p1, .int p2] : List Value).toArray) s 0 0 A) (F0 m 12 ls [])), ∀ (x1 : Int32) (x2 : Int32) (x3 : Int32) (s1 : Int32) (uv : MS), f_X5_firstChoice_39 rec12 x1 x2 x3 s1 uv = some (uv') → ∀ (H : Heap) (locs : List Loc) (ls : Array Slot), xG D A s.heap (WM κ a uv) H locs → lv_has ls 4 [(0, .ref (a 0)), (1, .int x1), (2, .int x2), (3, .int x3)] → W p l e ({ frames := 3, cells := 0, slots := 0, locals := 71 } : Room) s m (([.ref (a 0), .int p1, .int p2] : List Value).toArray) below meth c H locs 0 0 (MQ below (xQv D κ (WM κ a uv') A) (([.ref (a 0), .int p1, .int p2] : List Value).toArray) s 0 0 A) (F0 m 39 ls [.int s1, .ref (a 17)]) := by
    intro rec12 hr12 x1 x2 x3 s1 uv hf H locs ls hG hl
    unfold f_X5_firstChoice_39 at hf
    refine lv_iconst (v := (-1)) hx hb dX5_firstChoice_39 (by decide) ?_
    refine lv_goto (tgt := 50) hx hb dX5_firstChoice_40 (by decide) ?_
    exact L50 rec12 hr12  x1 x2 x3 s1 ((-1)) uv hf H locs ls hG (lv_sub hl [0, 1, 2, 3] rfl)
  have L12 : ∀ (n : Nat), ∀ (x1 : Int32) (x2 : Int32) (x3 : Int32) (uv : MS), f_X5_firstChoice_12 n x1 x2 x3 uv = some (uv') → ∀ (H : Heap) (locs : List Loc) (ls : Array Slot), xG D A s.heap (WM κ a uv) H locs → lv_has ls 4 [(0, .ref (a 0)), (1, .int x1), (2, .int x2), (3, .int x3)] → W p l e ({ frames := 3, cells := 0, slots := 0, locals := 71 } : Room) s m (([.ref (a 0), .int p1, .int p2] : List Value).toArray) below meth c H locs 0 0 (MQ below (xQv D κ (WM κ a uv') A) (([.ref (a 0), .int p1, .int p2] : List Value).toArray) s 0 0 A) (F0 m 12 ls []) := by
    intro  n
    induction n with
    | zero => intro x1 x2 x3 uv hf; cases hf
    | succ n ih =>
      intro x1 x2 x3 uv hf H locs ls hG hl
      replace hf : f_X5_firstChoice_B12 (f_X5_firstChoice_12 n) x1 x2 x3 uv = some (uv') := hf
      unfold f_X5_firstChoice_B12 at hf
      refine lv_iload_n hx hb dX5_firstChoice_12 rfl (lv_at hl 3 rfl) ?_
      refine lv_bipush (v := 8) hx hb dX5_firstChoice_13 (by decide) ?_
      refine lv_icmp_ge (tgt := 57) hx hb dX5_firstChoice_15 (by decide) (fun c3 => ?_) (fun c3 => ?_)
      · replace hf := if_t c3 hf
        have z0 := Option.some.inj hf
        exact x_vret hx hb hr hlk hK hG (by rw [z0]) dX5_firstChoice_57
      · replace hf := if_f c3 hf
        refine lv_aload_n hx hb dX5_firstChoice_18 rfl (lv_at hl 0 rfl) ?_
        refine x_get (C := RX5) (T := TX5) (N := 27) (ci := 5) hx hb hts iX5 hown hK hG 0 rfl rfl 20 (by decide) k60 (v := .ref (a 17)) rfl dX5_firstChoice_19 ?_
        refine lv_iload_n hx hb dX5_firstChoice_22 rfl (lv_at hl 3 rfl) ?_
        refine lv_iload_n hx hb dX5_firstChoice_23 rfl (lv_at hl 3 rfl) ?_
        refine lv_iload_n hx hb dX5_firstChoice_24 rfl (lv_at hl 1 rfl) ?_
        refine lv_icmp_eq (tgt := 39) hx hb dX5_firstChoice_25 (by decide) (fun c4 => ?_) (fun c4 => ?_)
        · replace hf := if_t c4 hf
          exact L39 (f_X5_firstChoice_12 n) ih  x1 x2 x3 x3 uv hf H locs ls hG (lv_sub hl [0, 1, 2, 3] rfl)
        · replace hf := if_f c4 hf
          refine lv_aload_n hx hb dX5_firstChoice_28 rfl (lv_at hl 0 rfl) ?_
          refine x_get (C := RX5) (T := TX5) (N := 27) (ci := 5) hx hb hts iX5 hown hK hG 0 rfl rfl 23 (by decide) k252 (v := .int (uv.reached)) rfl dX5_firstChoice_29 ?_
          refine lv_iload_n hx hb dX5_firstChoice_32 rfl (lv_at hl 3 rfl) ?_
          refine lv_ishr hx hb dX5_firstChoice_33 ?_
          refine lv_iconst (v := 1) hx hb dX5_firstChoice_34 (by decide) ?_
          refine lv_iand hx hb dX5_firstChoice_35 ?_
          refine lv_if_ne (tgt := 43) hx hb dX5_firstChoice_36 (by decide) (fun c5 => ?_) (fun c5 => ?_)
          · replace hf := if_f c5 hf
            refine lv_aload_n hx hb dX5_firstChoice_43 rfl (lv_at hl 0 rfl) ?_
            refine lv_iload_n hx hb dX5_firstChoice_44 rfl (lv_at hl 3 rfl) ?_
            refine lv_iconst (v := (-1)) hx hb dX5_firstChoice_45 (by decide) ?_
            refine lv_iload_n hx hb dX5_firstChoice_46 rfl (lv_at hl 2 rfl) ?_
            obtain ⟨r6, q7, hf⟩ := cl1_e hf
            refine x_callVi (pre := ([] : va_W)) (wc := WM κ a uv) (wc1 := WM κ a uv) (post := ([] : va_W)) (As := [.int x3, .int ((-1)), .int x2]) (rest := [.int x3, .ref (a 17)]) (w1 := WM κ a uv) ⟨hx, hb, hml, hown, hts⟩ hK hG hA (by simp only [List.append_assoc, List.nil_append, List.append_nil]) (by simp only [List.append_assoc, List.nil_append, List.append_nil]) (c_X5_nextTo l D κ a H.size x3 ((-1)) x2 uv r6 q7) (cwV 3 hts gX5_firstChoice_X5_nextTo rfl rfl rfl (by decide +kernel) ⟨Nat.le_of_ble_eq_true rfl, Nat.le_of_ble_eq_true rfl⟩) 0 5 rfl rfl rfl rfl hl.1 rfl (Nat.le_of_ble_eq_true rfl) dX5_firstChoice_47 ⟨Nat.zero_le _, Nat.zero_le _⟩ (fun H locs hG => ?_)
            exact L50 (f_X5_firstChoice_12 n) ih  x1 x2 x3 x3 r6 uv hf H locs ls hG (lv_sub hl [0, 1, 2, 3] rfl)
          · replace hf := if_t c5 hf
            exact L39 (f_X5_firstChoice_12 n) ih  x1 x2 x3 x3 uv hf H locs ls hG (lv_sub hl [0, 1, 2, 3] rfl)
  unfold f_X5_firstChoice at hf
  refine lv_aload_n hx hb dX5_firstChoice_0 rfl (lv_at hl 0 rfl) ?_
  refine lv_aload_n hx hb dX5_firstChoice_1 rfl (lv_at hl 0 rfl) ?_
  refine lv_iload_n hx hb dX5_firstChoice_2 rfl (lv_at hl 1 rfl) ?_
  refine lv_iload_n hx hb dX5_firstChoice_3 rfl (lv_at hl 2 rfl) ?_
  obtain ⟨r8, q9, hf⟩ := cl1_e hf
  refine x_callVi (pre := ([] : va_W)) (wc := WM κ a uv) (wc1 := WM κ a uv) (post := ([] : va_W)) (As := [.int p1, .int p2]) (rest := [.ref (a 0)]) (w1 := WM κ a uv) ⟨hx, hb, hml, hown, hts⟩ hK hG hA (by simp only [List.append_assoc, List.nil_append, List.append_nil]) (by simp only [List.append_assoc, List.nil_append, List.append_nil]) (c_X5_reach l D κ a H.size p1 p2 uv r8 q9) (cwV 2 hts gX5_firstChoice_X5_reach rfl rfl rfl (by decide +kernel) ⟨Nat.le_of_ble_eq_true rfl, Nat.le_of_ble_eq_true rfl⟩) 0 5 rfl rfl rfl rfl hl.1 rfl (Nat.le_of_ble_eq_true rfl) dX5_firstChoice_4 ⟨Nat.zero_le _, Nat.zero_le _⟩ (fun H locs hG => ?_)
  obtain ⟨uv10, euv10, hf⟩ := bnd_e hf
  refine x_put (C := RX5) (T := TX5) (N := 27) (ci := 5) hx hb hts iX5 tyX5 tyX5_ok nmX5 hown hK hG 0 rfl rfl 23 (by decide) k252 rfl (ty := .int) (v := .int r8) rfl rfl rfl (Nat.le_of_ble_eq_true rfl) (w1 := WM κ a uv10) (by rw [euv10]; rfl) dX5_firstChoice_7 (fun H locs hG => ?_)
  refine lv_iconst (v := 0) hx hb dX5_firstChoice_10 (by decide) ?_
  refine lv_istore_n (lv' := [(3, .int 0), (0, .ref (a 0)), (1, .int p1), (2, .int p2)]) hx hb dX5_firstChoice_11 rfl hl (by decide) rfl (fun ls hl => ?_)
  exact L12  FU p1 p2 0 uv10 hf H locs ls hG (lv_sub hl [1, 2, 3, 0] rfl)
set_option maxRecDepth 100000 in
set_option maxHeartbeats 4000000 in
theorem c_X5_nextChoice (l : Launch) (D : va_G) (κ : Nat → ClassId) (a : Nat → Nat) (sz : Nat) (p1 : Int32) (p2 : Int32) (uv : MS) (r' : Int32) (uv' : MS) (hf : f_X5_nextChoice p1 p2 uv = some (r', uv')) : Met l yX5_nextChoice wsX5_nextChoice ({ frames := 3, cells := 0, slots := 0, locals := 70 } : Room) (xPc D κ [.ref (a 0), .int p1, .int p2] (WM κ a uv) sz) (xQi D κ r' (WM κ a uv') (va_A (WM κ a uv) sz)) 0 0 (va_A (WM κ a uv) sz) := by
  refine x_ofW (cc := cX5_nextChoice) (maxL := 5) (ret := (some .boolean)) (Qf := fun A => xQi D κ r' (WM κ a uv') A) (by decide) rfl (Nat.le_of_ble_eq_true rfl) ?_
  intro p e s m below meth c hx hb hr hlk hml hown hts hK A hA H locs hG ls hl
  have hown : s.vm.findClass RX5 = some m.cls := hown
  have hl : lv_has ls 5 [(0, .ref (a 0)), (1, .int p1), (2, .int p2)] := hl
  have iX5 : ∀ w ∈ u_ws RX5 TX5 27, w ∈ wsX5_nextChoice := fun _ h => List.mem_cons_of_mem _ (List.mem_append_right _ h)
  have k60 := hts (.fieldLink RX5 60 "SpineDesksModel" "byArc" "[I") (List.mem_of_getElem? (i := 1) rfl)
  have L64 : ∀ (rec2 : Int32 → Int32 → MS → Option (Int32 × MS)) (hr2 : ∀ (y2 : Int32) (y3 : Int32) (uv : MS), rec2 y2 y3 uv = some (r', uv') → ∀ (H : Heap) (locs : List Loc) (ls : Array Slot), xG D A s.heap (WM κ a uv) H locs → lv_has ls 5 [(0, .ref (a 0)), (2, .int y2), (3, .int y3)] → W p l e ({ frames := 3, cells := 0, slots := 0, locals := 70 } : Room) s m (([.ref (a 0), .int p1, .int p2] : List Value).toArray) below meth c H locs 0 0 (MQ below (xQi D κ r' (WM κ a uv') A) (([.ref (a 0), .int p1, .int p2] : List Value).toArray) s 0 0 A) (F0 m 2 ls [])), ∀ (x2 : Int32) (x3 : Int32) (uv : MS), f_X5_nextChoice_64 rec2 x2 x3 uv = some (r', uv') → ∀ (H : Heap) (locs : List Loc) (ls : Array Slot), xG D A s.heap (WM κ a uv) H locs → lv_has ls 5 [(0, .ref (a 0)), (2, .int x2), (3, .int x3)] → W p l e ({ frames := 3, cells := 0, slots := 0, locals := 70 } : Room) s m (([.ref (a 0), .int p1, .int p2] : List Value).toArray) below meth c H locs 0 0 (MQ below (xQi D κ r' (WM κ a uv') A) (([.ref (a 0), .int p1, .int p2] : List Value).toArray) s 0 0 A) (F0 m 64 ls []) := by
    intro rec2 hr2 x2 x3 uv hf H locs ls hG hl
    unfold f_X5_nextChoice_64 at hf
    obtain ⟨y1, ey1, hf⟩ := bnd_e hf
    refine lv_iinc (v := y1) (lv' := [(3, .int y1), (0, .ref (a 0)), (2, .int x2)]) hx hb dX5_nextChoice_64 hl (k := 2) rfl (by rw [ey1]; rfl) (by decide) rfl (fun ls hl => ?_)
    refine lv_goto (tgt := 2) hx hb dX5_nextChoice_67 (by decide) ?_
    exact hr2 x2 y1 uv hf H locs ls hG (lv_sub hl [1, 2, 0] rfl)
  have L55 : ∀ (rec2 : Int32 → Int32 → MS → Option (Int32 × MS)) (hr2 : ∀ (y2 : Int32) (y3 : Int32) (uv : MS), rec2 y2 y3 uv = some (r', uv') → ∀ (H : Heap) (locs : List Loc) (ls : Array Slot), xG D A s.heap (WM κ a uv) H locs → lv_has ls 5 [(0, .ref (a 0)), (2, .int y2), (3, .int y3)] → W p l e ({ frames := 3, cells := 0, slots := 0, locals := 70 } : Room) s m (([.ref (a 0), .int p1, .int p2] : List Value).toArray) below meth c H locs 0 0 (MQ below (xQi D κ r' (WM κ a uv') A) (([.ref (a 0), .int p1, .int p2] : List Value).toArray) s 0 0 A) (F0 m 2 ls [])), ∀ (x2 : Int32) (x3 : Int32) (x4 : Int32) (s1 : Int32) (s2 : Int32) (uv : MS), f_X5_nextChoice_55 rec2 x2 x3 x4 s1 s2 uv = some (r', uv') → ∀ (H : Heap) (locs : List Loc) (ls : Array Slot), xG D A s.heap (WM κ a uv) H locs → lv_has ls 5 [(0, .ref (a 0)), (2, .int x2), (3, .int x3), (4, .int x4)] → W p l e ({ frames := 3, cells := 0, slots := 0, locals := 70 } : Room) s m (([.ref (a 0), .int p1, .int p2] : List Value).toArray) below meth c H locs 0 0 (MQ below (xQi D κ r' (WM κ a uv') A) (([.ref (a 0), .int p1, .int p2] : List Value).toArray) s 0 0 A) (F0 m 55 ls [.int s2, .int s1, .ref (a 17)]) := by
    intro rec2 hr2 x2 x3 x4 s1 s2 uv hf H locs ls hG hl
    unfold f_X5_nextChoice_55 at hf
    obtain ⟨uv2, euv2, hin, hf⟩ := ck_e hf
    refine x_iast hx hb hK hG 17 rfl (w1 := WM κ a uv2) (by rw [euv2]; rfl) hin dX5_nextChoice_55 (fun H locs hG => ?_)
    refine lv_iload hx hb dX5_nextChoice_56 (lv_at hl 3 rfl) ?_
    refine lv_iconst (v := (-1)) hx hb dX5_nextChoice_58 (by decide) ?_
    refine lv_icmp_eq (tgt := 64) hx hb dX5_nextChoice_59 (by decide) (fun c3 => ?_) (fun c3 => ?_)
    · replace hf := if_t c3 hf
      exact L64 rec2 hr2  x2 x3 uv2 hf H locs ls hG (lv_sub hl [0, 1, 2] rfl)
    · replace hf := if_f c3 hf
      refine lv_iconst (v := 1) hx hb dX5_nextChoice_62 (by decide) ?_
      have hz := Option.some.inj hf
      have z0 := (Prod.mk.inj hz).1
      replace hz := (Prod.mk.inj hz).2
      have z1 := hz
      exact x_zret hx hb hr hlk hK hG (by decide) z0 (by rw [z1]) dX5_nextChoice_63
  have L2 : ∀ (n : Nat), ∀ (x2 : Int32) (x3 : Int32) (uv : MS), f_X5_nextChoice_2 n x2 x3 uv = some (r', uv') → ∀ (H : Heap) (locs : List Loc) (ls : Array Slot), xG D A s.heap (WM κ a uv) H locs → lv_has ls 5 [(0, .ref (a 0)), (2, .int x2), (3, .int x3)] → W p l e ({ frames := 3, cells := 0, slots := 0, locals := 70 } : Room) s m (([.ref (a 0), .int p1, .int p2] : List Value).toArray) below meth c H locs 0 0 (MQ below (xQi D κ r' (WM κ a uv') A) (([.ref (a 0), .int p1, .int p2] : List Value).toArray) s 0 0 A) (F0 m 2 ls []) := by
    intro  n
    induction n with
    | zero => intro x2 x3 uv hf; cases hf
    | succ n ih =>
      intro x2 x3 uv hf H locs ls hG hl
      replace hf : f_X5_nextChoice_B2 (f_X5_nextChoice_2 n) x2 x3 uv = some (r', uv') := hf
      unfold f_X5_nextChoice_B2 at hf
      refine lv_iload_n hx hb dX5_nextChoice_2 rfl (lv_at hl 2 rfl) ?_
      refine lv_bipush (v := 8) hx hb dX5_nextChoice_3 (by decide) ?_
      refine lv_icmp_ge (tgt := 70) hx hb dX5_nextChoice_5 (by decide) (fun c4 => ?_) (fun c4 => ?_)
      · replace hf := if_t c4 hf
        refine lv_iconst (v := 0) hx hb dX5_nextChoice_70 (by decide) ?_
        have hz := Option.some.inj hf
        have z0 := (Prod.mk.inj hz).1
        replace hz := (Prod.mk.inj hz).2
        have z1 := hz
        exact x_zret hx hb hr hlk hK hG (by decide) z0 (by rw [z1]) dX5_nextChoice_71
      · replace hf := if_f c4 hf
        refine lv_aload_n hx hb dX5_nextChoice_8 rfl (lv_at hl 0 rfl) ?_
        refine x_get (C := RX5) (T := TX5) (N := 27) (ci := 5) hx hb hts iX5 hown hK hG 0 rfl rfl 20 (by decide) k60 (v := .ref (a 17)) rfl dX5_nextChoice_9 ?_
        refine lv_iload_n hx hb dX5_nextChoice_12 rfl (lv_at hl 2 rfl) ?_
        obtain ⟨v5, ev5, hin, hf⟩ := ck_e hf
        refine x_iald hx hb hK hG 17 rfl ev5 hin dX5_nextChoice_13 ?_
        refine lv_iconst (v := (-1)) hx hb dX5_nextChoice_14 (by decide) ?_
        refine lv_icmp_eq (tgt := 64) hx hb dX5_nextChoice_15 (by decide) (fun c6 => ?_) (fun c6 => ?_)
        · replace hf := if_t c6 hf
          exact L64 (f_X5_nextChoice_2 n) ih  x2 x3 uv hf H locs ls hG (lv_sub hl [0, 1, 2] rfl)
        · replace hf := if_f c6 hf
          refine lv_aload_n hx hb dX5_nextChoice_18 rfl (lv_at hl 0 rfl) ?_
          refine lv_iload_n hx hb dX5_nextChoice_19 rfl (lv_at hl 2 rfl) ?_
          refine lv_aload_n hx hb dX5_nextChoice_20 rfl (lv_at hl 0 rfl) ?_
          refine x_get (C := RX5) (T := TX5) (N := 27) (ci := 5) hx hb hts iX5 hown hK hG 0 rfl rfl 20 (by decide) k60 (v := .ref (a 17)) rfl dX5_nextChoice_21 ?_
          refine lv_iload_n hx hb dX5_nextChoice_24 rfl (lv_at hl 2 rfl) ?_
          obtain ⟨v7, ev7, hin, hf⟩ := ck_e hf
          refine x_iald hx hb hK hG 17 rfl ev7 hin dX5_nextChoice_25 ?_
          refine lv_iload_n hx hb dX5_nextChoice_26 rfl (lv_at hl 1 rfl) ?_
          obtain ⟨r8, q9, hf⟩ := cl1_e hf
          refine x_callVi (pre := ([] : va_W)) (wc := WM κ a uv) (wc1 := WM κ a uv) (post := ([] : va_W)) (As := [.int x3, .int v7, .int x2]) (rest := []) (w1 := WM κ a uv) ⟨hx, hb, hml, hown, hts⟩ hK hG hA (by simp only [List.append_assoc, List.nil_append, List.append_nil]) (by simp only [List.append_assoc, List.nil_append, List.append_nil]) (c_X5_nextTo l D κ a H.size x3 v7 x2 uv r8 q9) (cwV 3 hts gX5_nextChoice_X5_nextTo rfl rfl rfl (by decide +kernel) ⟨Nat.le_of_ble_eq_true rfl, Nat.le_of_ble_eq_true rfl⟩) 0 5 rfl rfl rfl rfl hl.1 rfl (Nat.le_of_ble_eq_true rfl) dX5_nextChoice_27 ⟨Nat.zero_le _, Nat.zero_le _⟩ (fun H locs hG => ?_)
          refine lv_istore (lv' := [(4, .int r8), (0, .ref (a 0)), (2, .int x2), (3, .int x3)]) hx hb dX5_nextChoice_30 hl (by decide) rfl (fun ls hl => ?_)
          refine lv_aload_n hx hb dX5_nextChoice_32 rfl (lv_at hl 1 rfl) ?_
          refine x_get (C := RX5) (T := TX5) (N := 27) (ci := 5) hx hb hts iX5 hown hK hG 0 rfl rfl 20 (by decide) k60 (v := .ref (a 17)) rfl dX5_nextChoice_33 ?_
          refine lv_iload_n hx hb dX5_nextChoice_36 rfl (lv_at hl 3 rfl) ?_
          refine lv_iload hx hb dX5_nextChoice_37 (lv_at hl 0 rfl) ?_
          refine lv_iconst (v := (-1)) hx hb dX5_nextChoice_39 (by decide) ?_
          refine lv_icmp_ne (tgt := 53) hx hb dX5_nextChoice_40 (by decide) (fun c10 => ?_) (fun c10 => ?_)
          · replace hf := if_f c10 hf
            refine lv_iload hx hb dX5_nextChoice_53 (lv_at hl 0 rfl) ?_
            exact L55 (f_X5_nextChoice_2 n) ih  x2 x3 r8 x3 r8 uv hf H locs ls hG (lv_sub hl [1, 2, 3, 0] rfl)
          · replace hf := if_t c10 hf
            refine lv_aload_n hx hb dX5_nextChoice_43 rfl (lv_at hl 1 rfl) ?_
            refine lv_iload_n hx hb dX5_nextChoice_44 rfl (lv_at hl 3 rfl) ?_
            refine lv_iconst (v := (-1)) hx hb dX5_nextChoice_45 (by decide) ?_
            refine lv_iload_n hx hb dX5_nextChoice_46 rfl (lv_at hl 2 rfl) ?_
            obtain ⟨r11, q12, hf⟩ := cl1_e hf
            refine x_callVi (pre := ([] : va_W)) (wc := WM κ a uv) (wc1 := WM κ a uv) (post := ([] : va_W)) (As := [.int x3, .int ((-1)), .int x2]) (rest := [.int x3, .ref (a 17)]) (w1 := WM κ a uv) ⟨hx, hb, hml, hown, hts⟩ hK hG hA (by simp only [List.append_assoc, List.nil_append, List.append_nil]) (by simp only [List.append_assoc, List.nil_append, List.append_nil]) (c_X5_nextTo l D κ a H.size x3 ((-1)) x2 uv r11 q12) (cwV 3 hts gX5_nextChoice_X5_nextTo rfl rfl rfl (by decide +kernel) ⟨Nat.le_of_ble_eq_true rfl, Nat.le_of_ble_eq_true rfl⟩) 0 5 rfl rfl rfl rfl hl.1 rfl (Nat.le_of_ble_eq_true rfl) dX5_nextChoice_47 ⟨Nat.zero_le _, Nat.zero_le _⟩ (fun H locs hG => ?_)
            refine lv_goto (tgt := 55) hx hb dX5_nextChoice_50 (by decide) ?_
            exact L55 (f_X5_nextChoice_2 n) ih  x2 x3 r8 x3 r11 uv hf H locs ls hG (lv_sub hl [1, 2, 3, 0] rfl)
  unfold f_X5_nextChoice at hf
  refine lv_iconst (v := 0) hx hb dX5_nextChoice_0 (by decide) ?_
  refine lv_istore_n (lv' := [(3, .int 0), (0, .ref (a 0)), (1, .int p1), (2, .int p2)]) hx hb dX5_nextChoice_1 rfl hl (by decide) rfl (fun ls hl => ?_)
  exact L2  FU p2 0 uv hf H locs ls hG (lv_sub hl [1, 3, 0] rfl)
set_option maxRecDepth 100000 in
set_option maxHeartbeats 4000000 in
theorem c_X5_isTree (l : Launch) (D : va_G) (κ : Nat → ClassId) (a : Nat → Nat) (sz : Nat) (p1 : Int32) (uv : MS) (r' : Int32) (uv' : MS) (hf : f_X5_isTree p1 uv = some (r', uv')) : Met l yX5_isTree wsX5_isTree ({ frames := 0, cells := 0, slots := 0, locals := 0 } : Room) (xPc D κ [.ref (a 0), .int p1] (WM κ a uv) sz) (xQi D κ r' (WM κ a uv') (va_A (WM κ a uv) sz)) 0 0 (va_A (WM κ a uv) sz) := by
  refine x_ofW (cc := cX5_isTree) (maxL := 5) (ret := (some .boolean)) (Qf := fun A => xQi D κ r' (WM κ a uv') A) (by decide) rfl (Nat.le_of_ble_eq_true rfl) ?_
  intro p e s m below meth c hx hb hr hlk hml hown hts hK A hA H locs hG ls hl
  have hown : s.vm.findClass RX5 = some m.cls := hown
  have hl : lv_has ls 5 [(0, .ref (a 0)), (1, .int p1)] := hl
  have iX5 : ∀ w ∈ u_ws RX5 TX5 27, w ∈ wsX5_isTree := fun _ h => List.mem_cons_of_mem _ (List.mem_append_right _ h)
  have k13 := hts (.fieldLink RX5 13 "SpineDesksModel" "row" "[I") (List.mem_of_getElem? (i := 4) rfl)
  have k262 := hts (.fieldLink RX5 262 "SpineDesksModel" "treeOutCost" "I") (List.mem_of_getElem? (i := 1) rfl)
  have k265 := hts (.fieldLink RX5 265 "SpineDesksModel" "treeOutArcs" "I") (List.mem_of_getElem? (i := 2) rfl)
  have k60 := hts (.fieldLink RX5 60 "SpineDesksModel" "byArc" "[I") (List.mem_of_getElem? (i := 3) rfl)
  have L119 : ∀ (rec12 : Int32 → Int32 → MS → Option (Int32 × MS)) (hr12 : ∀ (y1 : Int32) (y2 : Int32) (uv : MS), rec12 y1 y2 uv = some (r', uv') → ∀ (H : Heap) (locs : List Loc) (ls : Array Slot), xG D A s.heap (WM κ a uv) H locs → lv_has ls 5 [(0, .ref (a 0)), (1, .int y1), (2, .int y2)] → W p l e ({ frames := 0, cells := 0, slots := 0, locals := 0 } : Room) s m (([.ref (a 0), .int p1] : List Value).toArray) below meth c H locs 0 0 (MQ below (xQi D κ r' (WM κ a uv') A) (([.ref (a 0), .int p1] : List Value).toArray) s 0 0 A) (F0 m 12 ls [])), ∀ (x1 : Int32) (x2 : Int32) (uv : MS), f_X5_isTree_119 rec12 x1 x2 uv = some (r', uv') → ∀ (H : Heap) (locs : List Loc) (ls : Array Slot), xG D A s.heap (WM κ a uv) H locs → lv_has ls 5 [(0, .ref (a 0)), (1, .int x1), (2, .int x2)] → W p l e ({ frames := 0, cells := 0, slots := 0, locals := 0 } : Room) s m (([.ref (a 0), .int p1] : List Value).toArray) below meth c H locs 0 0 (MQ below (xQi D κ r' (WM κ a uv') A) (([.ref (a 0), .int p1] : List Value).toArray) s 0 0 A) (F0 m 119 ls []) := by
    intro rec12 hr12 x1 x2 uv hf H locs ls hG hl
    unfold f_X5_isTree_119 at hf
    obtain ⟨y1, ey1, hf⟩ := bnd_e hf
    refine lv_iinc (v := y1) (lv' := [(2, .int y1), (0, .ref (a 0)), (1, .int x1)]) hx hb dX5_isTree_119 hl (k := 2) rfl (by rw [ey1]; rfl) (by decide) rfl (fun ls hl => ?_)
    refine lv_goto (tgt := 12) hx hb dX5_isTree_122 (by decide) ?_
    exact hr12 x1 y1 uv hf H locs ls hG (lv_sub hl [1, 2, 0] rfl)
  have L112 : ∀ (rec12 : Int32 → Int32 → MS → Option (Int32 × MS)) (hr12 : ∀ (y1 : Int32) (y2 : Int32) (uv : MS), rec12 y1 y2 uv = some (r', uv') → ∀ (H : Heap) (locs : List Loc) (ls : Array Slot), xG D A s.heap (WM κ a uv) H locs → lv_has ls 5 [(0, .ref (a 0)), (1, .int y1), (2, .int y2)] → W p l e ({ frames := 0, cells := 0, slots := 0, locals := 0 } : Room) s m (([.ref (a 0), .int p1] : List Value).toArray) below meth c H locs 0 0 (MQ below (xQi D κ r' (WM κ a uv') A) (([.ref (a 0), .int p1] : List Value).toArray) s 0 0 A) (F0 m 12 ls [])), ∀ (x1 : Int32) (x2 : Int32) (x3 : Int32) (uv : MS), f_X5_isTree_112 rec12 x1 x2 x3 uv = some (r', uv') → ∀ (H : Heap) (locs : List Loc) (ls : Array Slot), xG D A s.heap (WM κ a uv) H locs → lv_has ls 5 [(0, .ref (a 0)), (1, .int x1), (2, .int x2), (3, .int x3)] → W p l e ({ frames := 0, cells := 0, slots := 0, locals := 0 } : Room) s m (([.ref (a 0), .int p1] : List Value).toArray) below meth c H locs 0 0 (MQ below (xQi D κ r' (WM κ a uv') A) (([.ref (a 0), .int p1] : List Value).toArray) s 0 0 A) (F0 m 112 ls []) := by
    intro rec12 hr12 x1 x2 x3 uv hf H locs ls hG hl
    unfold f_X5_isTree_112 at hf
    refine lv_iload_n hx hb dX5_isTree_112 rfl (lv_at hl 3 rfl) ?_
    refine lv_iload_n hx hb dX5_isTree_113 rfl (lv_at hl 1 rfl) ?_
    refine lv_icmp_eq (tgt := 119) hx hb dX5_isTree_114 (by decide) (fun c2 => ?_) (fun c2 => ?_)
    · replace hf := if_t c2 hf
      exact L119 rec12 hr12  x1 x2 uv hf H locs ls hG (lv_sub hl [0, 1, 2] rfl)
    · replace hf := if_f c2 hf
      refine lv_iconst (v := 0) hx hb dX5_isTree_117 (by decide) ?_
      have hz := Option.some.inj hf
      have z0 := (Prod.mk.inj hz).1
      replace hz := (Prod.mk.inj hz).2
      have z1 := hz
      exact x_zret hx hb hr hlk hK hG (by decide) z0 (by rw [z1]) dX5_isTree_118
  have L77 : ∀ (rec12 : Int32 → Int32 → MS → Option (Int32 × MS)) (hr12 : ∀ (y1 : Int32) (y2 : Int32) (uv : MS), rec12 y1 y2 uv = some (r', uv') → ∀ (H : Heap) (locs : List Loc) (ls : Array Slot), xG D A s.heap (WM κ a uv) H locs → lv_has ls 5 [(0, .ref (a 0)), (1, .int y1), (2, .int y2)] → W p l e ({ frames := 0, cells := 0, slots := 0, locals := 0 } : Room) s m (([.ref (a 0), .int p1] : List Value).toArray) below meth c H locs 0 0 (MQ below (xQi D κ r' (WM κ a uv') A) (([.ref (a 0), .int p1] : List Value).toArray) s 0 0 A) (F0 m 12 ls [])), ∀ (n : Nat), ∀ (x1 : Int32) (x2 : Int32) (x3 : Int32) (x4 : Int32) (uv : MS), f_X5_isTree_77 rec12 n x1 x2 x3 x4 uv = some (r', uv') → ∀ (H : Heap) (locs : List Loc) (ls : Array Slot), xG D A s.heap (WM κ a uv) H locs → lv_has ls 5 [(0, .ref (a 0)), (1, .int x1), (2, .int x2), (3, .int x3), (4, .int x4)] → W p l e ({ frames := 0, cells := 0, slots := 0, locals := 0 } : Room) s m (([.ref (a 0), .int p1] : List Value).toArray) below meth c H locs 0 0 (MQ below (xQi D κ r' (WM κ a uv') A) (([.ref (a 0), .int p1] : List Value).toArray) s 0 0 A) (F0 m 77 ls []) := by
    intro rec12 hr12 n
    induction n with
    | zero => intro x1 x2 x3 x4 uv hf; cases hf
    | succ n ih =>
      intro x1 x2 x3 x4 uv hf H locs ls hG hl
      replace hf : f_X5_isTree_B77 rec12 (f_X5_isTree_77 rec12 n) x1 x2 x3 x4 uv = some (r', uv') := hf
      unfold f_X5_isTree_B77 at hf
      refine lv_iload hx hb dX5_isTree_77 (lv_at hl 4 rfl) ?_
      refine lv_bipush (v := 8) hx hb dX5_isTree_79 (by decide) ?_
      refine lv_icmp_ge (tgt := 112) hx hb dX5_isTree_81 (by decide) (fun c3 => ?_) (fun c3 => ?_)
      · replace hf := if_t c3 hf
        exact L112 rec12 hr12  x1 x2 x3 uv hf H locs ls hG (lv_sub hl [0, 1, 2, 3] rfl)
      · replace hf := if_f c3 hf
        refine lv_iload_n hx hb dX5_isTree_84 rfl (lv_at hl 3 rfl) ?_
        refine lv_iload_n hx hb dX5_isTree_85 rfl (lv_at hl 1 rfl) ?_
        refine lv_icmp_eq (tgt := 112) hx hb dX5_isTree_86 (by decide) (fun c4 => ?_) (fun c4 => ?_)
        · replace hf := if_t c4 hf
          exact L112 rec12 hr12  x1 x2 x3 uv hf H locs ls hG (lv_sub hl [0, 1, 2, 3] rfl)
        · replace hf := if_f c4 hf
          refine lv_aload_n hx hb dX5_isTree_89 rfl (lv_at hl 0 rfl) ?_
          refine x_get (C := RX5) (T := TX5) (N := 27) (ci := 5) hx hb hts iX5 hown hK hG 0 rfl rfl 2 (by decide) k13 (v := .ref (a 2)) rfl dX5_isTree_90 ?_
          refine lv_bipush (v := 10) hx hb dX5_isTree_93 (by decide) ?_
          refine lv_iconst (v := 3) hx hb dX5_isTree_95 (by decide) ?_
          refine lv_aload_n hx hb dX5_isTree_96 rfl (lv_at hl 0 rfl) ?_
          refine x_get (C := RX5) (T := TX5) (N := 27) (ci := 5) hx hb hts iX5 hown hK hG 0 rfl rfl 20 (by decide) k60 (v := .ref (a 17)) rfl dX5_isTree_97 ?_
          refine lv_iload_n hx hb dX5_isTree_100 rfl (lv_at hl 3 rfl) ?_
          obtain ⟨v5, ev5, hin, hf⟩ := ck_e hf
          refine x_iald hx hb hK hG 17 rfl ev5 hin dX5_isTree_101 ?_
          refine lv_imul hx hb dX5_isTree_102 ?_
          refine lv_iadd hx hb dX5_isTree_103 ?_
          obtain ⟨v6, ev6, hin, hf⟩ := ck_e hf
          refine x_iald hx hb hK hG 2 rfl ev6 hin dX5_isTree_104 ?_
          refine lv_istore_n (lv' := [(3, .int v6), (0, .ref (a 0)), (1, .int x1), (2, .int x2), (4, .int x4)]) hx hb dX5_isTree_105 rfl hl (by decide) rfl (fun ls hl => ?_)
          obtain ⟨y7, ey7, hf⟩ := bnd_e hf
          refine lv_iinc (v := y7) (lv' := [(4, .int y7), (3, .int v6), (0, .ref (a 0)), (1, .int x1), (2, .int x2)]) hx hb dX5_isTree_106 hl (k := 4) rfl (by rw [ey7]; rfl) (by decide) rfl (fun ls hl => ?_)
          refine lv_goto (tgt := 77) hx hb dX5_isTree_109 (by decide) ?_
          exact ih x1 x2 v6 y7 uv hf H locs ls hG (lv_sub hl [2, 3, 4, 1, 0] rfl)
  have L12 : ∀ (n : Nat), ∀ (x1 : Int32) (x2 : Int32) (uv : MS), f_X5_isTree_12 n x1 x2 uv = some (r', uv') → ∀ (H : Heap) (locs : List Loc) (ls : Array Slot), xG D A s.heap (WM κ a uv) H locs → lv_has ls 5 [(0, .ref (a 0)), (1, .int x1), (2, .int x2)] → W p l e ({ frames := 0, cells := 0, slots := 0, locals := 0 } : Room) s m (([.ref (a 0), .int p1] : List Value).toArray) below meth c H locs 0 0 (MQ below (xQi D κ r' (WM κ a uv') A) (([.ref (a 0), .int p1] : List Value).toArray) s 0 0 A) (F0 m 12 ls []) := by
    intro  n
    induction n with
    | zero => intro x1 x2 uv hf; cases hf
    | succ n ih =>
      intro x1 x2 uv hf H locs ls hG hl
      replace hf : f_X5_isTree_B12 (f_X5_isTree_12 n) x1 x2 uv = some (r', uv') := hf
      unfold f_X5_isTree_B12 at hf
      refine lv_iload_n hx hb dX5_isTree_12 rfl (lv_at hl 2 rfl) ?_
      refine lv_bipush (v := 8) hx hb dX5_isTree_13 (by decide) ?_
      refine lv_icmp_ge (tgt := 125) hx hb dX5_isTree_15 (by decide) (fun c8 => ?_) (fun c8 => ?_)
      · replace hf := if_t c8 hf
        refine lv_iconst (v := 1) hx hb dX5_isTree_125 (by decide) ?_
        have hz := Option.some.inj hf
        have z0 := (Prod.mk.inj hz).1
        replace hz := (Prod.mk.inj hz).2
        have z1 := hz
        exact x_zret hx hb hr hlk hK hG (by decide) z0 (by rw [z1]) dX5_isTree_126
      · replace hf := if_f c8 hf
        refine lv_aload_n hx hb dX5_isTree_18 rfl (lv_at hl 0 rfl) ?_
        refine x_get (C := RX5) (T := TX5) (N := 27) (ci := 5) hx hb hts iX5 hown hK hG 0 rfl rfl 20 (by decide) k60 (v := .ref (a 17)) rfl dX5_isTree_19 ?_
        refine lv_iload_n hx hb dX5_isTree_22 rfl (lv_at hl 2 rfl) ?_
        obtain ⟨v9, ev9, hin, hf⟩ := ck_e hf
        refine x_iald hx hb hK hG 17 rfl ev9 hin dX5_isTree_23 ?_
        refine lv_iconst (v := (-1)) hx hb dX5_isTree_24 (by decide) ?_
        refine lv_icmp_eq (tgt := 119) hx hb dX5_isTree_25 (by decide) (fun c10 => ?_) (fun c10 => ?_)
        · replace hf := if_t c10 hf
          exact L119 (f_X5_isTree_12 n) ih  x1 x2 uv hf H locs ls hG (lv_sub hl [0, 1, 2] rfl)
        · replace hf := if_f c10 hf
          refine lv_aload_n hx hb dX5_isTree_28 rfl (lv_at hl 0 rfl) ?_
          refine lv_dup hx hb dX5_isTree_29 rfl ?_
          refine x_get (C := RX5) (T := TX5) (N := 27) (ci := 5) hx hb hts iX5 hown hK hG 0 rfl rfl 21 (by decide) k262 (v := .int (uv.treeOutCost)) rfl dX5_isTree_30 ?_
          refine lv_aload_n hx hb dX5_isTree_33 rfl (lv_at hl 0 rfl) ?_
          refine x_get (C := RX5) (T := TX5) (N := 27) (ci := 5) hx hb hts iX5 hown hK hG 0 rfl rfl 2 (by decide) k13 (v := .ref (a 2)) rfl dX5_isTree_34 ?_
          refine lv_bipush (v := 10) hx hb dX5_isTree_37 (by decide) ?_
          refine lv_iconst (v := 3) hx hb dX5_isTree_39 (by decide) ?_
          refine lv_aload_n hx hb dX5_isTree_40 rfl (lv_at hl 0 rfl) ?_
          refine x_get (C := RX5) (T := TX5) (N := 27) (ci := 5) hx hb hts iX5 hown hK hG 0 rfl rfl 20 (by decide) k60 (v := .ref (a 17)) rfl dX5_isTree_41 ?_
          refine lv_iload_n hx hb dX5_isTree_44 rfl (lv_at hl 2 rfl) ?_
          obtain ⟨v11, ev11, hin, hf⟩ := ck_e hf
          refine x_iald hx hb hK hG 17 rfl ev11 hin dX5_isTree_45 ?_
          refine lv_imul hx hb dX5_isTree_46 ?_
          refine lv_iadd hx hb dX5_isTree_47 ?_
          refine lv_iconst (v := 2) hx hb dX5_isTree_48 (by decide) ?_
          refine lv_iadd hx hb dX5_isTree_49 ?_
          obtain ⟨v12, ev12, hin, hf⟩ := ck_e hf
          refine x_iald hx hb hK hG 2 rfl ev12 hin dX5_isTree_50 ?_
          refine lv_iadd hx hb dX5_isTree_51 ?_
          obtain ⟨uv13, euv13, hf⟩ := bnd_e hf
          refine x_put (C := RX5) (T := TX5) (N := 27) (ci := 5) hx hb hts iX5 tyX5 tyX5_ok nmX5 hown hK hG 0 rfl rfl 21 (by decide) k262 rfl (ty := .int) (v := .int ((uv.treeOutCost) + v12)) rfl rfl rfl (Nat.le_of_ble_eq_true rfl) (w1 := WM κ a uv13) (by rw [euv13]; rfl) dX5_isTree_52 (fun H locs hG => ?_)
          refine lv_aload_n hx hb dX5_isTree_55 rfl (lv_at hl 0 rfl) ?_
          refine lv_dup hx hb dX5_isTree_56 rfl ?_
          refine x_get (C := RX5) (T := TX5) (N := 27) (ci := 5) hx hb hts iX5 hown hK hG 0 rfl rfl 22 (by decide) k265 (v := .int (uv13.treeOutArcs)) rfl dX5_isTree_57 ?_
          refine lv_iconst (v := 1) hx hb dX5_isTree_60 (by decide) ?_
          refine lv_aload_n hx hb dX5_isTree_61 rfl (lv_at hl 0 rfl) ?_
          refine x_get (C := RX5) (T := TX5) (N := 27) (ci := 5) hx hb hts iX5 hown hK hG 0 rfl rfl 20 (by decide) k60 (v := .ref (a 17)) rfl dX5_isTree_62 ?_
          refine lv_iload_n hx hb dX5_isTree_65 rfl (lv_at hl 2 rfl) ?_
          obtain ⟨v14, ev14, hin, hf⟩ := ck_e hf
          refine x_iald hx hb hK hG 17 rfl ev14 hin dX5_isTree_66 ?_
          refine lv_ishl hx hb dX5_isTree_67 ?_
          refine lv_ior hx hb dX5_isTree_68 ?_
          obtain ⟨uv15, euv15, hf⟩ := bnd_e hf
          refine x_put (C := RX5) (T := TX5) (N := 27) (ci := 5) hx hb hts iX5 tyX5 tyX5_ok nmX5 hown hK hG 0 rfl rfl 22 (by decide) k265 rfl (ty := .int) (v := .int ((uv13.treeOutArcs) ||| (1 <<< (v14 &&& 31)))) rfl rfl rfl (Nat.le_of_ble_eq_true rfl) (w1 := WM κ a uv15) (by rw [euv15]; rfl) dX5_isTree_69 (fun H locs hG => ?_)
          refine lv_iload_n hx hb dX5_isTree_72 rfl (lv_at hl 2 rfl) ?_
          refine lv_istore_n (lv' := [(3, .int x2), (0, .ref (a 0)), (1, .int x1), (2, .int x2)]) hx hb dX5_isTree_73 rfl hl (by decide) rfl (fun ls hl => ?_)
          refine lv_iconst (v := 0) hx hb dX5_isTree_74 (by decide) ?_
          refine lv_istore (lv' := [(4, .int 0), (3, .int x2), (0, .ref (a 0)), (1, .int x1), (2, .int x2)]) hx hb dX5_isTree_75 hl (by decide) rfl (fun ls hl => ?_)
          exact L77 (f_X5_isTree_12 n) ih FU x1 x2 x2 0 uv15 hf H locs ls hG (lv_sub hl [2, 3, 4, 1, 0] rfl)
  unfold f_X5_isTree at hf
  refine lv_aload_n hx hb dX5_isTree_0 rfl (lv_at hl 0 rfl) ?_
  refine lv_iconst (v := 0) hx hb dX5_isTree_1 (by decide) ?_
  obtain ⟨uv16, euv16, hf⟩ := bnd_e hf
  refine x_put (C := RX5) (T := TX5) (N := 27) (ci := 5) hx hb hts iX5 tyX5 tyX5_ok nmX5 hown hK hG 0 rfl rfl 21 (by decide) k262 rfl (ty := .int) (v := .int 0) rfl rfl rfl (Nat.le_of_ble_eq_true rfl) (w1 := WM κ a uv16) (by rw [euv16]; rfl) dX5_isTree_2 (fun H locs hG => ?_)
  refine lv_aload_n hx hb dX5_isTree_5 rfl (lv_at hl 0 rfl) ?_
  refine lv_iconst (v := 0) hx hb dX5_isTree_6 (by decide) ?_
  obtain ⟨uv17, euv17, hf⟩ := bnd_e hf
  refine x_put (C := RX5) (T := TX5) (N := 27) (ci := 5) hx hb hts iX5 tyX5 tyX5_ok nmX5 hown hK hG 0 rfl rfl 22 (by decide) k265 rfl (ty := .int) (v := .int 0) rfl rfl rfl (Nat.le_of_ble_eq_true rfl) (w1 := WM κ a uv17) (by rw [euv17]; rfl) dX5_isTree_7 (fun H locs hG => ?_)
  refine lv_iconst (v := 0) hx hb dX5_isTree_10 (by decide) ?_
  refine lv_istore_n (lv' := [(2, .int 0), (0, .ref (a 0)), (1, .int p1)]) hx hb dX5_isTree_11 rfl hl (by decide) rfl (fun ls hl => ?_)
  exact L12  FU p1 0 uv17 hf H locs ls hG (lv_sub hl [1, 2, 0] rfl)
set_option maxRecDepth 100000 in
set_option maxHeartbeats 4000000 in
theorem c_X5_isAhead (l : Launch) (D : va_G) (κ : Nat → ClassId) (a : Nat → Nat) (sz : Nat) (p1 : Int32) (p2 : Int32) (uv : MS) (r' : Int32)  (hf : f_X5_isAhead p1 p2 uv = some (r')) : Met l yX5_isAhead wsX5_isAhead ({ frames := 0, cells := 0, slots := 0, locals := 0 } : Room) (xPc D κ [.ref (a 0), .int p1, .int p2] (WM κ a uv) sz) (xQi D κ r' (WM κ a uv) (va_A (WM κ a uv) sz)) 0 0 (va_A (WM κ a uv) sz) := by
  refine x_ofW (cc := cX5_isAhead) (maxL := 3) (ret := (some .boolean)) (Qf := fun A => xQi D κ r' (WM κ a uv) A) (by decide) rfl (Nat.le_of_ble_eq_true rfl) ?_
  intro p e s m below meth c hx hb hr hlk hml hown hts hK A hA H locs hG ls hl
  have hown : s.vm.findClass RX5 = some m.cls := hown
  have hl : lv_has ls 3 [(0, .ref (a 0)), (1, .int p1), (2, .int p2)] := hl
  have iX5 : ∀ w ∈ u_ws RX5 TX5 27, w ∈ wsX5_isAhead := fun _ h => List.mem_cons_of_mem _ (List.mem_append_right _ h)
  have k262 := hts (.fieldLink RX5 262 "SpineDesksModel" "treeOutCost" "I") (List.mem_of_getElem? (i := 1) rfl)
  have k265 := hts (.fieldLink RX5 265 "SpineDesksModel" "treeOutArcs" "I") (List.mem_of_getElem? (i := 2) rfl)
  unfold f_X5_isAhead at hf
  refine lv_aload_n hx hb dX5_isAhead_0 rfl (lv_at hl 0 rfl) ?_
  refine x_get (C := RX5) (T := TX5) (N := 27) (ci := 5) hx hb hts iX5 hown hK hG 0 rfl rfl 21 (by decide) k262 (v := .int (uv.treeOutCost)) rfl dX5_isAhead_1 ?_
  refine lv_iload_n hx hb dX5_isAhead_4 rfl (lv_at hl 1 rfl) ?_
  refine lv_icmp_lt (tgt := 24) hx hb dX5_isAhead_5 (by decide) (fun c1 => ?_) (fun c1 => ?_)
  · replace hf := if_t c1 hf
    refine lv_iconst (v := 1) hx hb dX5_isAhead_24 (by decide) ?_
    refine lv_goto (tgt := 29) hx hb dX5_isAhead_25 (by decide) ?_
    have z0 := Option.some.inj hf
    exact x_zret hx hb hr hlk hK hG (by decide) z0 rfl dX5_isAhead_29
  · replace hf := if_f c1 hf
    refine lv_aload_n hx hb dX5_isAhead_8 rfl (lv_at hl 0 rfl) ?_
    refine x_get (C := RX5) (T := TX5) (N := 27) (ci := 5) hx hb hts iX5 hown hK hG 0 rfl rfl 21 (by decide) k262 (v := .int (uv.treeOutCost)) rfl dX5_isAhead_9 ?_
    refine lv_iload_n hx hb dX5_isAhead_12 rfl (lv_at hl 1 rfl) ?_
    refine lv_icmp_ne (tgt := 28) hx hb dX5_isAhead_13 (by decide) (fun c2 => ?_) (fun c2 => ?_)
    · replace hf := if_f c2 hf
      refine lv_iconst (v := 0) hx hb dX5_isAhead_28 (by decide) ?_
      have z0 := Option.some.inj hf
      exact x_zret hx hb hr hlk hK hG (by decide) z0 rfl dX5_isAhead_29
    · replace hf := if_t c2 hf
      refine lv_aload_n hx hb dX5_isAhead_16 rfl (lv_at hl 0 rfl) ?_
      refine x_get (C := RX5) (T := TX5) (N := 27) (ci := 5) hx hb hts iX5 hown hK hG 0 rfl rfl 22 (by decide) k265 (v := .int (uv.treeOutArcs)) rfl dX5_isAhead_17 ?_
      refine lv_iload_n hx hb dX5_isAhead_20 rfl (lv_at hl 2 rfl) ?_
      refine lv_icmp_ge (tgt := 28) hx hb dX5_isAhead_21 (by decide) (fun c3 => ?_) (fun c3 => ?_)
      · replace hf := if_t c3 hf
        refine lv_iconst (v := 0) hx hb dX5_isAhead_28 (by decide) ?_
        have z0 := Option.some.inj hf
        exact x_zret hx hb hr hlk hK hG (by decide) z0 rfl dX5_isAhead_29
      · replace hf := if_f c3 hf
        refine lv_iconst (v := 1) hx hb dX5_isAhead_24 (by decide) ?_
        refine lv_goto (tgt := 29) hx hb dX5_isAhead_25 (by decide) ?_
        have z0 := Option.some.inj hf
        exact x_zret hx hb hr hlk hK hG (by decide) z0 rfl dX5_isAhead_29
set_option maxRecDepth 100000 in
set_option maxHeartbeats 4000000 in
theorem c_X5_findBest (l : Launch) (D : va_G) (κ : Nat → ClassId) (a : Nat → Nat) (sz : Nat) (p1 : Int32) (p2 : Int32) (p3 : Int32) (uv : MS)  (uv' : MS) (hf : f_X5_findBest p1 p2 p3 uv = some (uv')) : Met l yX5_findBest wsX5_findBest ({ frames := 4, cells := 0, slots := 0, locals := 94 } : Room) (xPc D κ [.ref (a 0), .int p1, .int p2, .int p3] (WM κ a uv) sz) (xQv D κ (WM κ a uv') (va_A (WM κ a uv) sz)) 0 0 (va_A (WM κ a uv) sz) := by
  refine x_ofW (cc := cX5_findBest) (maxL := 5) (ret := none) (Qf := fun A => xQv D κ (WM κ a uv') A) (by decide) rfl (Nat.le_of_ble_eq_true rfl) ?_
  intro p e s m below meth c hx hb hr hlk hml hown hts hK A hA H locs hG ls hl
  have hown : s.vm.findClass RX5 = some m.cls := hown
  have hl : lv_has ls 5 [(0, .ref (a 0)), (1, .int p1), (2, .int p2), (3, .int p3)] := hl
  have iX5 : ∀ w ∈ u_ws RX5 TX5 27, w ∈ wsX5_findBest := fun _ h => List.mem_cons_of_mem _ (List.mem_append_right _ h)
  have k262 := hts (.fieldLink RX5 262 "SpineDesksModel" "treeOutCost" "I") (List.mem_of_getElem? (i := 5) rfl)
  have k265 := hts (.fieldLink RX5 265 "SpineDesksModel" "treeOutArcs" "I") (List.mem_of_getElem? (i := 2) rfl)
  have k268 := hts (.fieldLink RX5 268 "SpineDesksModel" "isBest" "Z") (List.mem_of_getElem? (i := 1) rfl)
  have k278 := hts (.fieldLink RX5 278 "SpineDesksModel" "bestCost" "I") (List.mem_of_getElem? (i := 3) rfl)
  have k281 := hts (.fieldLink RX5 281 "SpineDesksModel" "bestArcs" "I") (List.mem_of_getElem? (i := 4) rfl)
  have L78 : ∀ (rec14 : Int32 → Int32 → Int32 → Int32 → MS → Option (MS)) (hr14 : ∀ (y1 : Int32) (y2 : Int32) (y3 : Int32) (y4 : Int32) (uv : MS), rec14 y1 y2 y3 y4 uv = some (uv') → ∀ (H : Heap) (locs : List Loc) (ls : Array Slot), xG D A s.heap (WM κ a uv) H locs → lv_has ls 5 [(0, .ref (a 0)), (1, .int y1), (2, .int y2), (3, .int y3), (4, .int y4)] → W p l e ({ frames := 4, cells := 0, slots := 0, locals := 94 } : Room) s m (([.ref (a 0), .int p1, .int p2, .int p3] : List Value).toArray) below meth c H locs 0 0 (MQ below (xQv D κ (WM κ a uv') A) (([.ref (a 0), .int p1, .int p2, .int p3] : List Value).toArray) s 0 0 A) (F0 m 14 ls [])), ∀ (x1 : Int32) (x2 : Int32) (x3 : Int32) (uv : MS), f_X5_findBest_78 rec14 x1 x2 x3 uv = some (uv') → ∀ (H : Heap) (locs : List Loc) (ls : Array Slot), xG D A s.heap (WM κ a uv) H locs → lv_has ls 5 [(0, .ref (a 0)), (1, .int x1), (2, .int x2), (3, .int x3)] → W p l e ({ frames := 4, cells := 0, slots := 0, locals := 94 } : Room) s m (([.ref (a 0), .int p1, .int p2, .int p3] : List Value).toArray) below meth c H locs 0 0 (MQ below (xQv D κ (WM κ a uv') A) (([.ref (a 0), .int p1, .int p2, .int p3] : List Value).toArray) s 0 0 A) (F0 m 78 ls []) := by
    intro rec14 hr14 x1 x2 x3 uv hf H locs ls hG hl
    unfold f_X5_findBest_78 at hf
    refine lv_aload_n hx hb dX5_findBest_78 rfl (lv_at hl 0 rfl) ?_
    refine lv_iload_n hx hb dX5_findBest_79 rfl (lv_at hl 1 rfl) ?_
    refine lv_iload_n hx hb dX5_findBest_80 rfl (lv_at hl 2 rfl) ?_
    obtain ⟨r1, uv2, q3, hf⟩ := cl2_e hf
    refine x_callVi (pre := ([] : va_W)) (wc := WM κ a uv) (wc1 := WM κ a uv2) (post := ([] : va_W)) (As := [.int x1, .int x2]) (rest := []) (w1 := WM κ a uv2) ⟨hx, hb, hml, hown, hts⟩ hK hG hA (by simp only [List.append_assoc, List.nil_append, List.append_nil]) (by simp only [List.append_assoc, List.nil_append, List.append_nil]) (c_X5_nextChoice l D κ a H.size x1 x2 uv r1 uv2 q3) (cwV 2 hts gX5_findBest_X5_nextChoice rfl rfl rfl (by decide +kernel) ⟨Nat.le_of_ble_eq_true rfl, Nat.le_of_ble_eq_true rfl⟩) 0 5 rfl rfl rfl rfl hl.1 rfl (Nat.le_of_ble_eq_true rfl) dX5_findBest_81 ⟨Nat.zero_le _, Nat.zero_le _⟩ (fun H locs hG => ?_)
    refine lv_istore (lv' := [(4, .int r1), (0, .ref (a 0)), (1, .int x1), (2, .int x2), (3, .int x3)]) hx hb dX5_findBest_84 hl (by decide) rfl (fun ls hl => ?_)
    refine lv_goto (tgt := 14) hx hb dX5_findBest_86 (by decide) ?_
    exact hr14 x1 x2 x3 r1 uv2 hf H locs ls hG (lv_sub hl [1, 2, 3, 4, 0] rfl)
  have L57 : ∀ (rec14 : Int32 → Int32 → Int32 → Int32 → MS → Option (MS)) (hr14 : ∀ (y1 : Int32) (y2 : Int32) (y3 : Int32) (y4 : Int32) (uv : MS), rec14 y1 y2 y3 y4 uv = some (uv') → ∀ (H : Heap) (locs : List Loc) (ls : Array Slot), xG D A s.heap (WM κ a uv) H locs → lv_has ls 5 [(0, .ref (a 0)), (1, .int y1), (2, .int y2), (3, .int y3), (4, .int y4)] → W p l e ({ frames := 4, cells := 0, slots := 0, locals := 94 } : Room) s m (([.ref (a 0), .int p1, .int p2, .int p3] : List Value).toArray) below meth c H locs 0 0 (MQ below (xQv D κ (WM κ a uv') A) (([.ref (a 0), .int p1, .int p2, .int p3] : List Value).toArray) s 0 0 A) (F0 m 14 ls [])), ∀ (x1 : Int32) (x2 : Int32) (x3 : Int32) (uv : MS), f_X5_findBest_57 rec14 x1 x2 x3 uv = some (uv') → ∀ (H : Heap) (locs : List Loc) (ls : Array Slot), xG D A s.heap (WM κ a uv) H locs → lv_has ls 5 [(0, .ref (a 0)), (1, .int x1), (2, .int x2), (3, .int x3)] → W p l e ({ frames := 4, cells := 0, slots := 0, locals := 94 } : Room) s m (([.ref (a 0), .int p1, .int p2, .int p3] : List Value).toArray) below meth c H locs 0 0 (MQ below (xQv D κ (WM κ a uv') A) (([.ref (a 0), .int p1, .int p2, .int p3] : List Value).toArray) s 0 0 A) (F0 m 57 ls []) := by
    intro rec14 hr14 x1 x2 x3 uv hf H locs ls hG hl
    unfold f_X5_findBest_57 at hf
    refine lv_aload_n hx hb dX5_findBest_57 rfl (lv_at hl 0 rfl) ?_
    refine lv_aload_n hx hb dX5_findBest_58 rfl (lv_at hl 0 rfl) ?_
    refine x_get (C := RX5) (T := TX5) (N := 27) (ci := 5) hx hb hts iX5 hown hK hG 0 rfl rfl 21 (by decide) k262 (v := .int (uv.treeOutCost)) rfl dX5_findBest_59 ?_
    obtain ⟨uv4, euv4, hf⟩ := bnd_e hf
    refine x_put (C := RX5) (T := TX5) (N := 27) (ci := 5) hx hb hts iX5 tyX5 tyX5_ok nmX5 hown hK hG 0 rfl rfl 24 (by decide) k278 rfl (ty := .int) (v := .int (uv.treeOutCost)) rfl rfl rfl (Nat.le_of_ble_eq_true rfl) (w1 := WM κ a uv4) (by rw [euv4]; rfl) dX5_findBest_62 (fun H locs hG => ?_)
    refine lv_aload_n hx hb dX5_findBest_65 rfl (lv_at hl 0 rfl) ?_
    refine lv_aload_n hx hb dX5_findBest_66 rfl (lv_at hl 0 rfl) ?_
    refine x_get (C := RX5) (T := TX5) (N := 27) (ci := 5) hx hb hts iX5 hown hK hG 0 rfl rfl 22 (by decide) k265 (v := .int (uv4.treeOutArcs)) rfl dX5_findBest_67 ?_
    obtain ⟨uv5, euv5, hf⟩ := bnd_e hf
    refine x_put (C := RX5) (T := TX5) (N := 27) (ci := 5) hx hb hts iX5 tyX5 tyX5_ok nmX5 hown hK hG 0 rfl rfl 25 (by decide) k281 rfl (ty := .int) (v := .int (uv4.treeOutArcs)) rfl rfl rfl (Nat.le_of_ble_eq_true rfl) (w1 := WM κ a uv5) (by rw [euv5]; rfl) dX5_findBest_70 (fun H locs hG => ?_)
    refine lv_aload_n hx hb dX5_findBest_73 rfl (lv_at hl 0 rfl) ?_
    refine lv_iconst (v := 1) hx hb dX5_findBest_74 (by decide) ?_
    obtain ⟨uv6, euv6, hf⟩ := bnd_e hf
    refine x_put (C := RX5) (T := TX5) (N := 27) (ci := 5) hx hb hts iX5 tyX5 tyX5_ok nmX5 hown hK hG 0 rfl rfl 26 (by decide) k268 rfl (ty := .boolean) (v := .int 1) rfl (by decide) (by decide) (Nat.le_of_ble_eq_true rfl) (w1 := WM κ a uv6) (by rw [euv6]; rfl) dX5_findBest_75 (fun H locs hG => ?_)
    exact L78 rec14 hr14  x1 x2 x3 uv6 hf H locs ls hG (lv_sub hl [0, 1, 2, 3] rfl)
  have L14 : ∀ (n : Nat), ∀ (x1 : Int32) (x2 : Int32) (x3 : Int32) (x4 : Int32) (uv : MS), f_X5_findBest_14 n x1 x2 x3 x4 uv = some (uv') → ∀ (H : Heap) (locs : List Loc) (ls : Array Slot), xG D A s.heap (WM κ a uv) H locs → lv_has ls 5 [(0, .ref (a 0)), (1, .int x1), (2, .int x2), (3, .int x3), (4, .int x4)] → W p l e ({ frames := 4, cells := 0, slots := 0, locals := 94 } : Room) s m (([.ref (a 0), .int p1, .int p2, .int p3] : List Value).toArray) below meth c H locs 0 0 (MQ below (xQv D κ (WM κ a uv') A) (([.ref (a 0), .int p1, .int p2, .int p3] : List Value).toArray) s 0 0 A) (F0 m 14 ls []) := by
    intro  n
    induction n with
    | zero => intro x1 x2 x3 x4 uv hf; cases hf
    | succ n ih =>
      intro x1 x2 x3 x4 uv hf H locs ls hG hl
      replace hf : f_X5_findBest_B14 (f_X5_findBest_14 n) x1 x2 x3 x4 uv = some (uv') := hf
      unfold f_X5_findBest_B14 at hf
      refine lv_iload hx hb dX5_findBest_14 (lv_at hl 4 rfl) ?_
      refine lv_if_eq (tgt := 89) hx hb dX5_findBest_16 (by decide) (fun c7 => ?_) (fun c7 => ?_)
      · replace hf := if_t c7 hf
        have z0 := Option.some.inj hf
        exact x_vret hx hb hr hlk hK hG (by rw [z0]) dX5_findBest_89
      · replace hf := if_f c7 hf
        refine lv_aload_n hx hb dX5_findBest_19 rfl (lv_at hl 0 rfl) ?_
        refine lv_iload_n hx hb dX5_findBest_20 rfl (lv_at hl 1 rfl) ?_
        obtain ⟨r8, uv9, q10, hf⟩ := cl2_e hf
        refine x_callVi (pre := ([] : va_W)) (wc := WM κ a uv) (wc1 := WM κ a uv9) (post := ([] : va_W)) (As := [.int x1]) (rest := []) (w1 := WM κ a uv9) ⟨hx, hb, hml, hown, hts⟩ hK hG hA (by simp only [List.append_assoc, List.nil_append, List.append_nil]) (by simp only [List.append_assoc, List.nil_append, List.append_nil]) (c_X5_isTree l D κ a H.size x1 uv r8 uv9 q10) (cwV 1 hts gX5_findBest_X5_isTree rfl rfl rfl (by decide +kernel) ⟨Nat.le_of_ble_eq_true rfl, Nat.le_of_ble_eq_true rfl⟩) 0 5 rfl rfl rfl rfl hl.1 rfl (Nat.le_of_ble_eq_true rfl) dX5_findBest_21 ⟨Nat.zero_le _, Nat.zero_le _⟩ (fun H locs hG => ?_)
        refine lv_if_eq (tgt := 78) hx hb dX5_findBest_24 (by decide) (fun c11 => ?_) (fun c11 => ?_)
        · replace hf := if_t c11 hf
          exact L78 (f_X5_findBest_14 n) ih  x1 x2 x3 uv9 hf H locs ls hG (lv_sub hl [0, 1, 2, 3] rfl)
        · replace hf := if_f c11 hf
          refine lv_aload_n hx hb dX5_findBest_27 rfl (lv_at hl 0 rfl) ?_
          refine x_get (C := RX5) (T := TX5) (N := 27) (ci := 5) hx hb hts iX5 hown hK hG 0 rfl rfl 22 (by decide) k265 (v := .int (uv9.treeOutArcs)) rfl dX5_findBest_28 ?_
          refine lv_iload_n hx hb dX5_findBest_31 rfl (lv_at hl 3 rfl) ?_
          refine lv_icmp_eq (tgt := 78) hx hb dX5_findBest_32 (by decide) (fun c12 => ?_) (fun c12 => ?_)
          · replace hf := if_t c12 hf
            exact L78 (f_X5_findBest_14 n) ih  x1 x2 x3 uv9 hf H locs ls hG (lv_sub hl [0, 1, 2, 3] rfl)
          · replace hf := if_f c12 hf
            refine lv_aload_n hx hb dX5_findBest_35 rfl (lv_at hl 0 rfl) ?_
            refine x_get (C := RX5) (T := TX5) (N := 27) (ci := 5) hx hb hts iX5 hown hK hG 0 rfl rfl 26 (by decide) k268 (v := .int (uv9.isBest)) rfl dX5_findBest_36 ?_
            refine lv_if_eq (tgt := 57) hx hb dX5_findBest_39 (by decide) (fun c13 => ?_) (fun c13 => ?_)
            · replace hf := if_t c13 hf
              exact L57 (f_X5_findBest_14 n) ih  x1 x2 x3 uv9 hf H locs ls hG (lv_sub hl [0, 1, 2, 3] rfl)
            · replace hf := if_f c13 hf
              refine lv_aload_n hx hb dX5_findBest_42 rfl (lv_at hl 0 rfl) ?_
              refine lv_aload_n hx hb dX5_findBest_43 rfl (lv_at hl 0 rfl) ?_
              refine x_get (C := RX5) (T := TX5) (N := 27) (ci := 5) hx hb hts iX5 hown hK hG 0 rfl rfl 24 (by decide) k278 (v := .int (uv9.bestCost)) rfl dX5_findBest_44 ?_
              refine lv_aload_n hx hb dX5_findBest_47 rfl (lv_at hl 0 rfl) ?_
              refine x_get (C := RX5) (T := TX5) (N := 27) (ci := 5) hx hb hts iX5 hown hK hG 0 rfl rfl 25 (by decide) k281 (v := .int (uv9.bestArcs)) rfl dX5_findBest_48 ?_
              obtain ⟨r14, q15, hf⟩ := cl1_e hf
              refine x_callVi (pre := ([] : va_W)) (wc := WM κ a uv9) (wc1 := WM κ a uv9) (post := ([] : va_W)) (As := [.int (uv9.bestCost), .int (uv9.bestArcs)]) (rest := []) (w1 := WM κ a uv9) ⟨hx, hb, hml, hown, hts⟩ hK hG hA (by simp only [List.append_assoc, List.nil_append, List.append_nil]) (by simp only [List.append_assoc, List.nil_append, List.append_nil]) (c_X5_isAhead l D κ a H.size (uv9.bestCost) (uv9.bestArcs) uv9 r14 q15) (cwV 2 hts gX5_findBest_X5_isAhead rfl rfl rfl (by decide +kernel) ⟨Nat.le_of_ble_eq_true rfl, Nat.le_of_ble_eq_true rfl⟩) 0 5 rfl rfl rfl rfl hl.1 rfl (Nat.le_of_ble_eq_true rfl) dX5_findBest_51 ⟨Nat.zero_le _, Nat.zero_le _⟩ (fun H locs hG => ?_)
              refine lv_if_eq (tgt := 78) hx hb dX5_findBest_54 (by decide) (fun c16 => ?_) (fun c16 => ?_)
              · replace hf := if_t c16 hf
                exact L78 (f_X5_findBest_14 n) ih  x1 x2 x3 uv9 hf H locs ls hG (lv_sub hl [0, 1, 2, 3] rfl)
              · replace hf := if_f c16 hf
                exact L57 (f_X5_findBest_14 n) ih  x1 x2 x3 uv9 hf H locs ls hG (lv_sub hl [0, 1, 2, 3] rfl)
  unfold f_X5_findBest at hf
  refine lv_aload_n hx hb dX5_findBest_0 rfl (lv_at hl 0 rfl) ?_
  refine lv_iconst (v := 0) hx hb dX5_findBest_1 (by decide) ?_
  obtain ⟨uv17, euv17, hf⟩ := bnd_e hf
  refine x_put (C := RX5) (T := TX5) (N := 27) (ci := 5) hx hb hts iX5 tyX5 tyX5_ok nmX5 hown hK hG 0 rfl rfl 26 (by decide) k268 rfl (ty := .boolean) (v := .int 0) rfl (by decide) (by decide) (Nat.le_of_ble_eq_true rfl) (w1 := WM κ a uv17) (by rw [euv17]; rfl) dX5_findBest_2 (fun H locs hG => ?_)
  refine lv_aload_n hx hb dX5_findBest_5 rfl (lv_at hl 0 rfl) ?_
  refine lv_iload_n hx hb dX5_findBest_6 rfl (lv_at hl 1 rfl) ?_
  refine lv_iload_n hx hb dX5_findBest_7 rfl (lv_at hl 2 rfl) ?_
  obtain ⟨uv18, q19, hf⟩ := cl1_e hf
  refine x_callVv (pre := ([] : va_W)) (wc := WM κ a uv17) (wc1 := WM κ a uv18) (post := ([] : va_W)) (As := [.int p1, .int p2]) (rest := []) (w1 := WM κ a uv18) ⟨hx, hb, hml, hown, hts⟩ hK hG hA (by simp only [List.append_assoc, List.nil_append, List.append_nil]) (by simp only [List.append_assoc, List.nil_append, List.append_nil]) (c_X5_firstChoice l D κ a H.size p1 p2 uv17 uv18 q19) (cwV 2 hts gX5_findBest_X5_firstChoice rfl rfl rfl (by decide +kernel) ⟨Nat.le_of_ble_eq_true rfl, Nat.le_of_ble_eq_true rfl⟩) 0 5 rfl rfl rfl rfl hl.1 rfl (Nat.le_of_ble_eq_true rfl) dX5_findBest_8 ⟨Nat.zero_le _, Nat.zero_le _⟩ (fun H locs hG => ?_)
  refine lv_iconst (v := 1) hx hb dX5_findBest_11 (by decide) ?_
  refine lv_istore (lv' := [(4, .int 1), (0, .ref (a 0)), (1, .int p1), (2, .int p2), (3, .int p3)]) hx hb dX5_findBest_12 hl (by decide) rfl (fun ls hl => ?_)
  exact L14  FU p1 p2 p3 1 uv18 hf H locs ls hG (lv_sub hl [1, 2, 3, 4, 0] rfl)
set_option maxRecDepth 100000 in
set_option maxHeartbeats 4000000 in
theorem c_X5_ones (l : Launch) (D : va_G) (κ : Nat → ClassId) (a : Nat → Nat) (sz : Nat) (p0 : Int32)  (r' : Int32)  (hf : f_X5_ones p0 = some (r')) : Met l yX5_ones wsX5_ones ({ frames := 0, cells := 0, slots := 0, locals := 0 } : Room) (xPc D κ [.int p0] (([] : va_W)) sz) (xQi D κ r' (([] : va_W)) (va_A (([] : va_W)) sz)) 0 0 (va_A (([] : va_W)) sz) := by
  refine x_ofW (cc := cX5_ones) (maxL := 3) (ret := (some .int)) (Qf := fun A => xQi D κ r' (([] : va_W)) A) (by decide) rfl (Nat.le_of_ble_eq_true rfl) ?_
  intro p e s m below meth c hx hb hr hlk hml hown hts hK A hA H locs hG ls hl
  have hown : s.vm.findClass RX5 = some m.cls := hown
  have hl : lv_has ls 3 [(0, .int p0)] := hl
  have L4 : ∀ (n : Nat), ∀ (x1 : Int32) (x2 : Int32), f_X5_ones_4 n x1 x2 = some (r') → ∀ (H : Heap) (locs : List Loc) (ls : Array Slot), xG D A s.heap (([] : va_W)) H locs → lv_has ls 3 [(1, .int x1), (2, .int x2)] → W p l e ({ frames := 0, cells := 0, slots := 0, locals := 0 } : Room) s m (([.int p0] : List Value).toArray) below meth c H locs 0 0 (MQ below (xQi D κ r' (([] : va_W)) A) (([.int p0] : List Value).toArray) s 0 0 A) (F0 m 4 ls []) := by
    intro  n
    induction n with
    | zero => intro x1 x2 hf; cases hf
    | succ n ih =>
      intro x1 x2 hf H locs ls hG hl
      replace hf : f_X5_ones_B4 (f_X5_ones_4 n) x1 x2 = some (r') := hf
      unfold f_X5_ones_B4 at hf
      refine lv_iload_n hx hb dX5_ones_4 rfl (lv_at hl 1 rfl) ?_
      refine lv_if_eq (tgt := 20) hx hb dX5_ones_5 (by decide) (fun c1 => ?_) (fun c1 => ?_)
      · replace hf := if_t c1 hf
        refine lv_iload_n hx hb dX5_ones_20 rfl (lv_at hl 0 rfl) ?_
        have z0 := Option.some.inj hf
        exact x_iret hx hb hr hlk hK hG z0 rfl dX5_ones_21
      · replace hf := if_f c1 hf
        obtain ⟨y2, ey2, hf⟩ := bnd_e hf
        refine lv_iinc (v := y2) (lv' := [(1, .int y2), (2, .int x2)]) hx hb dX5_ones_8 hl (k := 0) rfl (by rw [ey2]; rfl) (by decide) rfl (fun ls hl => ?_)
        refine lv_iload_n hx hb dX5_ones_11 rfl (lv_at hl 1 rfl) ?_
        refine lv_iload_n hx hb dX5_ones_12 rfl (lv_at hl 1 rfl) ?_
        refine lv_iconst (v := 1) hx hb dX5_ones_13 (by decide) ?_
        refine lv_isub hx hb dX5_ones_14 ?_
        refine lv_iand hx hb dX5_ones_15 ?_
        refine lv_topi (fun y3 ey3 => ?_)
        replace hf := bnd_at ey3 hf
        refine lv_istore_n (lv' := [(2, .int y3), (1, .int y2)]) hx hb dX5_ones_16 rfl hl (by decide) rfl (fun ls hl => ?_)
        refine lv_goto (tgt := 4) hx hb dX5_ones_17 (by decide) ?_
        exact ih y2 y3 hf H locs ls hG (lv_sub hl [1, 0] rfl)
  unfold f_X5_ones at hf
  refine lv_iconst (v := 0) hx hb dX5_ones_0 (by decide) ?_
  refine lv_istore_n (lv' := [(1, .int 0), (0, .int p0)]) hx hb dX5_ones_1 rfl hl (by decide) rfl (fun ls hl => ?_)
  refine lv_iload_n hx hb dX5_ones_2 rfl (lv_at hl 1 rfl) ?_
  refine lv_istore_n (lv' := [(2, .int p0), (1, .int 0), (0, .int p0)]) hx hb dX5_ones_3 rfl hl (by decide) rfl (fun ls hl => ?_)
  exact L4  FU 0 p0 hf H locs ls hG (lv_sub hl [1, 0] rfl)
set_option maxRecDepth 100000 in
set_option maxHeartbeats 4000000 in
theorem c_X5_best (l : Launch) (D : va_G) (κ : Nat → ClassId) (a : Nat → Nat) (sz : Nat) (p1 : Int32) (p2 : Int32) (uv : MS) (r' : Int32) (uv' : MS) (hf : f_X5_best p1 p2 uv = some (r', uv')) : Met l yX5_best wsX5_best ({ frames := 5, cells := 0, slots := 0, locals := 118 } : Room) (xPc D κ [.ref (a 0), .int p1, .int p2] (WM κ a uv) sz) (xQi D κ r' (WM κ a uv') (va_A (WM κ a uv) sz)) 0 0 (va_A (WM κ a uv) sz) := by
  refine x_ofW (cc := cX5_best) (maxL := 3) (ret := (some .int)) (Qf := fun A => xQi D κ r' (WM κ a uv') A) (by decide) rfl (Nat.le_of_ble_eq_true rfl) ?_
  intro p e s m below meth c hx hb hr hlk hml hown hts hK A hA H locs hG ls hl
  have hown : s.vm.findClass RX5 = some m.cls := hown
  have hl : lv_has ls 3 [(0, .ref (a 0)), (1, .int p1), (2, .int p2)] := hl
  have iX5 : ∀ w ∈ u_ws RX5 TX5 27, w ∈ wsX5_best := fun _ h => List.mem_cons_of_mem _ (List.mem_append_right _ h)
  have k238 := hts (.constantLong RX5 238 (2)) (List.mem_of_getElem? (i := 2) rfl)
  have k252 := hts (.fieldLink RX5 252 "SpineDesksModel" "reached" "I") (List.mem_of_getElem? (i := 5) rfl)
  have k278 := hts (.fieldLink RX5 278 "SpineDesksModel" "bestCost" "I") (List.mem_of_getElem? (i := 3) rfl)
  have k281 := hts (.fieldLink RX5 281 "SpineDesksModel" "bestArcs" "I") (List.mem_of_getElem? (i := 4) rfl)
  have k63 := hts (.fieldLink RX5 63 "SpineDesksModel" "thrown" "I") (List.mem_of_getElem? (i := 1) rfl)
  unfold f_X5_best at hf
  refine lv_aload_n hx hb dX5_best_0 rfl (lv_at hl 0 rfl) ?_
  refine lv_iconst (v := 0) hx hb dX5_best_1 (by decide) ?_
  obtain ⟨uv1, euv1, hf⟩ := bnd_e hf
  refine x_put (C := RX5) (T := TX5) (N := 27) (ci := 5) hx hb hts iX5 tyX5 tyX5_ok nmX5 hown hK hG 0 rfl rfl 0 (by decide) k63 rfl (ty := .int) (v := .int 0) rfl rfl rfl (Nat.le_of_ble_eq_true rfl) (w1 := WM κ a uv1) (by rw [euv1]; rfl) dX5_best_2 (fun H locs hG => ?_)
  refine lv_iload_n hx hb dX5_best_5 rfl (lv_at hl 1 rfl) ?_
  obtain ⟨r2, q3, hf⟩ := cl1_e hf
  refine x_callSi (pre := ([] : va_W)) (wc := ([] : va_W)) (wc1 := ([] : va_W)) (post := WM κ a uv1) (As := [.int p1]) (rest := []) (w1 := WM κ a uv1) ⟨hx, hb, hml, hown, hts⟩ hK hG hA (by simp only [List.append_assoc, List.nil_append, List.append_nil]) (by simp only [List.append_assoc, List.nil_append, List.append_nil]) (c_X5_isPlace l D κ a H.size p1 r2 q3) (va_cwS 1 hts gX5_best_X5_isPlace rfl rfl rfl (by decide +kernel) ⟨Nat.le_of_ble_eq_true rfl, Nat.le_of_ble_eq_true rfl⟩) rfl hl.1 rfl (Nat.le_of_ble_eq_true rfl) dX5_best_6 ⟨Nat.zero_le _, Nat.zero_le _⟩ (fun H locs hG => ?_)
  refine lv_if_eq (tgt := 24) hx hb dX5_best_9 (by decide) (fun c4 => ?_) (fun c4 => ?_)
  · replace hf := if_t c4 hf
    refine lv_bipush (v := (-2)) hx hb dX5_best_24 (by decide) ?_
    have hz := Option.some.inj hf
    have z0 := (Prod.mk.inj hz).1
    replace hz := (Prod.mk.inj hz).2
    have z1 := hz
    exact x_iret hx hb hr hlk hK hG z0 (by rw [z1]) dX5_best_26
  · replace hf := if_f c4 hf
    refine lv_iload_n hx hb dX5_best_12 rfl (lv_at hl 2 rfl) ?_
    refine lv_i2l hx hb dX5_best_13 rfl ?_
    refine lv_lconst (v := 0) hx hb dX5_best_14 (by decide) ?_
    refine lv_ldc2 (v := 2) hx hb hown k238 dX5_best_15 ?_
    obtain ⟨r5, q6, hf⟩ := cl1_e hf
    refine x_callSi (pre := ([] : va_W)) (wc := ([] : va_W)) (wc1 := ([] : va_W)) (post := WM κ a uv1) (As := [.long (p2.toInt64), .long 0, .long 2]) (rest := []) (w1 := WM κ a uv1) ⟨hx, hb, hml, hown, hts⟩ hK hG hA (by simp only [List.append_assoc, List.nil_append, List.append_nil]) (by simp only [List.append_assoc, List.nil_append, List.append_nil]) (c_X5_in l D κ a H.size (p2.toInt64) 0 2 r5 q6) (va_cwS 3 hts gX5_best_X5_in rfl rfl rfl (by decide +kernel) ⟨Nat.le_of_ble_eq_true rfl, Nat.le_of_ble_eq_true rfl⟩) rfl hl.1 rfl (Nat.le_of_ble_eq_true rfl) dX5_best_18 ⟨Nat.zero_le _, Nat.zero_le _⟩ (fun H locs hG => ?_)
    refine lv_if_ne (tgt := 27) hx hb dX5_best_21 (by decide) (fun c7 => ?_) (fun c7 => ?_)
    · replace hf := if_f c7 hf
      refine lv_aload_n hx hb dX5_best_27 rfl (lv_at hl 0 rfl) ?_
      refine lv_iload_n hx hb dX5_best_28 rfl (lv_at hl 1 rfl) ?_
      refine lv_iconst (v := (-1)) hx hb dX5_best_29 (by decide) ?_
      refine lv_iconst (v := (-1)) hx hb dX5_best_30 (by decide) ?_
      obtain ⟨uv8, q9, hf⟩ := cl1_e hf
      refine x_callVv (pre := ([] : va_W)) (wc := WM κ a uv1) (wc1 := WM κ a uv8) (post := ([] : va_W)) (As := [.int p1, .int ((-1)), .int ((-1))]) (rest := []) (w1 := WM κ a uv8) ⟨hx, hb, hml, hown, hts⟩ hK hG hA (by simp only [List.append_assoc, List.nil_append, List.append_nil]) (by simp only [List.append_assoc, List.nil_append, List.append_nil]) (c_X5_findBest l D κ a H.size p1 ((-1)) ((-1)) uv1 uv8 q9) (cwV 3 hts gX5_best_X5_findBest rfl rfl rfl (by decide +kernel) ⟨Nat.le_of_ble_eq_true rfl, Nat.le_of_ble_eq_true rfl⟩) 0 5 rfl rfl rfl rfl hl.1 rfl (Nat.le_of_ble_eq_true rfl) dX5_best_31 ⟨Nat.zero_le _, Nat.zero_le _⟩ (fun H locs hG => ?_)
      refine lv_iload_n hx hb dX5_best_34 rfl (lv_at hl 2 rfl) ?_
      refine lv_if_ne (tgt := 45) hx hb dX5_best_35 (by decide) (fun c10 => ?_) (fun c10 => ?_)
      · replace hf := if_f c10 hf
        refine lv_iload_n hx hb dX5_best_45 rfl (lv_at hl 2 rfl) ?_
        refine lv_iconst (v := 1) hx hb dX5_best_46 (by decide) ?_
        refine lv_icmp_ne (tgt := 57) hx hb dX5_best_47 (by decide) (fun c11 => ?_) (fun c11 => ?_)
        · replace hf := if_f c11 hf
          refine lv_aload_n hx hb dX5_best_57 rfl (lv_at hl 0 rfl) ?_
          refine x_get (C := RX5) (T := TX5) (N := 27) (ci := 5) hx hb hts iX5 hown hK hG 0 rfl rfl 23 (by decide) k252 (v := .int (uv8.reached)) rfl dX5_best_58 ?_
          have hz := Option.some.inj hf
          have z0 := (Prod.mk.inj hz).1
          replace hz := (Prod.mk.inj hz).2
          have z1 := hz
          exact x_iret hx hb hr hlk hK hG z0 (by rw [z1]) dX5_best_61
        · replace hf := if_t c11 hf
          refine lv_aload_n hx hb dX5_best_50 rfl (lv_at hl 0 rfl) ?_
          refine x_get (C := RX5) (T := TX5) (N := 27) (ci := 5) hx hb hts iX5 hown hK hG 0 rfl rfl 25 (by decide) k281 (v := .int (uv8.bestArcs)) rfl dX5_best_51 ?_
          refine lv_goto (tgt := 61) hx hb dX5_best_54 (by decide) ?_
          have hz := Option.some.inj hf
          have z0 := (Prod.mk.inj hz).1
          replace hz := (Prod.mk.inj hz).2
          have z1 := hz
          exact x_iret hx hb hr hlk hK hG z0 (by rw [z1]) dX5_best_61
      · replace hf := if_t c10 hf
        refine lv_aload_n hx hb dX5_best_38 rfl (lv_at hl 0 rfl) ?_
        refine x_get (C := RX5) (T := TX5) (N := 27) (ci := 5) hx hb hts iX5 hown hK hG 0 rfl rfl 24 (by decide) k278 (v := .int (uv8.bestCost)) rfl dX5_best_39 ?_
        refine lv_goto (tgt := 61) hx hb dX5_best_42 (by decide) ?_
        have hz := Option.some.inj hf
        have z0 := (Prod.mk.inj hz).1
        replace hz := (Prod.mk.inj hz).2
        have z1 := hz
        exact x_iret hx hb hr hlk hK hG z0 (by rw [z1]) dX5_best_61
    · replace hf := if_t c7 hf
      refine lv_bipush (v := (-2)) hx hb dX5_best_24 (by decide) ?_
      have hz := Option.some.inj hf
      have z0 := (Prod.mk.inj hz).1
      replace hz := (Prod.mk.inj hz).2
      have z1 := hz
      exact x_iret hx hb hr hlk hK hG z0 (by rw [z1]) dX5_best_26
set_option maxRecDepth 100000 in
set_option maxHeartbeats 4000000 in
theorem c_X5_by (l : Launch) (D : va_G) (κ : Nat → ClassId) (a : Nat → Nat) (sz : Nat) (p1 : Int32) (p2 : Int32) (uv : MS) (r' : Int32) (uv' : MS) (hf : f_X5_by p1 p2 uv = some (r', uv')) : Met l yX5_by wsX5_by ({ frames := 5, cells := 0, slots := 0, locals := 118 } : Room) (xPc D κ [.ref (a 0), .int p1, .int p2] (WM κ a uv) sz) (xQi D κ r' (WM κ a uv') (va_A (WM κ a uv) sz)) 0 0 (va_A (WM κ a uv) sz) := by
  refine x_ofW (cc := cX5_by) (maxL := 5) (ret := (some .int)) (Qf := fun A => xQi D κ r' (WM κ a uv') A) (by decide) rfl (Nat.le_of_ble_eq_true rfl) ?_
  intro p e s m below meth c hx hb hr hlk hml hown hts hK A hA H locs hG ls hl
  have hown : s.vm.findClass RX5 = some m.cls := hown
  have hl : lv_has ls 5 [(0, .ref (a 0)), (1, .int p1), (2, .int p2)] := hl
  have iX5 : ∀ w ∈ u_ws RX5 TX5 27, w ∈ wsX5_by := fun _ h => List.mem_cons_of_mem _ (List.mem_append_right _ h)
  have k13 := hts (.fieldLink RX5 13 "SpineDesksModel" "row" "[I") (List.mem_of_getElem? (i := 3) rfl)
  have k281 := hts (.fieldLink RX5 281 "SpineDesksModel" "bestArcs" "I") (List.mem_of_getElem? (i := 2) rfl)
  have k63 := hts (.fieldLink RX5 63 "SpineDesksModel" "thrown" "I") (List.mem_of_getElem? (i := 1) rfl)
  have L77 : ∀ (rec33 : Int32 → Int32 → Int32 → MS → Option (Int32 × MS)) (hr33 : ∀ (y2 : Int32) (y3 : Int32) (y4 : Int32) (uv : MS), rec33 y2 y3 y4 uv = some (r', uv') → ∀ (H : Heap) (locs : List Loc) (ls : Array Slot), xG D A s.heap (WM κ a uv) H locs → lv_has ls 5 [(0, .ref (a 0)), (2, .int y2), (3, .int y3), (4, .int y4)] → W p l e ({ frames := 5, cells := 0, slots := 0, locals := 118 } : Room) s m (([.ref (a 0), .int p1, .int p2] : List Value).toArray) below meth c H locs 0 0 (MQ below (xQi D κ r' (WM κ a uv') A) (([.ref (a 0), .int p1, .int p2] : List Value).toArray) s 0 0 A) (F0 m 33 ls [])), ∀ (x2 : Int32) (x4 : Int32) (s0 : Int32) (uv : MS), f_X5_by_77 rec33 x2 x4 s0 uv = some (r', uv') → ∀ (H : Heap) (locs : List Loc) (ls : Array Slot), xG D A s.heap (WM κ a uv) H locs → lv_has ls 5 [(0, .ref (a 0)), (2, .int x2), (4, .int x4)] → W p l e ({ frames := 5, cells := 0, slots := 0, locals := 118 } : Room) s m (([.ref (a 0), .int p1, .int p2] : List Value).toArray) below meth c H locs 0 0 (MQ below (xQi D κ r' (WM κ a uv') A) (([.ref (a 0), .int p1, .int p2] : List Value).toArray) s 0 0 A) (F0 m 77 ls [.int s0]) := by
    intro rec33 hr33 x2 x4 s0 uv hf H locs ls hG hl
    unfold f_X5_by_77 at hf
    refine lv_istore_n (lv' := [(3, .int s0), (0, .ref (a 0)), (2, .int x2), (4, .int x4)]) hx hb dX5_by_77 rfl hl (by decide) rfl (fun ls hl => ?_)
    obtain ⟨y1, ey1, hf⟩ := bnd_e hf
    refine lv_iinc (v := y1) (lv' := [(4, .int y1), (3, .int s0), (0, .ref (a 0)), (2, .int x2)]) hx hb dX5_by_78 hl (k := 3) rfl (by rw [ey1]; rfl) (by decide) rfl (fun ls hl => ?_)
    refine lv_goto (tgt := 33) hx hb dX5_by_81 (by decide) ?_
    exact hr33 x2 s0 y1 uv hf H locs ls hG (lv_sub hl [2, 3, 1, 0] rfl)
  have L76 : ∀ (rec33 : Int32 → Int32 → Int32 → MS → Option (Int32 × MS)) (hr33 : ∀ (y2 : Int32) (y3 : Int32) (y4 : Int32) (uv : MS), rec33 y2 y3 y4 uv = some (r', uv') → ∀ (H : Heap) (locs : List Loc) (ls : Array Slot), xG D A s.heap (WM κ a uv) H locs → lv_has ls 5 [(0, .ref (a 0)), (2, .int y2), (3, .int y3), (4, .int y4)] → W p l e ({ frames := 5, cells := 0, slots := 0, locals := 118 } : Room) s m (([.ref (a 0), .int p1, .int p2] : List Value).toArray) below meth c H locs 0 0 (MQ below (xQi D κ r' (WM κ a uv') A) (([.ref (a 0), .int p1, .int p2] : List Value).toArray) s 0 0 A) (F0 m 33 ls [])), ∀ (x2 : Int32) (x3 : Int32) (x4 : Int32) (uv : MS), f_X5_by_76 rec33 x2 x3 x4 uv = some (r', uv') → ∀ (H : Heap) (locs : List Loc) (ls : Array Slot), xG D A s.heap (WM κ a uv) H locs → lv_has ls 5 [(0, .ref (a 0)), (2, .int x2), (3, .int x3), (4, .int x4)] → W p l e ({ frames := 5, cells := 0, slots := 0, locals := 118 } : Room) s m (([.ref (a 0), .int p1, .int p2] : List Value).toArray) below meth c H locs 0 0 (MQ below (xQi D κ r' (WM κ a uv') A) (([.ref (a 0), .int p1, .int p2] : List Value).toArray) s 0 0 A) (F0 m 76 ls []) := by
    intro rec33 hr33 x2 x3 x4 uv hf H locs ls hG hl
    unfold f_X5_by_76 at hf
    refine lv_iload_n hx hb dX5_by_76 rfl (lv_at hl 2 rfl) ?_
    exact L77 rec33 hr33  x2 x4 x3 uv hf H locs ls hG (lv_sub hl [0, 1, 3] rfl)
  have L33 : ∀ (n : Nat), ∀ (x2 : Int32) (x3 : Int32) (x4 : Int32) (uv : MS), f_X5_by_33 n x2 x3 x4 uv = some (r', uv') → ∀ (H : Heap) (locs : List Loc) (ls : Array Slot), xG D A s.heap (WM κ a uv) H locs → lv_has ls 5 [(0, .ref (a 0)), (2, .int x2), (3, .int x3), (4, .int x4)] → W p l e ({ frames := 5, cells := 0, slots := 0, locals := 118 } : Room) s m (([.ref (a 0), .int p1, .int p2] : List Value).toArray) below meth c H locs 0 0 (MQ below (xQi D κ r' (WM κ a uv') A) (([.ref (a 0), .int p1, .int p2] : List Value).toArray) s 0 0 A) (F0 m 33 ls []) := by
    intro  n
    induction n with
    | zero => intro x2 x3 x4 uv hf; cases hf
    | succ n ih =>
      intro x2 x3 x4 uv hf H locs ls hG hl
      replace hf : f_X5_by_B33 (f_X5_by_33 n) x2 x3 x4 uv = some (r', uv') := hf
      unfold f_X5_by_B33 at hf
      refine lv_iload hx hb dX5_by_33 (lv_at hl 3 rfl) ?_
      refine lv_bipush (v := 20) hx hb dX5_by_35 (by decide) ?_
      refine lv_icmp_ge (tgt := 84) hx hb dX5_by_37 (by decide) (fun c2 => ?_) (fun c2 => ?_)
      · replace hf := if_t c2 hf
        refine lv_iload_n hx hb dX5_by_84 rfl (lv_at hl 2 rfl) ?_
        have hz := Option.some.inj hf
        have z0 := (Prod.mk.inj hz).1
        replace hz := (Prod.mk.inj hz).2
        have z1 := hz
        exact x_iret hx hb hr hlk hK hG z0 (by rw [z1]) dX5_by_85
      · replace hf := if_f c2 hf
        refine lv_aload_n hx hb dX5_by_40 rfl (lv_at hl 0 rfl) ?_
        refine x_get (C := RX5) (T := TX5) (N := 27) (ci := 5) hx hb hts iX5 hown hK hG 0 rfl rfl 25 (by decide) k281 (v := .int (uv.bestArcs)) rfl dX5_by_41 ?_
        refine lv_iload hx hb dX5_by_44 (lv_at hl 3 rfl) ?_
        refine lv_ishr hx hb dX5_by_46 ?_
        refine lv_iconst (v := 1) hx hb dX5_by_47 (by decide) ?_
        refine lv_iand hx hb dX5_by_48 ?_
        refine lv_iconst (v := 1) hx hb dX5_by_49 (by decide) ?_
        refine lv_icmp_ne (tgt := 76) hx hb dX5_by_50 (by decide) (fun c3 => ?_) (fun c3 => ?_)
        · replace hf := if_f c3 hf
          exact L76 (f_X5_by_33 n) ih  x2 x3 x4 uv hf H locs ls hG (lv_sub hl [0, 1, 2, 3] rfl)
        · replace hf := if_t c3 hf
          refine lv_aload_n hx hb dX5_by_53 rfl (lv_at hl 0 rfl) ?_
          refine x_get (C := RX5) (T := TX5) (N := 27) (ci := 5) hx hb hts iX5 hown hK hG 0 rfl rfl 2 (by decide) k13 (v := .ref (a 2)) rfl dX5_by_54 ?_
          refine lv_bipush (v := 10) hx hb dX5_by_57 (by decide) ?_
          refine lv_iconst (v := 3) hx hb dX5_by_59 (by decide) ?_
          refine lv_iload hx hb dX5_by_60 (lv_at hl 3 rfl) ?_
          refine lv_imul hx hb dX5_by_62 ?_
          refine lv_iadd hx hb dX5_by_63 ?_
          refine lv_iconst (v := 1) hx hb dX5_by_64 (by decide) ?_
          refine lv_iadd hx hb dX5_by_65 ?_
          obtain ⟨v4, ev4, hin, hf⟩ := ck_e hf
          refine x_iald hx hb hK hG 2 rfl ev4 hin dX5_by_66 ?_
          refine lv_iload_n hx hb dX5_by_67 rfl (lv_at hl 1 rfl) ?_
          refine lv_icmp_ne (tgt := 76) hx hb dX5_by_68 (by decide) (fun c5 => ?_) (fun c5 => ?_)
          · replace hf := if_f c5 hf
            exact L76 (f_X5_by_33 n) ih  x2 x3 x4 uv hf H locs ls hG (lv_sub hl [0, 1, 2, 3] rfl)
          · replace hf := if_t c5 hf
            refine lv_iload hx hb dX5_by_71 (lv_at hl 3 rfl) ?_
            refine lv_goto (tgt := 77) hx hb dX5_by_73 (by decide) ?_
            exact L77 (f_X5_by_33 n) ih  x2 x4 x4 uv hf H locs ls hG (lv_sub hl [0, 1, 3] rfl)
  unfold f_X5_by at hf
  refine lv_aload_n hx hb dX5_by_0 rfl (lv_at hl 0 rfl) ?_
  refine lv_iconst (v := 0) hx hb dX5_by_1 (by decide) ?_
  obtain ⟨uv6, euv6, hf⟩ := bnd_e hf
  refine x_put (C := RX5) (T := TX5) (N := 27) (ci := 5) hx hb hts iX5 tyX5 tyX5_ok nmX5 hown hK hG 0 rfl rfl 0 (by decide) k63 rfl (ty := .int) (v := .int 0) rfl rfl rfl (Nat.le_of_ble_eq_true rfl) (w1 := WM κ a uv6) (by rw [euv6]; rfl) dX5_by_2 (fun H locs hG => ?_)
  refine lv_iload_n hx hb dX5_by_5 rfl (lv_at hl 1 rfl) ?_
  obtain ⟨r7, q8, hf⟩ := cl1_e hf
  refine x_callSi (pre := ([] : va_W)) (wc := ([] : va_W)) (wc1 := ([] : va_W)) (post := WM κ a uv6) (As := [.int p1]) (rest := []) (w1 := WM κ a uv6) ⟨hx, hb, hml, hown, hts⟩ hK hG hA (by simp only [List.append_assoc, List.nil_append, List.append_nil]) (by simp only [List.append_assoc, List.nil_append, List.append_nil]) (c_X5_isPlace l D κ a H.size p1 r7 q8) (va_cwS 1 hts gX5_by_X5_isPlace rfl rfl rfl (by decide +kernel) ⟨Nat.le_of_ble_eq_true rfl, Nat.le_of_ble_eq_true rfl⟩) rfl hl.1 rfl (Nat.le_of_ble_eq_true rfl) dX5_by_6 ⟨Nat.zero_le _, Nat.zero_le _⟩ (fun H locs hG => ?_)
  refine lv_if_eq (tgt := 19) hx hb dX5_by_9 (by decide) (fun c9 => ?_) (fun c9 => ?_)
  · replace hf := if_t c9 hf
    refine lv_iconst (v := (-1)) hx hb dX5_by_19 (by decide) ?_
    have hz := Option.some.inj hf
    have z0 := (Prod.mk.inj hz).1
    replace hz := (Prod.mk.inj hz).2
    have z1 := hz
    exact x_iret hx hb hr hlk hK hG z0 (by rw [z1]) dX5_by_20
  · replace hf := if_f c9 hf
    refine lv_iload_n hx hb dX5_by_12 rfl (lv_at hl 2 rfl) ?_
    obtain ⟨r10, q11, hf⟩ := cl1_e hf
    refine x_callSi (pre := ([] : va_W)) (wc := ([] : va_W)) (wc1 := ([] : va_W)) (post := WM κ a uv6) (As := [.int p2]) (rest := []) (w1 := WM κ a uv6) ⟨hx, hb, hml, hown, hts⟩ hK hG hA (by simp only [List.append_assoc, List.nil_append, List.append_nil]) (by simp only [List.append_assoc, List.nil_append, List.append_nil]) (c_X5_isPlace l D κ a H.size p2 r10 q11) (va_cwS 1 hts gX5_by_X5_isPlace rfl rfl rfl (by decide +kernel) ⟨Nat.le_of_ble_eq_true rfl, Nat.le_of_ble_eq_true rfl⟩) rfl hl.1 rfl (Nat.le_of_ble_eq_true rfl) dX5_by_13 ⟨Nat.zero_le _, Nat.zero_le _⟩ (fun H locs hG => ?_)
    refine lv_if_ne (tgt := 21) hx hb dX5_by_16 (by decide) (fun c12 => ?_) (fun c12 => ?_)
    · replace hf := if_f c12 hf
      refine lv_aload_n hx hb dX5_by_21 rfl (lv_at hl 0 rfl) ?_
      refine lv_iload_n hx hb dX5_by_22 rfl (lv_at hl 1 rfl) ?_
      refine lv_iconst (v := (-1)) hx hb dX5_by_23 (by decide) ?_
      refine lv_iconst (v := (-1)) hx hb dX5_by_24 (by decide) ?_
      obtain ⟨uv13, q14, hf⟩ := cl1_e hf
      refine x_callVv (pre := ([] : va_W)) (wc := WM κ a uv6) (wc1 := WM κ a uv13) (post := ([] : va_W)) (As := [.int p1, .int ((-1)), .int ((-1))]) (rest := []) (w1 := WM κ a uv13) ⟨hx, hb, hml, hown, hts⟩ hK hG hA (by simp only [List.append_assoc, List.nil_append, List.append_nil]) (by simp only [List.append_assoc, List.nil_append, List.append_nil]) (c_X5_findBest l D κ a H.size p1 ((-1)) ((-1)) uv6 uv13 q14) (cwV 3 hts gX5_by_X5_findBest rfl rfl rfl (by decide +kernel) ⟨Nat.le_of_ble_eq_true rfl, Nat.le_of_ble_eq_true rfl⟩) 0 5 rfl rfl rfl rfl hl.1 rfl (Nat.le_of_ble_eq_true rfl) dX5_by_25 ⟨Nat.zero_le _, Nat.zero_le _⟩ (fun H locs hG => ?_)
      refine lv_iconst (v := (-1)) hx hb dX5_by_28 (by decide) ?_
      refine lv_istore_n (lv' := [(3, .int ((-1))), (0, .ref (a 0)), (1, .int p1), (2, .int p2)]) hx hb dX5_by_29 rfl hl (by decide) rfl (fun ls hl => ?_)
      refine lv_iconst (v := 0) hx hb dX5_by_30 (by decide) ?_
      refine lv_istore (lv' := [(4, .int 0), (3, .int ((-1))), (0, .ref (a 0)), (1, .int p1), (2, .int p2)]) hx hb dX5_by_31 hl (by decide) rfl (fun ls hl => ?_)
      exact L33  FU p2 ((-1)) 0 uv13 hf H locs ls hG (lv_sub hl [2, 4, 1, 0] rfl)
    · replace hf := if_t c12 hf
      refine lv_iconst (v := (-1)) hx hb dX5_by_19 (by decide) ?_
      have hz := Option.some.inj hf
      have z0 := (Prod.mk.inj hz).1
      replace hz := (Prod.mk.inj hz).2
      have z1 := hz
      exact x_iret hx hb hr hlk hK hG z0 (by rw [z1]) dX5_by_20
set_option maxRecDepth 100000 in
set_option maxHeartbeats 4000000 in
theorem c_X5_behind (l : Launch) (D : va_G) (κ : Nat → ClassId) (a : Nat → Nat) (sz : Nat) (p1 : Int32) (p2 : Int32) (p3 : Int32) (uv : MS) (r' : Int32) (uv' : MS) (hf : f_X5_behind p1 p2 p3 uv = some (r', uv')) : Met l yX5_behind wsX5_behind ({ frames := 4, cells := 0, slots := 0, locals := 94 } : Room) (xPc D κ [.ref (a 0), .int p1, .int p2, .int p3] (WM κ a uv) sz) (xQi D κ r' (WM κ a uv') (va_A (WM κ a uv) sz)) 0 0 (va_A (WM κ a uv) sz) := by
  refine x_ofW (cc := cX5_behind) (maxL := 9) (ret := (some .int)) (Qf := fun A => xQi D κ r' (WM κ a uv') A) (by decide) rfl (Nat.le_of_ble_eq_true rfl) ?_
  intro p e s m below meth c hx hb hr hlk hml hown hts hK A hA H locs hG ls hl
  have hown : s.vm.findClass RX5 = some m.cls := hown
  have hl : lv_has ls 9 [(0, .ref (a 0)), (1, .int p1), (2, .int p2), (3, .int p3)] := hl
  have iX5 : ∀ w ∈ u_ws RX5 TX5 27, w ∈ wsX5_behind := fun _ h => List.mem_cons_of_mem _ (List.mem_append_right _ h)
  have k262 := hts (.fieldLink RX5 262 "SpineDesksModel" "treeOutCost" "I") (List.mem_of_getElem? (i := 4) rfl)
  have k265 := hts (.fieldLink RX5 265 "SpineDesksModel" "treeOutArcs" "I") (List.mem_of_getElem? (i := 3) rfl)
  have k278 := hts (.fieldLink RX5 278 "SpineDesksModel" "bestCost" "I") (List.mem_of_getElem? (i := 1) rfl)
  have k281 := hts (.fieldLink RX5 281 "SpineDesksModel" "bestArcs" "I") (List.mem_of_getElem? (i := 2) rfl)
  have L128 : ∀ (rec24 : Int32 → Int32 → Int32 → Int32 → Int32 → Int32 → Int32 → MS → Option (Int32 × MS)) (hr24 : ∀ (y1 : Int32) (y2 : Int32) (y3 : Int32) (y4 : Int32) (y5 : Int32) (y6 : Int32) (y7 : Int32) (uv : MS), rec24 y1 y2 y3 y4 y5 y6 y7 uv = some (r', uv') → ∀ (H : Heap) (locs : List Loc) (ls : Array Slot), xG D A s.heap (WM κ a uv) H locs → lv_has ls 9 [(0, .ref (a 0)), (1, .int y1), (2, .int y2), (3, .int y3), (4, .int y4), (5, .int y5), (6, .int y6), (7, .int y7)] → W p l e ({ frames := 4, cells := 0, slots := 0, locals := 94 } : Room) s m (([.ref (a 0), .int p1, .int p2, .int p3] : List Value).toArray) below meth c H locs 0 0 (MQ below (xQi D κ r' (WM κ a uv') A) (([.ref (a 0), .int p1, .int p2, .int p3] : List Value).toArray) s 0 0 A) (F0 m 24 ls [])), ∀ (x1 : Int32) (x2 : Int32) (x3 : Int32) (x4 : Int32) (x5 : Int32) (x6 : Int32) (uv : MS), f_X5_behind_128 rec24 x1 x2 x3 x4 x5 x6 uv = some (r', uv') → ∀ (H : Heap) (locs : List Loc) (ls : Array Slot), xG D A s.heap (WM κ a uv) H locs → lv_has ls 9 [(0, .ref (a 0)), (1, .int x1), (2, .int x2), (3, .int x3), (4, .int x4), (5, .int x5), (6, .int x6)] → W p l e ({ frames := 4, cells := 0, slots := 0, locals := 94 } : Room) s m (([.ref (a 0), .int p1, .int p2, .int p3] : List Value).toArray) below meth c H locs 0 0 (MQ below (xQi D κ r' (WM κ a uv') A) (([.ref (a 0), .int p1, .int p2, .int p3] : List Value).toArray) s 0 0 A) (F0 m 128 ls []) := by
    intro rec24 hr24 x1 x2 x3 x4 x5 x6 uv hf H locs ls hG hl
    unfold f_X5_behind_128 at hf
    refine lv_aload_n hx hb dX5_behind_128 rfl (lv_at hl 0 rfl) ?_
    refine lv_iload_n hx hb dX5_behind_129 rfl (lv_at hl 1 rfl) ?_
    refine lv_iconst (v := (-1)) hx hb dX5_behind_130 (by decide) ?_
    obtain ⟨r1, uv2, q3, hf⟩ := cl2_e hf
    refine x_callVi (pre := ([] : va_W)) (wc := WM κ a uv) (wc1 := WM κ a uv2) (post := ([] : va_W)) (As := [.int x1, .int ((-1))]) (rest := []) (w1 := WM κ a uv2) ⟨hx, hb, hml, hown, hts⟩ hK hG hA (by simp only [List.append_assoc, List.nil_append, List.append_nil]) (by simp only [List.append_assoc, List.nil_append, List.append_nil]) (c_X5_nextChoice l D κ a H.size x1 ((-1)) uv r1 uv2 q3) (cwV 2 hts gX5_behind_X5_nextChoice rfl rfl rfl (by decide +kernel) ⟨Nat.le_of_ble_eq_true rfl, Nat.le_of_ble_eq_true rfl⟩) 0 5 rfl rfl rfl rfl hl.1 rfl (Nat.le_of_ble_eq_true rfl) dX5_behind_131 ⟨Nat.zero_le _, Nat.zero_le _⟩ (fun H locs hG => ?_)
    refine lv_istore (lv' := [(7, .int r1), (0, .ref (a 0)), (1, .int x1), (2, .int x2), (3, .int x3), (4, .int x4), (5, .int x5), (6, .int x6)]) hx hb dX5_behind_134 hl (by decide) rfl (fun ls hl => ?_)
    refine lv_goto (tgt := 24) hx hb dX5_behind_136 (by decide) ?_
    exact hr24 x1 x2 x3 x4 x5 x6 r1 uv2 hf H locs ls hG (lv_sub hl [1, 2, 3, 4, 5, 6, 7, 0] rfl)
  have L126 : ∀ (rec24 : Int32 → Int32 → Int32 → Int32 → Int32 → Int32 → Int32 → MS → Option (Int32 × MS)) (hr24 : ∀ (y1 : Int32) (y2 : Int32) (y3 : Int32) (y4 : Int32) (y5 : Int32) (y6 : Int32) (y7 : Int32) (uv : MS), rec24 y1 y2 y3 y4 y5 y6 y7 uv = some (r', uv') → ∀ (H : Heap) (locs : List Loc) (ls : Array Slot), xG D A s.heap (WM κ a uv) H locs → lv_has ls 9 [(0, .ref (a 0)), (1, .int y1), (2, .int y2), (3, .int y3), (4, .int y4), (5, .int y5), (6, .int y6), (7, .int y7)] → W p l e ({ frames := 4, cells := 0, slots := 0, locals := 94 } : Room) s m (([.ref (a 0), .int p1, .int p2, .int p3] : List Value).toArray) below meth c H locs 0 0 (MQ below (xQi D κ r' (WM κ a uv') A) (([.ref (a 0), .int p1, .int p2, .int p3] : List Value).toArray) s 0 0 A) (F0 m 24 ls [])), ∀ (x1 : Int32) (x2 : Int32) (x3 : Int32) (x4 : Int32) (x5 : Int32) (s0 : Int32) (uv : MS), f_X5_behind_126 rec24 x1 x2 x3 x4 x5 s0 uv = some (r', uv') → ∀ (H : Heap) (locs : List Loc) (ls : Array Slot), xG D A s.heap (WM κ a uv) H locs → lv_has ls 9 [(0, .ref (a 0)), (1, .int x1), (2, .int x2), (3, .int x3), (4, .int x4), (5, .int x5)] → W p l e ({ frames := 4, cells := 0, slots := 0, locals := 94 } : Room) s m (([.ref (a 0), .int p1, .int p2, .int p3] : List Value).toArray) below meth c H locs 0 0 (MQ below (xQi D κ r' (WM κ a uv') A) (([.ref (a 0), .int p1, .int p2, .int p3] : List Value).toArray) s 0 0 A) (F0 m 126 ls [.int s0]) := by
    intro rec24 hr24 x1 x2 x3 x4 x5 s0 uv hf H locs ls hG hl
    unfold f_X5_behind_126 at hf
    refine lv_istore (lv' := [(6, .int s0), (0, .ref (a 0)), (1, .int x1), (2, .int x2), (3, .int x3), (4, .int x4), (5, .int x5)]) hx hb dX5_behind_126 hl (by decide) rfl (fun ls hl => ?_)
    exact L128 rec24 hr24  x1 x2 x3 x4 x5 s0 uv hf H locs ls hG (lv_sub hl [1, 2, 3, 4, 5, 6, 0] rfl)
  have L119 : ∀ (rec24 : Int32 → Int32 → Int32 → Int32 → Int32 → Int32 → Int32 → MS → Option (Int32 × MS)) (hr24 : ∀ (y1 : Int32) (y2 : Int32) (y3 : Int32) (y4 : Int32) (y5 : Int32) (y6 : Int32) (y7 : Int32) (uv : MS), rec24 y1 y2 y3 y4 y5 y6 y7 uv = some (r', uv') → ∀ (H : Heap) (locs : List Loc) (ls : Array Slot), xG D A s.heap (WM κ a uv) H locs → lv_has ls 9 [(0, .ref (a 0)), (1, .int y1), (2, .int y2), (3, .int y3), (4, .int y4), (5, .int y5), (6, .int y6), (7, .int y7)] → W p l e ({ frames := 4, cells := 0, slots := 0, locals := 94 } : Room) s m (([.ref (a 0), .int p1, .int p2, .int p3] : List Value).toArray) below meth c H locs 0 0 (MQ below (xQi D κ r' (WM κ a uv') A) (([.ref (a 0), .int p1, .int p2, .int p3] : List Value).toArray) s 0 0 A) (F0 m 24 ls [])), ∀ (x1 : Int32) (x2 : Int32) (x3 : Int32) (x4 : Int32) (x5 : Int32) (x8 : Int32) (uv : MS), f_X5_behind_119 rec24 x1 x2 x3 x4 x5 x8 uv = some (r', uv') → ∀ (H : Heap) (locs : List Loc) (ls : Array Slot), xG D A s.heap (WM κ a uv) H locs → lv_has ls 9 [(0, .ref (a 0)), (1, .int x1), (2, .int x2), (3, .int x3), (4, .int x4), (5, .int x5), (8, .int x8)] → W p l e ({ frames := 4, cells := 0, slots := 0, locals := 94 } : Room) s m (([.ref (a 0), .int p1, .int p2, .int p3] : List Value).toArray) below meth c H locs 0 0 (MQ below (xQi D κ r' (WM κ a uv') A) (([.ref (a 0), .int p1, .int p2, .int p3] : List Value).toArray) s 0 0 A) (F0 m 119 ls []) := by
    intro rec24 hr24 x1 x2 x3 x4 x5 x8 uv hf H locs ls hG hl
    unfold f_X5_behind_119 at hf
    refine lv_iload hx hb dX5_behind_119 (lv_at hl 6 rfl) ?_
    refine lv_goto (tgt := 126) hx hb dX5_behind_121 (by decide) ?_
    exact L126 rec24 hr24  x1 x2 x3 x4 x5 x8 uv hf H locs ls hG (lv_sub hl [0, 1, 2, 3, 4, 5] rfl)
  have L103 : ∀ (rec24 : Int32 → Int32 → Int32 → Int32 → Int32 → Int32 → Int32 → MS → Option (Int32 × MS)) (hr24 : ∀ (y1 : Int32) (y2 : Int32) (y3 : Int32) (y4 : Int32) (y5 : Int32) (y6 : Int32) (y7 : Int32) (uv : MS), rec24 y1 y2 y3 y4 y5 y6 y7 uv = some (r', uv') → ∀ (H : Heap) (locs : List Loc) (ls : Array Slot), xG D A s.heap (WM κ a uv) H locs → lv_has ls 9 [(0, .ref (a 0)), (1, .int y1), (2, .int y2), (3, .int y3), (4, .int y4), (5, .int y5), (6, .int y6), (7, .int y7)] → W p l e ({ frames := 4, cells := 0, slots := 0, locals := 94 } : Room) s m (([.ref (a 0), .int p1, .int p2, .int p3] : List Value).toArray) below meth c H locs 0 0 (MQ below (xQi D κ r' (WM κ a uv') A) (([.ref (a 0), .int p1, .int p2, .int p3] : List Value).toArray) s 0 0 A) (F0 m 24 ls [])), ∀ (x1 : Int32) (x2 : Int32) (x3 : Int32) (x4 : Int32) (x5 : Int32) (x6 : Int32) (s0 : Int32) (s1 : Int32) (uv : MS), f_X5_behind_103 rec24 x1 x2 x3 x4 x5 x6 s0 s1 uv = some (r', uv') → ∀ (H : Heap) (locs : List Loc) (ls : Array Slot), xG D A s.heap (WM κ a uv) H locs → lv_has ls 9 [(0, .ref (a 0)), (1, .int x1), (2, .int x2), (3, .int x3), (4, .int x4), (5, .int x5), (6, .int x6)] → W p l e ({ frames := 4, cells := 0, slots := 0, locals := 94 } : Room) s m (([.ref (a 0), .int p1, .int p2, .int p3] : List Value).toArray) below meth c H locs 0 0 (MQ below (xQi D κ r' (WM κ a uv') A) (([.ref (a 0), .int p1, .int p2, .int p3] : List Value).toArray) s 0 0 A) (F0 m 103 ls [.int s1, .int s0]) := by
    intro rec24 hr24 x1 x2 x3 x4 x5 x6 s0 s1 uv hf H locs ls hG hl
    unfold f_X5_behind_103 at hf
    refine lv_iadd hx hb dX5_behind_103 ?_
    refine lv_topi (fun y4 ey4 => ?_)
    replace hf := bnd_at ey4 hf
    refine lv_istore (lv' := [(8, .int y4), (0, .ref (a 0)), (1, .int x1), (2, .int x2), (3, .int x3), (4, .int x4), (5, .int x5), (6, .int x6)]) hx hb dX5_behind_104 hl (by decide) rfl (fun ls hl => ?_)
    refine lv_iload hx hb dX5_behind_106 (lv_at hl 7 rfl) ?_
    refine lv_iconst (v := (-1)) hx hb dX5_behind_108 (by decide) ?_
    refine lv_icmp_eq (tgt := 119) hx hb dX5_behind_109 (by decide) (fun c5 => ?_) (fun c5 => ?_)
    · replace hf := if_t c5 hf
      exact L119 rec24 hr24  x1 x2 x3 x4 x5 y4 uv hf H locs ls hG (lv_sub hl [1, 2, 3, 4, 5, 6, 0] rfl)
    · replace hf := if_f c5 hf
      refine lv_iload hx hb dX5_behind_112 (lv_at hl 0 rfl) ?_
      refine lv_iload hx hb dX5_behind_114 (lv_at hl 7 rfl) ?_
      refine lv_icmp_ge (tgt := 124) hx hb dX5_behind_116 (by decide) (fun c6 => ?_) (fun c6 => ?_)
      · replace hf := if_t c6 hf
        refine lv_iload hx hb dX5_behind_124 (lv_at hl 7 rfl) ?_
        exact L126 rec24 hr24  x1 x2 x3 x4 x5 x6 uv hf H locs ls hG (lv_sub hl [1, 2, 3, 4, 5, 6] rfl)
      · replace hf := if_f c6 hf
        exact L119 rec24 hr24  x1 x2 x3 x4 x5 y4 uv hf H locs ls hG (lv_sub hl [1, 2, 3, 4, 5, 6, 0] rfl)
  have L54 : ∀ (rec24 : Int32 → Int32 → Int32 → Int32 → Int32 → Int32 → Int32 → MS → Option (Int32 × MS)) (hr24 : ∀ (y1 : Int32) (y2 : Int32) (y3 : Int32) (y4 : Int32) (y5 : Int32) (y6 : Int32) (y7 : Int32) (uv : MS), rec24 y1 y2 y3 y4 y5 y6 y7 uv = some (r', uv') → ∀ (H : Heap) (locs : List Loc) (ls : Array Slot), xG D A s.heap (WM κ a uv) H locs → lv_has ls 9 [(0, .ref (a 0)), (1, .int y1), (2, .int y2), (3, .int y3), (4, .int y4), (5, .int y5), (6, .int y6), (7, .int y7)] → W p l e ({ frames := 4, cells := 0, slots := 0, locals := 94 } : Room) s m (([.ref (a 0), .int p1, .int p2, .int p3] : List Value).toArray) below meth c H locs 0 0 (MQ below (xQi D κ r' (WM κ a uv') A) (([.ref (a 0), .int p1, .int p2, .int p3] : List Value).toArray) s 0 0 A) (F0 m 24 ls [])), ∀ (x1 : Int32) (x2 : Int32) (x3 : Int32) (x4 : Int32) (x5 : Int32) (x6 : Int32) (s0 : Int32) (s1 : Int32) (uv : MS), f_X5_behind_54 rec24 x1 x2 x3 x4 x5 x6 s0 s1 uv = some (r', uv') → ∀ (H : Heap) (locs : List Loc) (ls : Array Slot), xG D A s.heap (WM κ a uv) H locs → lv_has ls 9 [(0, .ref (a 0)), (1, .int x1), (2, .int x2), (3, .int x3), (4, .int x4), (5, .int x5), (6, .int x6)] → W p l e ({ frames := 4, cells := 0, slots := 0, locals := 94 } : Room) s m (([.ref (a 0), .int p1, .int p2, .int p3] : List Value).toArray) below meth c H locs 0 0 (MQ below (xQi D κ r' (WM κ a uv') A) (([.ref (a 0), .int p1, .int p2, .int p3] : List Value).toArray) s 0 0 A) (F0 m 54 ls [.int s1, .int s0]) := by
    intro rec24 hr24 x1 x2 x3 x4 x5 x6 s0 s1 uv hf H locs ls hG hl
    unfold f_X5_behind_54 at hf
    refine lv_icmp_ne (tgt := 128) hx hb dX5_behind_54 (by decide) (fun c7 => ?_) (fun c7 => ?_)
    · replace hf := if_f c7 hf
      exact L128 rec24 hr24  x1 x2 x3 x4 x5 x6 uv hf H locs ls hG (lv_sub hl [0, 1, 2, 3, 4, 5, 6] rfl)
    · replace hf := if_t c7 hf
      refine lv_aload_n hx hb dX5_behind_57 rfl (lv_at hl 0 rfl) ?_
      refine x_get (C := RX5) (T := TX5) (N := 27) (ci := 5) hx hb hts iX5 hown hK hG 0 rfl rfl 21 (by decide) k262 (v := .int (uv.treeOutCost)) rfl dX5_behind_58 ?_
      refine lv_iload hx hb dX5_behind_61 (lv_at hl 4 rfl) ?_
      refine lv_isub hx hb dX5_behind_63 ?_
      refine lv_topi (fun y8 ey8 => ?_)
      replace hf := bnd_at ey8 hf
      refine lv_istore (lv' := [(8, .int y8), (0, .ref (a 0)), (1, .int x1), (2, .int x2), (3, .int x3), (4, .int x4), (5, .int x5), (6, .int x6)]) hx hb dX5_behind_64 hl (by decide) rfl (fun ls hl => ?_)
      refine lv_iload hx hb dX5_behind_66 (lv_at hl 0 rfl) ?_
      refine lv_iload_n hx hb dX5_behind_68 rfl (lv_at hl 4 rfl) ?_
      refine lv_if_eq (tgt := 89) hx hb dX5_behind_69 (by decide) (fun c9 => ?_) (fun c9 => ?_)
      · replace hf := if_t c9 hf
        refine lv_iload hx hb dX5_behind_89 (lv_at hl 6 rfl) ?_
        refine lv_aload_n hx hb dX5_behind_91 rfl (lv_at hl 1 rfl) ?_
        refine x_get (C := RX5) (T := TX5) (N := 27) (ci := 5) hx hb hts iX5 hown hK hG 0 rfl rfl 22 (by decide) k265 (v := .int (uv.treeOutArcs)) rfl dX5_behind_92 ?_
        refine lv_icmp_ge (tgt := 102) hx hb dX5_behind_95 (by decide) (fun c10 => ?_) (fun c10 => ?_)
        · replace hf := if_t c10 hf
          refine lv_iconst (v := (-1)) hx hb dX5_behind_102 (by decide) ?_
          exact L103 rec24 hr24  x1 x2 x3 x4 x5 x6 y8 ((-1)) uv hf H locs ls hG (lv_sub hl [1, 2, 3, 4, 5, 6, 7] rfl)
        · replace hf := if_f c10 hf
          refine lv_iconst (v := 0) hx hb dX5_behind_98 (by decide) ?_
          refine lv_goto (tgt := 103) hx hb dX5_behind_99 (by decide) ?_
          exact L103 rec24 hr24  x1 x2 x3 x4 x5 x6 y8 0 uv hf H locs ls hG (lv_sub hl [1, 2, 3, 4, 5, 6, 7] rfl)
      · replace hf := if_f c9 hf
        refine lv_aload_n hx hb dX5_behind_72 rfl (lv_at hl 1 rfl) ?_
        refine x_get (C := RX5) (T := TX5) (N := 27) (ci := 5) hx hb hts iX5 hown hK hG 0 rfl rfl 22 (by decide) k265 (v := .int (uv.treeOutArcs)) rfl dX5_behind_73 ?_
        refine lv_iload hx hb dX5_behind_76 (lv_at hl 6 rfl) ?_
        refine lv_icmp_ge (tgt := 85) hx hb dX5_behind_78 (by decide) (fun c11 => ?_) (fun c11 => ?_)
        · replace hf := if_t c11 hf
          refine lv_iconst (v := 1) hx hb dX5_behind_85 (by decide) ?_
          refine lv_goto (tgt := 103) hx hb dX5_behind_86 (by decide) ?_
          exact L103 rec24 hr24  x1 x2 x3 x4 x5 x6 y8 1 uv hf H locs ls hG (lv_sub hl [1, 2, 3, 4, 5, 6, 7] rfl)
        · replace hf := if_f c11 hf
          refine lv_iconst (v := 0) hx hb dX5_behind_81 (by decide) ?_
          refine lv_goto (tgt := 103) hx hb dX5_behind_82 (by decide) ?_
          exact L103 rec24 hr24  x1 x2 x3 x4 x5 x6 y8 0 uv hf H locs ls hG (lv_sub hl [1, 2, 3, 4, 5, 6, 7] rfl)
  have L24 : ∀ (n : Nat), ∀ (x1 : Int32) (x2 : Int32) (x3 : Int32) (x4 : Int32) (x5 : Int32) (x6 : Int32) (x7 : Int32) (uv : MS), f_X5_behind_24 n x1 x2 x3 x4 x5 x6 x7 uv = some (r', uv') → ∀ (H : Heap) (locs : List Loc) (ls : Array Slot), xG D A s.heap (WM κ a uv) H locs → lv_has ls 9 [(0, .ref (a 0)), (1, .int x1), (2, .int x2), (3, .int x3), (4, .int x4), (5, .int x5), (6, .int x6), (7, .int x7)] → W p l e ({ frames := 4, cells := 0, slots := 0, locals := 94 } : Room) s m (([.ref (a 0), .int p1, .int p2, .int p3] : List Value).toArray) below meth c H locs 0 0 (MQ below (xQi D κ r' (WM κ a uv') A) (([.ref (a 0), .int p1, .int p2, .int p3] : List Value).toArray) s 0 0 A) (F0 m 24 ls []) := by
    intro  n
    induction n with
    | zero => intro x1 x2 x3 x4 x5 x6 x7 uv hf; cases hf
    | succ n ih =>
      intro x1 x2 x3 x4 x5 x6 x7 uv hf H locs ls hG hl
      replace hf : f_X5_behind_B24 (f_X5_behind_24 n) x1 x2 x3 x4 x5 x6 x7 uv = some (r', uv') := hf
      unfold f_X5_behind_B24 at hf
      refine lv_iload hx hb dX5_behind_24 (lv_at hl 7 rfl) ?_
      refine lv_if_eq (tgt := 139) hx hb dX5_behind_26 (by decide) (fun c12 => ?_) (fun c12 => ?_)
      · replace hf := if_t c12 hf
        refine lv_iload hx hb dX5_behind_139 (lv_at hl 6 rfl) ?_
        have hz := Option.some.inj hf
        have z0 := (Prod.mk.inj hz).1
        replace hz := (Prod.mk.inj hz).2
        have z1 := hz
        exact x_iret hx hb hr hlk hK hG z0 (by rw [z1]) dX5_behind_141
      · replace hf := if_f c12 hf
        refine lv_aload_n hx hb dX5_behind_29 rfl (lv_at hl 0 rfl) ?_
        refine lv_iload_n hx hb dX5_behind_30 rfl (lv_at hl 1 rfl) ?_
        obtain ⟨r13, uv14, q15, hf⟩ := cl2_e hf
        refine x_callVi (pre := ([] : va_W)) (wc := WM κ a uv) (wc1 := WM κ a uv14) (post := ([] : va_W)) (As := [.int x1]) (rest := []) (w1 := WM κ a uv14) ⟨hx, hb, hml, hown, hts⟩ hK hG hA (by simp only [List.append_assoc, List.nil_append, List.append_nil]) (by simp only [List.append_assoc, List.nil_append, List.append_nil]) (c_X5_isTree l D κ a H.size x1 uv r13 uv14 q15) (cwV 1 hts gX5_behind_X5_isTree rfl rfl rfl (by decide +kernel) ⟨Nat.le_of_ble_eq_true rfl, Nat.le_of_ble_eq_true rfl⟩) 0 5 rfl rfl rfl rfl hl.1 rfl (Nat.le_of_ble_eq_true rfl) dX5_behind_31 ⟨Nat.zero_le _, Nat.zero_le _⟩ (fun H locs hG => ?_)
        refine lv_if_eq (tgt := 128) hx hb dX5_behind_34 (by decide) (fun c16 => ?_) (fun c16 => ?_)
        · replace hf := if_t c16 hf
          exact L128 (f_X5_behind_24 n) ih  x1 x2 x3 x4 x5 x6 uv14 hf H locs ls hG (lv_sub hl [0, 1, 2, 3, 4, 5, 6] rfl)
        · replace hf := if_f c16 hf
          refine lv_aload_n hx hb dX5_behind_37 rfl (lv_at hl 0 rfl) ?_
          refine x_get (C := RX5) (T := TX5) (N := 27) (ci := 5) hx hb hts iX5 hown hK hG 0 rfl rfl 22 (by decide) k265 (v := .int (uv14.treeOutArcs)) rfl dX5_behind_38 ?_
          refine lv_iload_n hx hb dX5_behind_41 rfl (lv_at hl 2 rfl) ?_
          refine lv_ishr hx hb dX5_behind_42 ?_
          refine lv_iconst (v := 1) hx hb dX5_behind_43 (by decide) ?_
          refine lv_iand hx hb dX5_behind_44 ?_
          refine lv_iload_n hx hb dX5_behind_45 rfl (lv_at hl 3 rfl) ?_
          refine lv_if_eq (tgt := 53) hx hb dX5_behind_46 (by decide) (fun c17 => ?_) (fun c17 => ?_)
          · replace hf := if_t c17 hf
            refine lv_iconst (v := 0) hx hb dX5_behind_53 (by decide) ?_
            exact L54 (f_X5_behind_24 n) ih  x1 x2 x3 x4 x5 x6 (((uv14.treeOutArcs) >>> (x2 &&& 31)) &&& 1) 0 uv14 hf H locs ls hG (lv_sub hl [0, 1, 2, 3, 4, 5, 6] rfl)
          · replace hf := if_f c17 hf
            refine lv_iconst (v := 1) hx hb dX5_behind_49 (by decide) ?_
            refine lv_goto (tgt := 54) hx hb dX5_behind_50 (by decide) ?_
            exact L54 (f_X5_behind_24 n) ih  x1 x2 x3 x4 x5 x6 (((uv14.treeOutArcs) >>> (x2 &&& 31)) &&& 1) 1 uv14 hf H locs ls hG (lv_sub hl [0, 1, 2, 3, 4, 5, 6] rfl)
  unfold f_X5_behind at hf
  refine lv_aload_n hx hb dX5_behind_0 rfl (lv_at hl 0 rfl) ?_
  refine x_get (C := RX5) (T := TX5) (N := 27) (ci := 5) hx hb hts iX5 hown hK hG 0 rfl rfl 24 (by decide) k278 (v := .int (uv.bestCost)) rfl dX5_behind_1 ?_
  refine lv_topi (fun y18 ey18 => ?_)
  replace hf := bnd_at ey18 hf
  refine lv_istore (lv' := [(4, .int y18), (0, .ref (a 0)), (1, .int p1), (2, .int p2), (3, .int p3)]) hx hb dX5_behind_4 hl (by decide) rfl (fun ls hl => ?_)
  refine lv_aload_n hx hb dX5_behind_6 rfl (lv_at hl 1 rfl) ?_
  refine x_get (C := RX5) (T := TX5) (N := 27) (ci := 5) hx hb hts iX5 hown hK hG 0 rfl rfl 25 (by decide) k281 (v := .int (uv.bestArcs)) rfl dX5_behind_7 ?_
  refine lv_topi (fun y19 ey19 => ?_)
  replace hf := bnd_at ey19 hf
  refine lv_istore (lv' := [(5, .int y19), (4, .int y18), (0, .ref (a 0)), (1, .int p1), (2, .int p2), (3, .int p3)]) hx hb dX5_behind_10 hl (by decide) rfl (fun ls hl => ?_)
  refine lv_iconst (v := (-1)) hx hb dX5_behind_12 (by decide) ?_
  refine lv_istore (lv' := [(6, .int ((-1))), (5, .int y19), (4, .int y18), (0, .ref (a 0)), (1, .int p1), (2, .int p2), (3, .int p3)]) hx hb dX5_behind_13 hl (by decide) rfl (fun ls hl => ?_)
  refine lv_aload_n hx hb dX5_behind_15 rfl (lv_at hl 3 rfl) ?_
  refine lv_iload_n hx hb dX5_behind_16 rfl (lv_at hl 4 rfl) ?_
  refine lv_iconst (v := (-1)) hx hb dX5_behind_17 (by decide) ?_
  obtain ⟨uv20, q21, hf⟩ := cl1_e hf
  refine x_callVv (pre := ([] : va_W)) (wc := WM κ a uv) (wc1 := WM κ a uv20) (post := ([] : va_W)) (As := [.int p1, .int ((-1))]) (rest := []) (w1 := WM κ a uv20) ⟨hx, hb, hml, hown, hts⟩ hK hG hA (by simp only [List.append_assoc, List.nil_append, List.append_nil]) (by simp only [List.append_assoc, List.nil_append, List.append_nil]) (c_X5_firstChoice l D κ a H.size p1 ((-1)) uv uv20 q21) (cwV 2 hts gX5_behind_X5_firstChoice rfl rfl rfl (by decide +kernel) ⟨Nat.le_of_ble_eq_true rfl, Nat.le_of_ble_eq_true rfl⟩) 0 5 rfl rfl rfl rfl hl.1 rfl (Nat.le_of_ble_eq_true rfl) dX5_behind_18 ⟨Nat.zero_le _, Nat.zero_le _⟩ (fun H locs hG => ?_)
  refine lv_iconst (v := 1) hx hb dX5_behind_21 (by decide) ?_
  refine lv_istore (lv' := [(7, .int 1), (6, .int ((-1))), (5, .int y19), (4, .int y18), (0, .ref (a 0)), (1, .int p1), (2, .int p2), (3, .int p3)]) hx hb dX5_behind_22 hl (by decide) rfl (fun ls hl => ?_)
  exact L24  FU p1 p2 p3 y18 y19 ((-1)) 1 uv20 hf H locs ls hG (lv_sub hl [4, 5, 6, 7, 3, 2, 1, 0] rfl)
set_option maxRecDepth 100000 in
set_option maxHeartbeats 4000000 in
theorem c_X5_dearer (l : Launch) (D : va_G) (κ : Nat → ClassId) (a : Nat → Nat) (sz : Nat) (p1 : Int32) (p2 : Int32) (uv : MS) (r' : Int32) (uv' : MS) (hf : f_X5_dearer p1 p2 uv = some (r', uv')) : Met l yX5_dearer wsX5_dearer ({ frames := 5, cells := 0, slots := 0, locals := 122 } : Room) (xPc D κ [.ref (a 0), .int p1, .int p2] (WM κ a uv) sz) (xQi D κ r' (WM κ a uv') (va_A (WM κ a uv) sz)) 0 0 (va_A (WM κ a uv) sz) := by
  refine x_ofW (cc := cX5_dearer) (maxL := 4) (ret := (some .int)) (Qf := fun A => xQi D κ r' (WM κ a uv') A) (by decide) rfl (Nat.le_of_ble_eq_true rfl) ?_
  intro p e s m below meth c hx hb hr hlk hml hown hts hK A hA H locs hG ls hl
  have hown : s.vm.findClass RX5 = some m.cls := hown
  have hl : lv_has ls 4 [(0, .ref (a 0)), (1, .int p1), (2, .int p2)] := hl
  have iX5 : ∀ w ∈ u_ws RX5 TX5 27, w ∈ wsX5_dearer := fun _ h => List.mem_cons_of_mem _ (List.mem_append_right _ h)
  have k281 := hts (.fieldLink RX5 281 "SpineDesksModel" "bestArcs" "I") (List.mem_of_getElem? (i := 2) rfl)
  have k298 := hts (.constant RX5 298 (10000000)) (List.mem_of_getElem? (i := 3) rfl)
  have k63 := hts (.fieldLink RX5 63 "SpineDesksModel" "thrown" "I") (List.mem_of_getElem? (i := 1) rfl)
  unfold f_X5_dearer at hf
  refine lv_aload_n hx hb dX5_dearer_0 rfl (lv_at hl 0 rfl) ?_
  refine lv_iconst (v := 0) hx hb dX5_dearer_1 (by decide) ?_
  obtain ⟨uv1, euv1, hf⟩ := bnd_e hf
  refine x_put (C := RX5) (T := TX5) (N := 27) (ci := 5) hx hb hts iX5 tyX5 tyX5_ok nmX5 hown hK hG 0 rfl rfl 0 (by decide) k63 rfl (ty := .int) (v := .int 0) rfl rfl rfl (Nat.le_of_ble_eq_true rfl) (w1 := WM κ a uv1) (by rw [euv1]; rfl) dX5_dearer_2 (fun H locs hG => ?_)
  refine lv_iload_n hx hb dX5_dearer_5 rfl (lv_at hl 1 rfl) ?_
  obtain ⟨r2, q3, hf⟩ := cl1_e hf
  refine x_callSi (pre := ([] : va_W)) (wc := ([] : va_W)) (wc1 := ([] : va_W)) (post := WM κ a uv1) (As := [.int p1]) (rest := []) (w1 := WM κ a uv1) ⟨hx, hb, hml, hown, hts⟩ hK hG hA (by simp only [List.append_assoc, List.nil_append, List.append_nil]) (by simp only [List.append_assoc, List.nil_append, List.append_nil]) (c_X5_isPlace l D κ a H.size p1 r2 q3) (va_cwS 1 hts gX5_dearer_X5_isPlace rfl rfl rfl (by decide +kernel) ⟨Nat.le_of_ble_eq_true rfl, Nat.le_of_ble_eq_true rfl⟩) rfl hl.1 rfl (Nat.le_of_ble_eq_true rfl) dX5_dearer_6 ⟨Nat.zero_le _, Nat.zero_le _⟩ (fun H locs hG => ?_)
  refine lv_if_eq (tgt := 20) hx hb dX5_dearer_9 (by decide) (fun c4 => ?_) (fun c4 => ?_)
  · replace hf := if_t c4 hf
    refine lv_iconst (v := (-1)) hx hb dX5_dearer_20 (by decide) ?_
    have hz := Option.some.inj hf
    have z0 := (Prod.mk.inj hz).1
    replace hz := (Prod.mk.inj hz).2
    have z1 := hz
    exact x_iret hx hb hr hlk hK hG z0 (by rw [z1]) dX5_dearer_21
  · replace hf := if_f c4 hf
    refine lv_aload_n hx hb dX5_dearer_12 rfl (lv_at hl 0 rfl) ?_
    refine lv_iload_n hx hb dX5_dearer_13 rfl (lv_at hl 2 rfl) ?_
    obtain ⟨r5, q6, hf⟩ := cl1_e hf
    refine x_callVi (pre := ([] : va_W)) (wc := WM κ a uv1) (wc1 := WM κ a uv1) (post := ([] : va_W)) (As := [.int p2]) (rest := []) (w1 := WM κ a uv1) ⟨hx, hb, hml, hown, hts⟩ hK hG hA (by simp only [List.append_assoc, List.nil_append, List.append_nil]) (by simp only [List.append_assoc, List.nil_append, List.append_nil]) (c_X5_isArc l D κ a H.size p2 uv1 r5 q6) (cwV 1 hts gX5_dearer_X5_isArc rfl rfl rfl (by decide +kernel) ⟨Nat.le_of_ble_eq_true rfl, Nat.le_of_ble_eq_true rfl⟩) 0 5 rfl rfl rfl rfl hl.1 rfl (Nat.le_of_ble_eq_true rfl) dX5_dearer_14 ⟨Nat.zero_le _, Nat.zero_le _⟩ (fun H locs hG => ?_)
    refine lv_if_ne (tgt := 22) hx hb dX5_dearer_17 (by decide) (fun c7 => ?_) (fun c7 => ?_)
    · replace hf := if_f c7 hf
      refine lv_aload_n hx hb dX5_dearer_22 rfl (lv_at hl 0 rfl) ?_
      refine lv_iload_n hx hb dX5_dearer_23 rfl (lv_at hl 1 rfl) ?_
      refine lv_iconst (v := (-1)) hx hb dX5_dearer_24 (by decide) ?_
      refine lv_iconst (v := (-1)) hx hb dX5_dearer_25 (by decide) ?_
      obtain ⟨uv8, q9, hf⟩ := cl1_e hf
      refine x_callVv (pre := ([] : va_W)) (wc := WM κ a uv1) (wc1 := WM κ a uv8) (post := ([] : va_W)) (As := [.int p1, .int ((-1)), .int ((-1))]) (rest := []) (w1 := WM κ a uv8) ⟨hx, hb, hml, hown, hts⟩ hK hG hA (by simp only [List.append_assoc, List.nil_append, List.append_nil]) (by simp only [List.append_assoc, List.nil_append, List.append_nil]) (c_X5_findBest l D κ a H.size p1 ((-1)) ((-1)) uv1 uv8 q9) (cwV 3 hts gX5_dearer_X5_findBest rfl rfl rfl (by decide +kernel) ⟨Nat.le_of_ble_eq_true rfl, Nat.le_of_ble_eq_true rfl⟩) 0 5 rfl rfl rfl rfl hl.1 rfl (Nat.le_of_ble_eq_true rfl) dX5_dearer_26 ⟨Nat.zero_le _, Nat.zero_le _⟩ (fun H locs hG => ?_)
      refine lv_aload_n hx hb dX5_dearer_29 rfl (lv_at hl 0 rfl) ?_
      refine x_get (C := RX5) (T := TX5) (N := 27) (ci := 5) hx hb hts iX5 hown hK hG 0 rfl rfl 25 (by decide) k281 (v := .int (uv8.bestArcs)) rfl dX5_dearer_30 ?_
      refine lv_iload_n hx hb dX5_dearer_33 rfl (lv_at hl 2 rfl) ?_
      refine lv_ishr hx hb dX5_dearer_34 ?_
      refine lv_iconst (v := 1) hx hb dX5_dearer_35 (by decide) ?_
      refine lv_iand hx hb dX5_dearer_36 ?_
      refine lv_if_ne (tgt := 42) hx hb dX5_dearer_37 (by decide) (fun c10 => ?_) (fun c10 => ?_)
      · replace hf := if_f c10 hf
        refine lv_aload_n hx hb dX5_dearer_42 rfl (lv_at hl 0 rfl) ?_
        refine lv_iload_n hx hb dX5_dearer_43 rfl (lv_at hl 1 rfl) ?_
        refine lv_iload_n hx hb dX5_dearer_44 rfl (lv_at hl 2 rfl) ?_
        refine lv_iconst (v := 0) hx hb dX5_dearer_45 (by decide) ?_
        obtain ⟨r11, uv12, q13, hf⟩ := cl2_e hf
        refine x_callVi (pre := ([] : va_W)) (wc := WM κ a uv8) (wc1 := WM κ a uv12) (post := ([] : va_W)) (As := [.int p1, .int p2, .int 0]) (rest := []) (w1 := WM κ a uv12) ⟨hx, hb, hml, hown, hts⟩ hK hG hA (by simp only [List.append_assoc, List.nil_append, List.append_nil]) (by simp only [List.append_assoc, List.nil_append, List.append_nil]) (c_X5_behind l D κ a H.size p1 p2 0 uv8 r11 uv12 q13) (cwV 3 hts gX5_dearer_X5_behind rfl rfl rfl (by decide +kernel) ⟨Nat.le_of_ble_eq_true rfl, Nat.le_of_ble_eq_true rfl⟩) 0 5 rfl rfl rfl rfl hl.1 rfl (Nat.le_of_ble_eq_true rfl) dX5_dearer_46 ⟨Nat.zero_le _, Nat.zero_le _⟩ (fun H locs hG => ?_)
        refine lv_istore_n (lv' := [(3, .int r11), (0, .ref (a 0)), (1, .int p1), (2, .int p2)]) hx hb dX5_dearer_49 rfl hl (by decide) rfl (fun ls hl => ?_)
        refine lv_iload_n hx hb dX5_dearer_50 rfl (lv_at hl 0 rfl) ?_
        refine lv_iconst (v := (-1)) hx hb dX5_dearer_51 (by decide) ?_
        refine lv_icmp_ne (tgt := 61) hx hb dX5_dearer_52 (by decide) (fun c14 => ?_) (fun c14 => ?_)
        · replace hf := if_f c14 hf
          refine lv_iload_n hx hb dX5_dearer_61 rfl (lv_at hl 0 rfl) ?_
          have hz := Option.some.inj hf
          have z0 := (Prod.mk.inj hz).1
          replace hz := (Prod.mk.inj hz).2
          have z1 := hz
          exact x_iret hx hb hr hlk hK hG z0 (by rw [z1]) dX5_dearer_62
        · replace hf := if_t c14 hf
          refine lv_ldcw (v := 10000000) hx hb hown k298 dX5_dearer_55 ?_
          refine lv_goto (tgt := 62) hx hb dX5_dearer_58 (by decide) ?_
          have hz := Option.some.inj hf
          have z0 := (Prod.mk.inj hz).1
          replace hz := (Prod.mk.inj hz).2
          have z1 := hz
          exact x_iret hx hb hr hlk hK hG z0 (by rw [z1]) dX5_dearer_62
      · replace hf := if_t c10 hf
        refine lv_iconst (v := (-1)) hx hb dX5_dearer_40 (by decide) ?_
        have hz := Option.some.inj hf
        have z0 := (Prod.mk.inj hz).1
        replace hz := (Prod.mk.inj hz).2
        have z1 := hz
        exact x_iret hx hb hr hlk hK hG z0 (by rw [z1]) dX5_dearer_41
    · replace hf := if_t c7 hf
      refine lv_iconst (v := (-1)) hx hb dX5_dearer_20 (by decide) ?_
      have hz := Option.some.inj hf
      have z0 := (Prod.mk.inj hz).1
      replace hz := (Prod.mk.inj hz).2
      have z1 := hz
      exact x_iret hx hb hr hlk hK hG z0 (by rw [z1]) dX5_dearer_21
set_option maxRecDepth 100000 in
set_option maxHeartbeats 4000000 in
theorem c_X5_without (l : Launch) (D : va_G) (κ : Nat → ClassId) (a : Nat → Nat) (sz : Nat) (p1 : Int32) (p2 : Int32) (uv : MS) (r' : Int32) (uv' : MS) (hf : f_X5_without p1 p2 uv = some (r', uv')) : Met l yX5_without wsX5_without ({ frames := 5, cells := 0, slots := 0, locals := 118 } : Room) (xPc D κ [.ref (a 0), .int p1, .int p2] (WM κ a uv) sz) (xQi D κ r' (WM κ a uv') (va_A (WM κ a uv) sz)) 0 0 (va_A (WM κ a uv) sz) := by
  refine x_ofW (cc := cX5_without) (maxL := 5) (ret := (some .int)) (Qf := fun A => xQi D κ r' (WM κ a uv') A) (by decide) rfl (Nat.le_of_ble_eq_true rfl) ?_
  intro p e s m below meth c hx hb hr hlk hml hown hts hK A hA H locs hG ls hl
  have hown : s.vm.findClass RX5 = some m.cls := hown
  have hl : lv_has ls 5 [(0, .ref (a 0)), (1, .int p1), (2, .int p2)] := hl
  have iX5 : ∀ w ∈ u_ws RX5 TX5 27, w ∈ wsX5_without := fun _ h => List.mem_cons_of_mem _ (List.mem_append_right _ h)
  have k252 := hts (.fieldLink RX5 252 "SpineDesksModel" "reached" "I") (List.mem_of_getElem? (i := 3) rfl)
  have k278 := hts (.fieldLink RX5 278 "SpineDesksModel" "bestCost" "I") (List.mem_of_getElem? (i := 2) rfl)
  have k298 := hts (.constant RX5 298 (10000000)) (List.mem_of_getElem? (i := 4) rfl)
  have k63 := hts (.fieldLink RX5 63 "SpineDesksModel" "thrown" "I") (List.mem_of_getElem? (i := 1) rfl)
  unfold f_X5_without at hf
  refine lv_aload_n hx hb dX5_without_0 rfl (lv_at hl 0 rfl) ?_
  refine lv_iconst (v := 0) hx hb dX5_without_1 (by decide) ?_
  obtain ⟨uv1, euv1, hf⟩ := bnd_e hf
  refine x_put (C := RX5) (T := TX5) (N := 27) (ci := 5) hx hb hts iX5 tyX5 tyX5_ok nmX5 hown hK hG 0 rfl rfl 0 (by decide) k63 rfl (ty := .int) (v := .int 0) rfl rfl rfl (Nat.le_of_ble_eq_true rfl) (w1 := WM κ a uv1) (by rw [euv1]; rfl) dX5_without_2 (fun H locs hG => ?_)
  refine lv_iload_n hx hb dX5_without_5 rfl (lv_at hl 1 rfl) ?_
  obtain ⟨r2, q3, hf⟩ := cl1_e hf
  refine x_callSi (pre := ([] : va_W)) (wc := ([] : va_W)) (wc1 := ([] : va_W)) (post := WM κ a uv1) (As := [.int p1]) (rest := []) (w1 := WM κ a uv1) ⟨hx, hb, hml, hown, hts⟩ hK hG hA (by simp only [List.append_assoc, List.nil_append, List.append_nil]) (by simp only [List.append_assoc, List.nil_append, List.append_nil]) (c_X5_isPlace l D κ a H.size p1 r2 q3) (va_cwS 1 hts gX5_without_X5_isPlace rfl rfl rfl (by decide +kernel) ⟨Nat.le_of_ble_eq_true rfl, Nat.le_of_ble_eq_true rfl⟩) rfl hl.1 rfl (Nat.le_of_ble_eq_true rfl) dX5_without_6 ⟨Nat.zero_le _, Nat.zero_le _⟩ (fun H locs hG => ?_)
  refine lv_if_eq (tgt := 20) hx hb dX5_without_9 (by decide) (fun c4 => ?_) (fun c4 => ?_)
  · replace hf := if_t c4 hf
    refine lv_iconst (v := (-1)) hx hb dX5_without_20 (by decide) ?_
    have hz := Option.some.inj hf
    have z0 := (Prod.mk.inj hz).1
    replace hz := (Prod.mk.inj hz).2
    have z1 := hz
    exact x_iret hx hb hr hlk hK hG z0 (by rw [z1]) dX5_without_21
  · replace hf := if_f c4 hf
    refine lv_aload_n hx hb dX5_without_12 rfl (lv_at hl 0 rfl) ?_
    refine lv_iload_n hx hb dX5_without_13 rfl (lv_at hl 2 rfl) ?_
    obtain ⟨r5, q6, hf⟩ := cl1_e hf
    refine x_callVi (pre := ([] : va_W)) (wc := WM κ a uv1) (wc1 := WM κ a uv1) (post := ([] : va_W)) (As := [.int p2]) (rest := []) (w1 := WM κ a uv1) ⟨hx, hb, hml, hown, hts⟩ hK hG hA (by simp only [List.append_assoc, List.nil_append, List.append_nil]) (by simp only [List.append_assoc, List.nil_append, List.append_nil]) (c_X5_isArc l D κ a H.size p2 uv1 r5 q6) (cwV 1 hts gX5_without_X5_isArc rfl rfl rfl (by decide +kernel) ⟨Nat.le_of_ble_eq_true rfl, Nat.le_of_ble_eq_true rfl⟩) 0 5 rfl rfl rfl rfl hl.1 rfl (Nat.le_of_ble_eq_true rfl) dX5_without_14 ⟨Nat.zero_le _, Nat.zero_le _⟩ (fun H locs hG => ?_)
    refine lv_if_ne (tgt := 22) hx hb dX5_without_17 (by decide) (fun c7 => ?_) (fun c7 => ?_)
    · replace hf := if_f c7 hf
      refine lv_aload_n hx hb dX5_without_22 rfl (lv_at hl 0 rfl) ?_
      refine lv_iload_n hx hb dX5_without_23 rfl (lv_at hl 1 rfl) ?_
      refine lv_iconst (v := (-1)) hx hb dX5_without_24 (by decide) ?_
      refine lv_iconst (v := (-1)) hx hb dX5_without_25 (by decide) ?_
      obtain ⟨uv8, q9, hf⟩ := cl1_e hf
      refine x_callVv (pre := ([] : va_W)) (wc := WM κ a uv1) (wc1 := WM κ a uv8) (post := ([] : va_W)) (As := [.int p1, .int ((-1)), .int ((-1))]) (rest := []) (w1 := WM κ a uv8) ⟨hx, hb, hml, hown, hts⟩ hK hG hA (by simp only [List.append_assoc, List.nil_append, List.append_nil]) (by simp only [List.append_assoc, List.nil_append, List.append_nil]) (c_X5_findBest l D κ a H.size p1 ((-1)) ((-1)) uv1 uv8 q9) (cwV 3 hts gX5_without_X5_findBest rfl rfl rfl (by decide +kernel) ⟨Nat.le_of_ble_eq_true rfl, Nat.le_of_ble_eq_true rfl⟩) 0 5 rfl rfl rfl rfl hl.1 rfl (Nat.le_of_ble_eq_true rfl) dX5_without_26 ⟨Nat.zero_le _, Nat.zero_le _⟩ (fun H locs hG => ?_)
      refine lv_aload_n hx hb dX5_without_29 rfl (lv_at hl 0 rfl) ?_
      refine x_get (C := RX5) (T := TX5) (N := 27) (ci := 5) hx hb hts iX5 hown hK hG 0 rfl rfl 24 (by decide) k278 (v := .int (uv8.bestCost)) rfl dX5_without_30 ?_
      refine lv_topi (fun y10 ey10 => ?_)
      replace hf := bnd_at ey10 hf
      refine lv_istore_n (lv' := [(3, .int y10), (0, .ref (a 0)), (1, .int p1), (2, .int p2)]) hx hb dX5_without_33 rfl hl (by decide) rfl (fun ls hl => ?_)
      refine lv_aload_n hx hb dX5_without_34 rfl (lv_at hl 1 rfl) ?_
      refine x_get (C := RX5) (T := TX5) (N := 27) (ci := 5) hx hb hts iX5 hown hK hG 0 rfl rfl 23 (by decide) k252 (v := .int (uv8.reached)) rfl dX5_without_35 ?_
      refine lv_topi (fun y11 ey11 => ?_)
      replace hf := bnd_at ey11 hf
      refine lv_istore (lv' := [(4, .int y11), (3, .int y10), (0, .ref (a 0)), (1, .int p1), (2, .int p2)]) hx hb dX5_without_38 hl (by decide) rfl (fun ls hl => ?_)
      refine lv_aload_n hx hb dX5_without_40 rfl (lv_at hl 2 rfl) ?_
      refine lv_iload_n hx hb dX5_without_41 rfl (lv_at hl 3 rfl) ?_
      refine lv_iload_n hx hb dX5_without_42 rfl (lv_at hl 4 rfl) ?_
      obtain ⟨r12, q13, hf⟩ := cl1_e hf
      refine x_callVi (pre := ([] : va_W)) (wc := WM κ a uv8) (wc1 := WM κ a uv8) (post := ([] : va_W)) (As := [.int p1, .int p2]) (rest := []) (w1 := WM κ a uv8) ⟨hx, hb, hml, hown, hts⟩ hK hG hA (by simp only [List.append_assoc, List.nil_append, List.append_nil]) (by simp only [List.append_assoc, List.nil_append, List.append_nil]) (c_X5_reach l D κ a H.size p1 p2 uv8 r12 q13) (cwV 2 hts gX5_without_X5_reach rfl rfl rfl (by decide +kernel) ⟨Nat.le_of_ble_eq_true rfl, Nat.le_of_ble_eq_true rfl⟩) 0 5 rfl rfl rfl rfl hl.1 rfl (Nat.le_of_ble_eq_true rfl) dX5_without_43 ⟨Nat.zero_le _, Nat.zero_le _⟩ (fun H locs hG => ?_)
      refine lv_iload hx hb dX5_without_46 (lv_at hl 0 rfl) ?_
      refine lv_icmp_eq (tgt := 55) hx hb dX5_without_48 (by decide) (fun c14 => ?_) (fun c14 => ?_)
      · replace hf := if_t c14 hf
        refine lv_aload_n hx hb dX5_without_55 rfl (lv_at hl 2 rfl) ?_
        refine lv_iload_n hx hb dX5_without_56 rfl (lv_at hl 3 rfl) ?_
        refine lv_iload_n hx hb dX5_without_57 rfl (lv_at hl 4 rfl) ?_
        refine lv_iconst (v := (-1)) hx hb dX5_without_58 (by decide) ?_
        obtain ⟨uv15, q16, hf⟩ := cl1_e hf
        refine x_callVv (pre := ([] : va_W)) (wc := WM κ a uv8) (wc1 := WM κ a uv15) (post := ([] : va_W)) (As := [.int p1, .int p2, .int ((-1))]) (rest := []) (w1 := WM κ a uv15) ⟨hx, hb, hml, hown, hts⟩ hK hG hA (by simp only [List.append_assoc, List.nil_append, List.append_nil]) (by simp only [List.append_assoc, List.nil_append, List.append_nil]) (c_X5_findBest l D κ a H.size p1 p2 ((-1)) uv8 uv15 q16) (cwV 3 hts gX5_without_X5_findBest rfl rfl rfl (by decide +kernel) ⟨Nat.le_of_ble_eq_true rfl, Nat.le_of_ble_eq_true rfl⟩) 0 5 rfl rfl rfl rfl hl.1 rfl (Nat.le_of_ble_eq_true rfl) dX5_without_59 ⟨Nat.zero_le _, Nat.zero_le _⟩ (fun H locs hG => ?_)
        refine lv_aload_n hx hb dX5_without_62 rfl (lv_at hl 2 rfl) ?_
        refine x_get (C := RX5) (T := TX5) (N := 27) (ci := 5) hx hb hts iX5 hown hK hG 0 rfl rfl 24 (by decide) k278 (v := .int (uv15.bestCost)) rfl dX5_without_63 ?_
        refine lv_iload_n hx hb dX5_without_66 rfl (lv_at hl 1 rfl) ?_
        refine lv_isub hx hb dX5_without_67 ?_
        have hz := Option.some.inj hf
        have z0 := (Prod.mk.inj hz).1
        replace hz := (Prod.mk.inj hz).2
        have z1 := hz
        exact x_iret hx hb hr hlk hK hG z0 (by rw [z1]) dX5_without_68
      · replace hf := if_f c14 hf
        refine lv_ldcw (v := 10000000) hx hb hown k298 dX5_without_51 ?_
        have hz := Option.some.inj hf
        have z0 := (Prod.mk.inj hz).1
        replace hz := (Prod.mk.inj hz).2
        have z1 := hz
        exact x_iret hx hb hr hlk hK hG z0 (by rw [z1]) dX5_without_54
    · replace hf := if_t c7 hf
      refine lv_iconst (v := (-1)) hx hb dX5_without_20 (by decide) ?_
      have hz := Option.some.inj hf
      have z0 := (Prod.mk.inj hz).1
      replace hz := (Prod.mk.inj hz).2
      have z1 := hz
      exact x_iret hx hb hr hlk hK hG z0 (by rw [z1]) dX5_without_21
set_option maxRecDepth 100000 in
set_option maxHeartbeats 4000000 in
theorem c_X5_cheaper (l : Launch) (D : va_G) (κ : Nat → ClassId) (a : Nat → Nat) (sz : Nat) (p1 : Int32) (p2 : Int32) (uv : MS) (r' : Int32) (uv' : MS) (hf : f_X5_cheaper p1 p2 uv = some (r', uv')) : Met l yX5_cheaper wsX5_cheaper ({ frames := 5, cells := 0, slots := 0, locals := 122 } : Room) (xPc D κ [.ref (a 0), .int p1, .int p2] (WM κ a uv) sz) (xQi D κ r' (WM κ a uv') (va_A (WM κ a uv) sz)) 0 0 (va_A (WM κ a uv) sz) := by
  refine x_ofW (cc := cX5_cheaper) (maxL := 4) (ret := (some .int)) (Qf := fun A => xQi D κ r' (WM κ a uv') A) (by decide) rfl (Nat.le_of_ble_eq_true rfl) ?_
  intro p e s m below meth c hx hb hr hlk hml hown hts hK A hA H locs hG ls hl
  have hown : s.vm.findClass RX5 = some m.cls := hown
  have hl : lv_has ls 4 [(0, .ref (a 0)), (1, .int p1), (2, .int p2)] := hl
  have iX5 : ∀ w ∈ u_ws RX5 TX5 27, w ∈ wsX5_cheaper := fun _ h => List.mem_cons_of_mem _ (List.mem_append_right _ h)
  have k281 := hts (.fieldLink RX5 281 "SpineDesksModel" "bestArcs" "I") (List.mem_of_getElem? (i := 2) rfl)
  have k298 := hts (.constant RX5 298 (10000000)) (List.mem_of_getElem? (i := 3) rfl)
  have k63 := hts (.fieldLink RX5 63 "SpineDesksModel" "thrown" "I") (List.mem_of_getElem? (i := 1) rfl)
  unfold f_X5_cheaper at hf
  refine lv_aload_n hx hb dX5_cheaper_0 rfl (lv_at hl 0 rfl) ?_
  refine lv_iconst (v := 0) hx hb dX5_cheaper_1 (by decide) ?_
  obtain ⟨uv1, euv1, hf⟩ := bnd_e hf
  refine x_put (C := RX5) (T := TX5) (N := 27) (ci := 5) hx hb hts iX5 tyX5 tyX5_ok nmX5 hown hK hG 0 rfl rfl 0 (by decide) k63 rfl (ty := .int) (v := .int 0) rfl rfl rfl (Nat.le_of_ble_eq_true rfl) (w1 := WM κ a uv1) (by rw [euv1]; rfl) dX5_cheaper_2 (fun H locs hG => ?_)
  refine lv_iload_n hx hb dX5_cheaper_5 rfl (lv_at hl 1 rfl) ?_
  obtain ⟨r2, q3, hf⟩ := cl1_e hf
  refine x_callSi (pre := ([] : va_W)) (wc := ([] : va_W)) (wc1 := ([] : va_W)) (post := WM κ a uv1) (As := [.int p1]) (rest := []) (w1 := WM κ a uv1) ⟨hx, hb, hml, hown, hts⟩ hK hG hA (by simp only [List.append_assoc, List.nil_append, List.append_nil]) (by simp only [List.append_assoc, List.nil_append, List.append_nil]) (c_X5_isPlace l D κ a H.size p1 r2 q3) (va_cwS 1 hts gX5_cheaper_X5_isPlace rfl rfl rfl (by decide +kernel) ⟨Nat.le_of_ble_eq_true rfl, Nat.le_of_ble_eq_true rfl⟩) rfl hl.1 rfl (Nat.le_of_ble_eq_true rfl) dX5_cheaper_6 ⟨Nat.zero_le _, Nat.zero_le _⟩ (fun H locs hG => ?_)
  refine lv_if_eq (tgt := 20) hx hb dX5_cheaper_9 (by decide) (fun c4 => ?_) (fun c4 => ?_)
  · replace hf := if_t c4 hf
    refine lv_iconst (v := (-1)) hx hb dX5_cheaper_20 (by decide) ?_
    have hz := Option.some.inj hf
    have z0 := (Prod.mk.inj hz).1
    replace hz := (Prod.mk.inj hz).2
    have z1 := hz
    exact x_iret hx hb hr hlk hK hG z0 (by rw [z1]) dX5_cheaper_21
  · replace hf := if_f c4 hf
    refine lv_aload_n hx hb dX5_cheaper_12 rfl (lv_at hl 0 rfl) ?_
    refine lv_iload_n hx hb dX5_cheaper_13 rfl (lv_at hl 2 rfl) ?_
    obtain ⟨r5, q6, hf⟩ := cl1_e hf
    refine x_callVi (pre := ([] : va_W)) (wc := WM κ a uv1) (wc1 := WM κ a uv1) (post := ([] : va_W)) (As := [.int p2]) (rest := []) (w1 := WM κ a uv1) ⟨hx, hb, hml, hown, hts⟩ hK hG hA (by simp only [List.append_assoc, List.nil_append, List.append_nil]) (by simp only [List.append_assoc, List.nil_append, List.append_nil]) (c_X5_isArc l D κ a H.size p2 uv1 r5 q6) (cwV 1 hts gX5_cheaper_X5_isArc rfl rfl rfl (by decide +kernel) ⟨Nat.le_of_ble_eq_true rfl, Nat.le_of_ble_eq_true rfl⟩) 0 5 rfl rfl rfl rfl hl.1 rfl (Nat.le_of_ble_eq_true rfl) dX5_cheaper_14 ⟨Nat.zero_le _, Nat.zero_le _⟩ (fun H locs hG => ?_)
    refine lv_if_ne (tgt := 22) hx hb dX5_cheaper_17 (by decide) (fun c7 => ?_) (fun c7 => ?_)
    · replace hf := if_f c7 hf
      refine lv_aload_n hx hb dX5_cheaper_22 rfl (lv_at hl 0 rfl) ?_
      refine lv_iload_n hx hb dX5_cheaper_23 rfl (lv_at hl 1 rfl) ?_
      refine lv_iconst (v := (-1)) hx hb dX5_cheaper_24 (by decide) ?_
      refine lv_iconst (v := (-1)) hx hb dX5_cheaper_25 (by decide) ?_
      obtain ⟨uv8, q9, hf⟩ := cl1_e hf
      refine x_callVv (pre := ([] : va_W)) (wc := WM κ a uv1) (wc1 := WM κ a uv8) (post := ([] : va_W)) (As := [.int p1, .int ((-1)), .int ((-1))]) (rest := []) (w1 := WM κ a uv8) ⟨hx, hb, hml, hown, hts⟩ hK hG hA (by simp only [List.append_assoc, List.nil_append, List.append_nil]) (by simp only [List.append_assoc, List.nil_append, List.append_nil]) (c_X5_findBest l D κ a H.size p1 ((-1)) ((-1)) uv1 uv8 q9) (cwV 3 hts gX5_cheaper_X5_findBest rfl rfl rfl (by decide +kernel) ⟨Nat.le_of_ble_eq_true rfl, Nat.le_of_ble_eq_true rfl⟩) 0 5 rfl rfl rfl rfl hl.1 rfl (Nat.le_of_ble_eq_true rfl) dX5_cheaper_26 ⟨Nat.zero_le _, Nat.zero_le _⟩ (fun H locs hG => ?_)
      refine lv_aload_n hx hb dX5_cheaper_29 rfl (lv_at hl 0 rfl) ?_
      refine x_get (C := RX5) (T := TX5) (N := 27) (ci := 5) hx hb hts iX5 hown hK hG 0 rfl rfl 25 (by decide) k281 (v := .int (uv8.bestArcs)) rfl dX5_cheaper_30 ?_
      refine lv_iload_n hx hb dX5_cheaper_33 rfl (lv_at hl 2 rfl) ?_
      refine lv_ishr hx hb dX5_cheaper_34 ?_
      refine lv_iconst (v := 1) hx hb dX5_cheaper_35 (by decide) ?_
      refine lv_iand hx hb dX5_cheaper_36 ?_
      refine lv_iconst (v := 1) hx hb dX5_cheaper_37 (by decide) ?_
      refine lv_icmp_ne (tgt := 43) hx hb dX5_cheaper_38 (by decide) (fun c10 => ?_) (fun c10 => ?_)
      · replace hf := if_f c10 hf
        refine lv_aload_n hx hb dX5_cheaper_43 rfl (lv_at hl 0 rfl) ?_
        refine lv_iload_n hx hb dX5_cheaper_44 rfl (lv_at hl 1 rfl) ?_
        refine lv_iload_n hx hb dX5_cheaper_45 rfl (lv_at hl 2 rfl) ?_
        refine lv_iconst (v := 1) hx hb dX5_cheaper_46 (by decide) ?_
        obtain ⟨r11, uv12, q13, hf⟩ := cl2_e hf
        refine x_callVi (pre := ([] : va_W)) (wc := WM κ a uv8) (wc1 := WM κ a uv12) (post := ([] : va_W)) (As := [.int p1, .int p2, .int 1]) (rest := []) (w1 := WM κ a uv12) ⟨hx, hb, hml, hown, hts⟩ hK hG hA (by simp only [List.append_assoc, List.nil_append, List.append_nil]) (by simp only [List.append_assoc, List.nil_append, List.append_nil]) (c_X5_behind l D κ a H.size p1 p2 1 uv8 r11 uv12 q13) (cwV 3 hts gX5_cheaper_X5_behind rfl rfl rfl (by decide +kernel) ⟨Nat.le_of_ble_eq_true rfl, Nat.le_of_ble_eq_true rfl⟩) 0 5 rfl rfl rfl rfl hl.1 rfl (Nat.le_of_ble_eq_true rfl) dX5_cheaper_47 ⟨Nat.zero_le _, Nat.zero_le _⟩ (fun H locs hG => ?_)
        refine lv_istore_n (lv' := [(3, .int r11), (0, .ref (a 0)), (1, .int p1), (2, .int p2)]) hx hb dX5_cheaper_50 rfl hl (by decide) rfl (fun ls hl => ?_)
        refine lv_iload_n hx hb dX5_cheaper_51 rfl (lv_at hl 0 rfl) ?_
        refine lv_iconst (v := (-1)) hx hb dX5_cheaper_52 (by decide) ?_
        refine lv_icmp_ne (tgt := 62) hx hb dX5_cheaper_53 (by decide) (fun c14 => ?_) (fun c14 => ?_)
        · replace hf := if_f c14 hf
          refine lv_iload_n hx hb dX5_cheaper_62 rfl (lv_at hl 0 rfl) ?_
          have hz := Option.some.inj hf
          have z0 := (Prod.mk.inj hz).1
          replace hz := (Prod.mk.inj hz).2
          have z1 := hz
          exact x_iret hx hb hr hlk hK hG z0 (by rw [z1]) dX5_cheaper_63
        · replace hf := if_t c14 hf
          refine lv_ldcw (v := 10000000) hx hb hown k298 dX5_cheaper_56 ?_
          refine lv_goto (tgt := 63) hx hb dX5_cheaper_59 (by decide) ?_
          have hz := Option.some.inj hf
          have z0 := (Prod.mk.inj hz).1
          replace hz := (Prod.mk.inj hz).2
          have z1 := hz
          exact x_iret hx hb hr hlk hK hG z0 (by rw [z1]) dX5_cheaper_63
      · replace hf := if_t c10 hf
        refine lv_iconst (v := 0) hx hb dX5_cheaper_41 (by decide) ?_
        have hz := Option.some.inj hf
        have z0 := (Prod.mk.inj hz).1
        replace hz := (Prod.mk.inj hz).2
        have z1 := hz
        exact x_iret hx hb hr hlk hK hG z0 (by rw [z1]) dX5_cheaper_42
    · replace hf := if_t c7 hf
      refine lv_iconst (v := (-1)) hx hb dX5_cheaper_20 (by decide) ?_
      have hz := Option.some.inj hf
      have z0 := (Prod.mk.inj hz).1
      replace hz := (Prod.mk.inj hz).2
      have z1 := hz
      exact x_iret hx hb hr hlk hK hG z0 (by rw [z1]) dX5_cheaper_21
