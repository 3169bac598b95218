set_option maxRecDepth 100000 in
set_option maxHeartbeats 4000000 in
theorem c_X5_moveAll (l : Launch) (D : va_G) (κ : Nat → ClassId) (a : Nat → Nat) (sz : Nat) (p1 : Int32) (p2 : Int32) (uv : MS)  (uv' : MS) (hf : f_X5_moveAll p1 p2 uv = some (uv')) : Met l yX5_moveAll wsX5_moveAll ({ frames := 1, cells := 0, slots := 0, locals := 20 } : Room) (xPc D κ [.ref (a 0), .int p1, .int p2] (WM κ a uv) sz) (xQv D κ (WM κ a uv') (va_A (WM κ a uv) sz)) 0 0 (va_A (WM κ a uv) sz) := by
  refine x_ofW (cc := cX5_moveAll) (maxL := 4) (ret := none) (Qf := fun A => xQv D κ (WM κ a uv') A) (by decide) rfl (Nat.le_of_ble_eq_true rfl) ?_
  intro p e s m below meth c hx hb hr hlk hml hown hts hK A hA H locs hG ls hl
  have hown : s.vm.findClass RX5 = some m.cls := hown
  have hl : lv_has ls 4 [(0, .ref (a 0)), (1, .int p1), (2, .int p2)] := hl
  have iX5 : ∀ w ∈ u_ws RX5 TX5 27, w ∈ wsX5_moveAll := fun _ h => List.mem_cons_of_mem _ (List.mem_append_right _ h)
  have k13 := hts (.fieldLink RX5 13 "SpineDesksModel" "row" "[I") (List.mem_of_getElem? (i := 1) rfl)
  have L52 : ∀ (rec2 : Int32 → Int32 → Int32 → MS → Option (MS)) (hr2 : ∀ (y1 : Int32) (y2 : Int32) (y3 : Int32) (uv : MS), rec2 y1 y2 y3 uv = some (uv') → ∀ (H : Heap) (locs : List Loc) (ls : Array Slot), xG D A s.heap (WM κ a uv) H locs → lv_has ls 4 [(0, .ref (a 0)), (1, .int y1), (2, .int y2), (3, .int y3)] → W p l e ({ frames := 1, cells := 0, slots := 0, locals := 20 } : Room) s m (([.ref (a 0), .int p1, .int p2] : List Value).toArray) below meth c H locs 0 0 (MQ below (xQv D κ (WM κ a uv') A) (([.ref (a 0), .int p1, .int p2] : List Value).toArray) s 0 0 A) (F0 m 2 ls [])), ∀ (x1 : Int32) (x2 : Int32) (x3 : Int32) (s1 : Int32) (s2 : Int32) (uv : MS), f_X5_moveAll_52 rec2 x1 x2 x3 s1 s2 uv = some (uv') → ∀ (H : Heap) (locs : List Loc) (ls : Array Slot), xG D A s.heap (WM κ a uv) H locs → lv_has ls 4 [(0, .ref (a 0)), (1, .int x1), (2, .int x2), (3, .int x3)] → W p l e ({ frames := 1, cells := 0, slots := 0, locals := 20 } : Room) s m (([.ref (a 0), .int p1, .int p2] : List Value).toArray) below meth c H locs 0 0 (MQ below (xQv D κ (WM κ a uv') A) (([.ref (a 0), .int p1, .int p2] : List Value).toArray) s 0 0 A) (F0 m 52 ls [.int s2, .int s1, .ref (a 2)]) := by
    intro rec2 hr2 x1 x2 x3 s1 s2 uv hf H locs ls hG hl
    unfold f_X5_moveAll_52 at hf
    obtain ⟨uv1, euv1, hin, hf⟩ := ck_e hf
    refine x_iast hx hb hK hG 2 rfl (w1 := WM κ a uv1) (by rw [euv1]; rfl) hin dX5_moveAll_52 (fun H locs hG => ?_)
    obtain ⟨y2, ey2, hf⟩ := bnd_e hf
    refine lv_iinc (v := y2) (lv' := [(3, .int y2), (0, .ref (a 0)), (1, .int x1), (2, .int x2)]) hx hb dX5_moveAll_53 hl (k := 3) rfl (by rw [ey2]; rfl) (by decide) rfl (fun ls hl => ?_)
    refine lv_goto (tgt := 2) hx hb dX5_moveAll_56 (by decide) ?_
    exact hr2 x1 x2 y2 uv1 hf H locs ls hG (lv_sub hl [1, 2, 3, 0] rfl)
  have L2 : ∀ (n : Nat), ∀ (x1 : Int32) (x2 : Int32) (x3 : Int32) (uv : MS), f_X5_moveAll_2 n x1 x2 x3 uv = some (uv') → ∀ (H : Heap) (locs : List Loc) (ls : Array Slot), xG D A s.heap (WM κ a uv) H locs → lv_has ls 4 [(0, .ref (a 0)), (1, .int x1), (2, .int x2), (3, .int x3)] → W p l e ({ frames := 1, cells := 0, slots := 0, locals := 20 } : Room) s m (([.ref (a 0), .int p1, .int p2] : List Value).toArray) below meth c H locs 0 0 (MQ below (xQv D κ (WM κ a uv') A) (([.ref (a 0), .int p1, .int p2] : List Value).toArray) s 0 0 A) (F0 m 2 ls []) := by
    intro  n
    induction n with
    | zero => intro x1 x2 x3 uv hf; cases hf
    | succ n ih =>
      intro x1 x2 x3 uv hf H locs ls hG hl
      replace hf : f_X5_moveAll_B2 (f_X5_moveAll_2 n) x1 x2 x3 uv = some (uv') := hf
      unfold f_X5_moveAll_B2 at hf
      refine lv_iload_n hx hb dX5_moveAll_2 rfl (lv_at hl 3 rfl) ?_
      refine lv_aload_n hx hb dX5_moveAll_3 rfl (lv_at hl 0 rfl) ?_
      refine x_get (C := RX5) (T := TX5) (N := 27) (ci := 5) hx hb hts iX5 hown hK hG 0 rfl rfl 2 (by decide) k13 (v := .ref (a 2)) rfl dX5_moveAll_4 ?_
      refine lv_iconst (v := 0) hx hb dX5_moveAll_7 (by decide) ?_
      obtain ⟨v3, ev3, hin, hf⟩ := ck_e hf
      refine x_iald hx hb hK hG 2 rfl ev3 hin dX5_moveAll_8 ?_
      refine lv_icmp_ge (tgt := 59) hx hb dX5_moveAll_9 (by decide) (fun c4 => ?_) (fun c4 => ?_)
      · replace hf := if_t c4 hf
        have z0 := Option.some.inj hf
        exact x_vret hx hb hr hlk hK hG (by rw [z0]) dX5_moveAll_59
      · replace hf := if_f c4 hf
        refine lv_aload_n hx hb dX5_moveAll_12 rfl (lv_at hl 0 rfl) ?_
        refine x_get (C := RX5) (T := TX5) (N := 27) (ci := 5) hx hb hts iX5 hown hK hG 0 rfl rfl 2 (by decide) k13 (v := .ref (a 2)) rfl dX5_moveAll_13 ?_
        refine lv_iload_n hx hb dX5_moveAll_16 rfl (lv_at hl 3 rfl) ?_
        obtain ⟨r5, q6, hf⟩ := cl1_e hf
        refine x_callSi (pre := ([] : va_W)) (wc := ([] : va_W)) (wc1 := ([] : va_W)) (post := WM κ a uv) (As := [.int x3]) (rest := [.ref (a 2)]) (w1 := WM κ a uv) ⟨hx, hb, hml, hown, hts⟩ hK hG hA (by simp only [List.append_assoc, List.nil_append, List.append_nil]) (by simp only [List.append_assoc, List.nil_append, List.append_nil]) (c_X5_at l D κ a H.size x3 r5 q6) (va_cwS 1 hts gX5_moveAll_X5_at rfl rfl rfl (by decide +kernel) ⟨Nat.le_of_ble_eq_true rfl, Nat.le_of_ble_eq_true rfl⟩) rfl hl.1 rfl (Nat.le_of_ble_eq_true rfl) dX5_moveAll_17 ⟨Nat.zero_le _, Nat.zero_le _⟩ (fun H locs hG => ?_)
        refine lv_iconst (v := 1) hx hb dX5_moveAll_20 (by decide) ?_
        refine lv_iadd hx hb dX5_moveAll_21 ?_
        refine lv_aload_n hx hb dX5_moveAll_22 rfl (lv_at hl 0 rfl) ?_
        refine x_get (C := RX5) (T := TX5) (N := 27) (ci := 5) hx hb hts iX5 hown hK hG 0 rfl rfl 2 (by decide) k13 (v := .ref (a 2)) rfl dX5_moveAll_23 ?_
        refine lv_iload_n hx hb dX5_moveAll_26 rfl (lv_at hl 3 rfl) ?_
        obtain ⟨r7, q8, hf⟩ := cl1_e hf
        refine x_callSi (pre := ([] : va_W)) (wc := ([] : va_W)) (wc1 := ([] : va_W)) (post := WM κ a uv) (As := [.int x3]) (rest := [.ref (a 2), .int (r5 + 1), .ref (a 2)]) (w1 := WM κ a uv) ⟨hx, hb, hml, hown, hts⟩ hK hG hA (by simp only [List.append_assoc, List.nil_append, List.append_nil]) (by simp only [List.append_assoc, List.nil_append, List.append_nil]) (c_X5_at l D κ a H.size x3 r7 q8) (va_cwS 1 hts gX5_moveAll_X5_at rfl rfl rfl (by decide +kernel) ⟨Nat.le_of_ble_eq_true rfl, Nat.le_of_ble_eq_true rfl⟩) rfl hl.1 rfl (Nat.le_of_ble_eq_true rfl) dX5_moveAll_27 ⟨Nat.zero_le _, Nat.zero_le _⟩ (fun H locs hG => ?_)
        refine lv_iconst (v := 1) hx hb dX5_moveAll_30 (by decide) ?_
        refine lv_iadd hx hb dX5_moveAll_31 ?_
        obtain ⟨v9, ev9, hin, hf⟩ := ck_e hf
        refine x_iald hx hb hK hG 2 rfl ev9 hin dX5_moveAll_32 ?_
        refine lv_iload_n hx hb dX5_moveAll_33 rfl (lv_at hl 1 rfl) ?_
        refine lv_icmp_ne (tgt := 41) hx hb dX5_moveAll_34 (by decide) (fun c10 => ?_) (fun c10 => ?_)
        · replace hf := if_f c10 hf
          refine lv_aload_n hx hb dX5_moveAll_41 rfl (lv_at hl 0 rfl) ?_
          refine x_get (C := RX5) (T := TX5) (N := 27) (ci := 5) hx hb hts iX5 hown hK hG 0 rfl rfl 2 (by decide) k13 (v := .ref (a 2)) rfl dX5_moveAll_42 ?_
          refine lv_iload_n hx hb dX5_moveAll_45 rfl (lv_at hl 3 rfl) ?_
          obtain ⟨r11, q12, hf⟩ := cl1_e hf
          refine x_callSi (pre := ([] : va_W)) (wc := ([] : va_W)) (wc1 := ([] : va_W)) (post := WM κ a uv) (As := [.int x3]) (rest := [.ref (a 2), .int (r5 + 1), .ref (a 2)]) (w1 := WM κ a uv) ⟨hx, hb, hml, hown, hts⟩ hK hG hA (by simp only [List.append_assoc, List.nil_append, List.append_nil]) (by simp only [List.append_assoc, List.nil_append, List.append_nil]) (c_X5_at l D κ a H.size x3 r11 q12) (va_cwS 1 hts gX5_moveAll_X5_at rfl rfl rfl (by decide +kernel) ⟨Nat.le_of_ble_eq_true rfl, Nat.le_of_ble_eq_true rfl⟩) rfl hl.1 rfl (Nat.le_of_ble_eq_true rfl) dX5_moveAll_46 ⟨Nat.zero_le _, Nat.zero_le _⟩ (fun H locs hG => ?_)
          refine lv_iconst (v := 1) hx hb dX5_moveAll_49 (by decide) ?_
          refine lv_iadd hx hb dX5_moveAll_50 ?_
          obtain ⟨v13, ev13, hin, hf⟩ := ck_e hf
          refine x_iald hx hb hK hG 2 rfl ev13 hin dX5_moveAll_51 ?_
          exact L52 (f_X5_moveAll_2 n) ih  x1 x2 x3 (r5 + 1) v13 uv hf H locs ls hG (lv_sub hl [0, 1, 2, 3] rfl)
        · replace hf := if_t c10 hf
          refine lv_iload_n hx hb dX5_moveAll_37 rfl (lv_at hl 2 rfl) ?_
          refine lv_goto (tgt := 52) hx hb dX5_moveAll_38 (by decide) ?_
          exact L52 (f_X5_moveAll_2 n) ih  x1 x2 x3 (r5 + 1) x2 uv hf H locs ls hG (lv_sub hl [0, 1, 2, 3] rfl)
  unfold f_X5_moveAll at hf
  refine lv_iconst (v := 0) hx hb dX5_moveAll_0 (by decide) ?_
  refine lv_istore_n (lv' := [(3, .int 0), (0, .ref (a 0)), (1, .int p1), (2, .int p2)]) hx hb dX5_moveAll_1 rfl hl (by decide) rfl (fun ls hl => ?_)
  exact L2  FU p1 p2 0 uv hf H locs ls hG (lv_sub hl [1, 2, 3, 0] rfl)
set_option maxRecDepth 100000 in
set_option maxHeartbeats 4000000 in
theorem c_X5_areTwo (l : Launch) (D : va_G) (κ : Nat → ClassId) (a : Nat → Nat) (sz : Nat) (p0 : Int32) (p1 : Int32)  (r' : Int32)  (hf : f_X5_areTwo p0 p1 = some (r')) : Met l yX5_areTwo wsX5_areTwo ({ frames := 2, cells := 0, slots := 0, locals := 45 } : Room) (xPc D κ [.int p0, .int p1] (([] : va_W)) sz) (xQi D κ r' (([] : va_W)) (va_A (([] : va_W)) sz)) 0 0 (va_A (([] : va_W)) sz) := by
  refine x_ofW (cc := cX5_areTwo) (maxL := 2) (ret := (some .boolean)) (Qf := fun A => xQi D κ r' (([] : va_W)) A) (by decide) rfl (Nat.le_of_ble_eq_true rfl) ?_
  intro p e s m below meth c hx hb hr hlk hml hown hts hK A hA H locs hG ls hl
  have hown : s.vm.findClass RX5 = some m.cls := hown
  have hl : lv_has ls 2 [(0, .int p0), (1, .int p1)] := hl
  unfold f_X5_areTwo at hf
  refine lv_iload_n hx hb dX5_areTwo_0 rfl (lv_at hl 0 rfl) ?_
  obtain ⟨r1, q2, hf⟩ := cl1_e hf
  refine x_callSi (pre := ([] : va_W)) (wc := ([] : va_W)) (wc1 := ([] : va_W)) (post := ([] : va_W)) (As := [.int p0]) (rest := []) (w1 := ([] : va_W)) ⟨hx, hb, hml, hown, hts⟩ hK hG hA (by simp only [List.append_assoc, List.nil_append, List.append_nil]) (by simp only [List.append_assoc, List.nil_append, List.append_nil]) (c_X5_isDesk l D κ a H.size p0 r1 q2) (va_cwS 1 hts gX5_areTwo_X5_isDesk rfl rfl rfl (by decide +kernel) ⟨Nat.le_of_ble_eq_true rfl, Nat.le_of_ble_eq_true rfl⟩) rfl hl.1 rfl (Nat.le_of_ble_eq_true rfl) dX5_areTwo_1 ⟨Nat.zero_le _, Nat.zero_le _⟩ (fun H locs hG => ?_)
  refine lv_if_eq (tgt := 23) hx hb dX5_areTwo_4 (by decide) (fun c3 => ?_) (fun c3 => ?_)
  · replace hf := if_t c3 hf
    refine lv_iconst (v := 0) hx hb dX5_areTwo_23 (by decide) ?_
    have z0 := Option.some.inj hf
    exact x_zret hx hb hr hlk hK hG (by decide) z0 rfl dX5_areTwo_24
  · replace hf := if_f c3 hf
    refine lv_iload_n hx hb dX5_areTwo_7 rfl (lv_at hl 1 rfl) ?_
    obtain ⟨r4, q5, hf⟩ := cl1_e hf
    refine x_callSi (pre := ([] : va_W)) (wc := ([] : va_W)) (wc1 := ([] : va_W)) (post := ([] : va_W)) (As := [.int p1]) (rest := []) (w1 := ([] : va_W)) ⟨hx, hb, hml, hown, hts⟩ hK hG hA (by simp only [List.append_assoc, List.nil_append, List.append_nil]) (by simp only [List.append_assoc, List.nil_append, List.append_nil]) (c_X5_isDesk l D κ a H.size p1 r4 q5) (va_cwS 1 hts gX5_areTwo_X5_isDesk rfl rfl rfl (by decide +kernel) ⟨Nat.le_of_ble_eq_true rfl, Nat.le_of_ble_eq_true rfl⟩) rfl hl.1 rfl (Nat.le_of_ble_eq_true rfl) dX5_areTwo_8 ⟨Nat.zero_le _, Nat.zero_le _⟩ (fun H locs hG => ?_)
    refine lv_if_eq (tgt := 23) hx hb dX5_areTwo_11 (by decide) (fun c6 => ?_) (fun c6 => ?_)
    · replace hf := if_t c6 hf
      refine lv_iconst (v := 0) hx hb dX5_areTwo_23 (by decide) ?_
      have z0 := Option.some.inj hf
      exact x_zret hx hb hr hlk hK hG (by decide) z0 rfl dX5_areTwo_24
    · replace hf := if_f c6 hf
      refine lv_iload_n hx hb dX5_areTwo_14 rfl (lv_at hl 0 rfl) ?_
      refine lv_iload_n hx hb dX5_areTwo_15 rfl (lv_at hl 1 rfl) ?_
      refine lv_icmp_eq (tgt := 23) hx hb dX5_areTwo_16 (by decide) (fun c7 => ?_) (fun c7 => ?_)
      · replace hf := if_t c7 hf
        refine lv_iconst (v := 0) hx hb dX5_areTwo_23 (by decide) ?_
        have z0 := Option.some.inj hf
        exact x_zret hx hb hr hlk hK hG (by decide) z0 rfl dX5_areTwo_24
      · replace hf := if_f c7 hf
        refine lv_iconst (v := 1) hx hb dX5_areTwo_19 (by decide) ?_
        refine lv_goto (tgt := 24) hx hb dX5_areTwo_20 (by decide) ?_
        have z0 := Option.some.inj hf
        exact x_zret hx hb hr hlk hK hG (by decide) z0 rfl dX5_areTwo_24
set_option maxRecDepth 100000 in
set_option maxHeartbeats 4000000 in
theorem c_X5_meld (l : Launch) (D : va_G) (κ : Nat → ClassId) (a : Nat → Nat) (sz : Nat) (p1 : Int32) (p2 : Int32) (uv : MS) (r' : Int32) (uv' : MS) (hf : f_X5_meld p1 p2 uv = some (r', uv')) : Met l yX5_meld wsX5_meld ({ frames := 6, cells := 0, slots := 0, locals := 135 } : Room) (xPc D κ [.ref (a 0), .int p1, .int p2] (WM κ a uv) sz) (xQi D κ r' (WM κ a uv') (va_A (WM κ a uv) sz)) 0 0 (va_A (WM κ a uv) sz) := by
  refine x_ofW (cc := cX5_meld) (maxL := 5) (ret := (some .int)) (Qf := fun A => xQi D κ r' (WM κ a uv') A) (by decide) rfl (Nat.le_of_ble_eq_true rfl) ?_
  intro p e s m below meth c hx hb hr hlk hml hown hts hK A hA H locs hG ls hl
  have hown : s.vm.findClass RX5 = some m.cls := hown
  have hl : lv_has ls 5 [(0, .ref (a 0)), (1, .int p1), (2, .int p2)] := hl
  have iX5 : ∀ w ∈ u_ws RX5 TX5 27, w ∈ wsX5_meld := fun _ h => List.mem_cons_of_mem _ (List.mem_append_right _ h)
  have k13 := hts (.fieldLink RX5 13 "SpineDesksModel" "row" "[I") (List.mem_of_getElem? (i := 2) rfl)
  have k63 := hts (.fieldLink RX5 63 "SpineDesksModel" "thrown" "I") (List.mem_of_getElem? (i := 1) rfl)
  have k71 := hts (.fieldLink RX5 71 "SpineDesksModel" "steps" "I") (List.mem_of_getElem? (i := 3) rfl)
  unfold f_X5_meld at hf
  refine lv_aload_n hx hb dX5_meld_0 rfl (lv_at hl 0 rfl) ?_
  refine lv_iconst (v := 0) hx hb dX5_meld_1 (by decide) ?_
  obtain ⟨uv1, euv1, hf⟩ := bnd_e hf
  refine x_put (C := RX5) (T := TX5) (N := 27) (ci := 5) hx hb hts iX5 tyX5 tyX5_ok nmX5 hown hK hG 0 rfl rfl 0 (by decide) k63 rfl (ty := .int) (v := .int 0) rfl rfl rfl (Nat.le_of_ble_eq_true rfl) (w1 := WM κ a uv1) (by rw [euv1]; rfl) dX5_meld_2 (fun H locs hG => ?_)
  refine lv_iload_n hx hb dX5_meld_5 rfl (lv_at hl 1 rfl) ?_
  refine lv_iload_n hx hb dX5_meld_6 rfl (lv_at hl 2 rfl) ?_
  obtain ⟨r2, q3, hf⟩ := cl1_e hf
  refine x_callSi (pre := ([] : va_W)) (wc := ([] : va_W)) (wc1 := ([] : va_W)) (post := WM κ a uv1) (As := [.int p1, .int p2]) (rest := []) (w1 := WM κ a uv1) ⟨hx, hb, hml, hown, hts⟩ hK hG hA (by simp only [List.append_assoc, List.nil_append, List.append_nil]) (by simp only [List.append_assoc, List.nil_append, List.append_nil]) (c_X5_areTwo l D κ a H.size p1 p2 r2 q3) (va_cwS 2 hts gX5_meld_X5_areTwo rfl rfl rfl (by decide +kernel) ⟨Nat.le_of_ble_eq_true rfl, Nat.le_of_ble_eq_true rfl⟩) rfl hl.1 rfl (Nat.le_of_ble_eq_true rfl) dX5_meld_7 ⟨Nat.zero_le _, Nat.zero_le _⟩ (fun H locs hG => ?_)
  refine lv_if_ne (tgt := 19) hx hb dX5_meld_10 (by decide) (fun c4 => ?_) (fun c4 => ?_)
  · replace hf := if_f c4 hf
    refine lv_aload_n hx hb dX5_meld_19 rfl (lv_at hl 0 rfl) ?_
    refine x_get (C := RX5) (T := TX5) (N := 27) (ci := 5) hx hb hts iX5 hown hK hG 0 rfl rfl 2 (by decide) k13 (v := .ref (a 2)) rfl dX5_meld_20 ?_
    refine lv_iconst (v := 4) hx hb dX5_meld_23 (by decide) ?_
    refine lv_iload_n hx hb dX5_meld_24 rfl (lv_at hl 2 rfl) ?_
    refine lv_iadd hx hb dX5_meld_25 ?_
    obtain ⟨v5, ev5, hin, hf⟩ := ck_e hf
    refine x_iald hx hb hK hG 2 rfl ev5 hin dX5_meld_26 ?_
    refine lv_iconst (v := (-1)) hx hb dX5_meld_27 (by decide) ?_
    refine lv_icmp_ne (tgt := 38) hx hb dX5_meld_28 (by decide) (fun c6 => ?_) (fun c6 => ?_)
    · replace hf := if_f c6 hf
      refine lv_aload_n hx hb dX5_meld_38 rfl (lv_at hl 0 rfl) ?_
      refine x_get (C := RX5) (T := TX5) (N := 27) (ci := 5) hx hb hts iX5 hown hK hG 0 rfl rfl 9 (by decide) k71 (v := .int (uv1.steps)) rfl dX5_meld_39 ?_
      refine lv_topi (fun y7 ey7 => ?_)
      replace hf := bnd_at ey7 hf
      refine lv_istore_n (lv' := [(3, .int y7), (0, .ref (a 0)), (1, .int p1), (2, .int p2)]) hx hb dX5_meld_42 rfl hl (by decide) rfl (fun ls hl => ?_)
      refine lv_aload_n hx hb dX5_meld_43 rfl (lv_at hl 1 rfl) ?_
      refine x_get (C := RX5) (T := TX5) (N := 27) (ci := 5) hx hb hts iX5 hown hK hG 0 rfl rfl 2 (by decide) k13 (v := .ref (a 2)) rfl dX5_meld_44 ?_
      refine lv_iconst (v := 4) hx hb dX5_meld_47 (by decide) ?_
      refine lv_iload_n hx hb dX5_meld_48 rfl (lv_at hl 2 rfl) ?_
      refine lv_iadd hx hb dX5_meld_49 ?_
      refine lv_aload_n hx hb dX5_meld_50 rfl (lv_at hl 1 rfl) ?_
      refine lv_aload_n hx hb dX5_meld_51 rfl (lv_at hl 1 rfl) ?_
      refine x_get (C := RX5) (T := TX5) (N := 27) (ci := 5) hx hb hts iX5 hown hK hG 0 rfl rfl 2 (by decide) k13 (v := .ref (a 2)) rfl dX5_meld_52 ?_
      refine lv_iconst (v := 4) hx hb dX5_meld_55 (by decide) ?_
      refine lv_iload_n hx hb dX5_meld_56 rfl (lv_at hl 2 rfl) ?_
      refine lv_iadd hx hb dX5_meld_57 ?_
      obtain ⟨v8, ev8, hin, hf⟩ := ck_e hf
      refine x_iald hx hb hK hG 2 rfl ev8 hin dX5_meld_58 ?_
      refine lv_aload_n hx hb dX5_meld_59 rfl (lv_at hl 1 rfl) ?_
      refine x_get (C := RX5) (T := TX5) (N := 27) (ci := 5) hx hb hts iX5 hown hK hG 0 rfl rfl 2 (by decide) k13 (v := .ref (a 2)) rfl dX5_meld_60 ?_
      refine lv_iconst (v := 4) hx hb dX5_meld_63 (by decide) ?_
      refine lv_iload_n hx hb dX5_meld_64 rfl (lv_at hl 3 rfl) ?_
      refine lv_iadd hx hb dX5_meld_65 ?_
      obtain ⟨v9, ev9, hin, hf⟩ := ck_e hf
      refine x_iald hx hb hK hG 2 rfl ev9 hin dX5_meld_66 ?_
      obtain ⟨r10, uv11, q12, hf⟩ := cl2_e hf
      refine x_callVi (pre := ([] : va_W)) (wc := WM κ a uv1) (wc1 := WM κ a uv11) (post := ([] : va_W)) (As := [.int v8, .int v9]) (rest := [.int (4 + p1), .ref (a 2)]) (w1 := WM κ a uv11) ⟨hx, hb, hml, hown, hts⟩ hK hG hA (by simp only [List.append_assoc, List.nil_append, List.append_nil]) (by simp only [List.append_assoc, List.nil_append, List.append_nil]) (c_X5_meldTrees l D κ a H.size v8 v9 uv1 r10 uv11 q12) (cwV 2 hts gX5_meld_X5_meldTrees rfl rfl rfl (by decide +kernel) ⟨Nat.le_of_ble_eq_true rfl, Nat.le_of_ble_eq_true rfl⟩) 0 5 rfl rfl rfl rfl hl.1 rfl (Nat.le_of_ble_eq_true rfl) dX5_meld_67 ⟨Nat.zero_le _, Nat.zero_le _⟩ (fun H locs hG => ?_)
      obtain ⟨uv13, euv13, hin, hf⟩ := ck_e hf
      refine x_iast hx hb hK hG 2 rfl (w1 := WM κ a uv13) (by rw [euv13]; rfl) hin dX5_meld_70 (fun H locs hG => ?_)
      refine lv_aload_n hx hb dX5_meld_71 rfl (lv_at hl 1 rfl) ?_
      refine x_get (C := RX5) (T := TX5) (N := 27) (ci := 5) hx hb hts iX5 hown hK hG 0 rfl rfl 2 (by decide) k13 (v := .ref (a 2)) rfl dX5_meld_72 ?_
      refine lv_iconst (v := 4) hx hb dX5_meld_75 (by decide) ?_
      refine lv_iload_n hx hb dX5_meld_76 rfl (lv_at hl 3 rfl) ?_
      refine lv_iadd hx hb dX5_meld_77 ?_
      refine lv_iconst (v := (-1)) hx hb dX5_meld_78 (by decide) ?_
      obtain ⟨uv14, euv14, hin, hf⟩ := ck_e hf
      refine x_iast hx hb hK hG 2 rfl (w1 := WM κ a uv14) (by rw [euv14]; rfl) hin dX5_meld_79 (fun H locs hG => ?_)
      refine lv_aload_n hx hb dX5_meld_80 rfl (lv_at hl 1 rfl) ?_
      refine lv_iload_n hx hb dX5_meld_81 rfl (lv_at hl 3 rfl) ?_
      refine lv_iload_n hx hb dX5_meld_82 rfl (lv_at hl 2 rfl) ?_
      obtain ⟨uv15, q16, hf⟩ := cl1_e hf
      refine x_callVv (pre := ([] : va_W)) (wc := WM κ a uv14) (wc1 := WM κ a uv15) (post := ([] : va_W)) (As := [.int p2, .int p1]) (rest := []) (w1 := WM κ a uv15) ⟨hx, hb, hml, hown, hts⟩ hK hG hA (by simp only [List.append_assoc, List.nil_append, List.append_nil]) (by simp only [List.append_assoc, List.nil_append, List.append_nil]) (c_X5_moveAll l D κ a H.size p2 p1 uv14 uv15 q16) (cwV 2 hts gX5_meld_X5_moveAll rfl rfl rfl (by decide +kernel) ⟨Nat.le_of_ble_eq_true rfl, Nat.le_of_ble_eq_true rfl⟩) 0 5 rfl rfl rfl rfl hl.1 rfl (Nat.le_of_ble_eq_true rfl) dX5_meld_83 ⟨Nat.zero_le _, Nat.zero_le _⟩ (fun H locs hG => ?_)
      refine lv_aload_n hx hb dX5_meld_86 rfl (lv_at hl 1 rfl) ?_
      refine x_get (C := RX5) (T := TX5) (N := 27) (ci := 5) hx hb hts iX5 hown hK hG 0 rfl rfl 9 (by decide) k71 (v := .int (uv15.steps)) rfl dX5_meld_87 ?_
      refine lv_iload_n hx hb dX5_meld_90 rfl (lv_at hl 0 rfl) ?_
      refine lv_isub hx hb dX5_meld_91 ?_
      refine lv_topi (fun y17 ey17 => ?_)
      replace hf := bnd_at ey17 hf
      refine lv_istore (lv' := [(4, .int y17), (3, .int y7), (0, .ref (a 0)), (1, .int p1), (2, .int p2)]) hx hb dX5_meld_92 hl (by decide) rfl (fun ls hl => ?_)
      refine lv_aload_n hx hb dX5_meld_94 rfl (lv_at hl 2 rfl) ?_
      obtain ⟨uv18, q19, hf⟩ := cl1_e hf
      refine x_callVv (pre := ([] : va_W)) (wc := WM κ a uv15) (wc1 := WM κ a uv18) (post := ([] : va_W)) (As := []) (rest := []) (w1 := WM κ a uv18) ⟨hx, hb, hml, hown, hts⟩ hK hG hA (by simp only [List.append_assoc, List.nil_append, List.append_nil]) (by simp only [List.append_assoc, List.nil_append, List.append_nil]) (c_X5_sweep l D κ a H.size uv15 uv18 q19) (cwV 0 hts gX5_meld_X5_sweep rfl rfl rfl (by decide +kernel) ⟨Nat.le_of_ble_eq_true rfl, Nat.le_of_ble_eq_true rfl⟩) 0 5 rfl rfl rfl rfl hl.1 rfl (Nat.le_of_ble_eq_true rfl) dX5_meld_95 ⟨Nat.zero_le _, Nat.zero_le _⟩ (fun H locs hG => ?_)
      refine lv_iload hx hb dX5_meld_98 (lv_at hl 0 rfl) ?_
      have hz := Option.some.inj hf
      have z0 := (Prod.mk.inj hz).1
      replace hz := (Prod.mk.inj hz).2
      have z1 := hz
      exact x_iret hx hb hr hlk hK hG z0 (by rw [z1]) dX5_meld_100
    · replace hf := if_t c6 hf
      refine lv_aload_n hx hb dX5_meld_31 rfl (lv_at hl 0 rfl) ?_
      refine lv_bipush (v := (-3)) hx hb dX5_meld_32 (by decide) ?_
      obtain ⟨r20, uv21, q22, hf⟩ := cl2_e hf
      refine x_callVi (pre := ([] : va_W)) (wc := WM κ a uv1) (wc1 := WM κ a uv21) (post := ([] : va_W)) (As := [.int ((-3))]) (rest := []) (w1 := WM κ a uv21) ⟨hx, hb, hml, hown, hts⟩ hK hG hA (by simp only [List.append_assoc, List.nil_append, List.append_nil]) (by simp only [List.append_assoc, List.nil_append, List.append_nil]) (c_X5_refuse l D κ a H.size ((-3)) uv1 r20 uv21 q22) (cwV 1 hts gX5_meld_X5_refuse rfl rfl rfl (by decide +kernel) ⟨Nat.le_of_ble_eq_true rfl, Nat.le_of_ble_eq_true rfl⟩) 0 5 rfl rfl rfl rfl hl.1 rfl (Nat.le_of_ble_eq_true rfl) dX5_meld_34 ⟨Nat.zero_le _, Nat.zero_le _⟩ (fun H locs hG => ?_)
      have hz := Option.some.inj hf
      have z0 := (Prod.mk.inj hz).1
      replace hz := (Prod.mk.inj hz).2
      have z1 := hz
      exact x_iret hx hb hr hlk hK hG z0 (by rw [z1]) dX5_meld_37
  · replace hf := if_t c4 hf
    refine lv_aload_n hx hb dX5_meld_13 rfl (lv_at hl 0 rfl) ?_
    refine lv_iconst (v := (-1)) hx hb dX5_meld_14 (by decide) ?_
    obtain ⟨r23, uv24, q25, hf⟩ := cl2_e hf
    refine x_callVi (pre := ([] : va_W)) (wc := WM κ a uv1) (wc1 := WM κ a uv24) (post := ([] : va_W)) (As := [.int ((-1))]) (rest := []) (w1 := WM κ a uv24) ⟨hx, hb, hml, hown, hts⟩ hK hG hA (by simp only [List.append_assoc, List.nil_append, List.append_nil]) (by simp only [List.append_assoc, List.nil_append, List.append_nil]) (c_X5_refuse l D κ a H.size ((-1)) uv1 r23 uv24 q25) (cwV 1 hts gX5_meld_X5_refuse rfl rfl rfl (by decide +kernel) ⟨Nat.le_of_ble_eq_true rfl, Nat.le_of_ble_eq_true rfl⟩) 0 5 rfl rfl rfl rfl hl.1 rfl (Nat.le_of_ble_eq_true rfl) dX5_meld_15 ⟨Nat.zero_le _, Nat.zero_le _⟩ (fun H locs hG => ?_)
    have hz := Option.some.inj hf
    have z0 := (Prod.mk.inj hz).1
    replace hz := (Prod.mk.inj hz).2
    have z1 := hz
    exact x_iret hx hb hr hlk hK hG z0 (by rw [z1]) dX5_meld_18
set_option maxRecDepth 100000 in
set_option maxHeartbeats 4000000 in
theorem c_X5_partOne (l : Launch) (D : va_G) (κ : Nat → ClassId) (a : Nat → Nat) (sz : Nat) (p1 : Int32) (p2 : Int32) (uv : MS) (r' : Int32) (uv' : MS) (hf : f_X5_partOne p1 p2 uv = some (r', uv')) : Met l yX5_partOne wsX5_partOne ({ frames := 6, cells := 0, slots := 0, locals := 135 } : Room) (xPc D κ [.ref (a 0), .int p1, .int p2] (WM κ a uv) sz) (xQi D κ r' (WM κ a uv') (va_A (WM κ a uv) sz)) 0 0 (va_A (WM κ a uv) sz) := by
  refine x_ofW (cc := cX5_partOne) (maxL := 4) (ret := (some .int)) (Qf := fun A => xQi D κ r' (WM κ a uv') A) (by decide) rfl (Nat.le_of_ble_eq_true rfl) ?_
  intro p e s m below meth c hx hb hr hlk hml hown hts hK A hA H locs hG ls hl
  have hown : s.vm.findClass RX5 = some m.cls := hown
  have hl : lv_has ls 4 [(0, .ref (a 0)), (1, .int p1), (2, .int p2)] := hl
  have iX5 : ∀ w ∈ u_ws RX5 TX5 27, w ∈ wsX5_partOne := fun _ h => List.mem_cons_of_mem _ (List.mem_append_right _ h)
  have k13 := hts (.fieldLink RX5 13 "SpineDesksModel" "row" "[I") (List.mem_of_getElem? (i := 1) rfl)
  unfold f_X5_partOne at hf
  refine lv_aload_n hx hb dX5_partOne_0 rfl (lv_at hl 0 rfl) ?_
  refine lv_iload_n hx hb dX5_partOne_1 rfl (lv_at hl 1 rfl) ?_
  obtain ⟨r1, uv2, q3, hf⟩ := cl2_e hf
  refine x_callVi (pre := ([] : va_W)) (wc := WM κ a uv) (wc1 := WM κ a uv2) (post := ([] : va_W)) (As := [.int p1]) (rest := []) (w1 := WM κ a uv2) ⟨hx, hb, hml, hown, hts⟩ hK hG hA (by simp only [List.append_assoc, List.nil_append, List.append_nil]) (by simp only [List.append_assoc, List.nil_append, List.append_nil]) (c_X5_takeRoot l D κ a H.size p1 uv r1 uv2 q3) (cwV 1 hts gX5_partOne_X5_takeRoot rfl rfl rfl (by decide +kernel) ⟨Nat.le_of_ble_eq_true rfl, Nat.le_of_ble_eq_true rfl⟩) 0 5 rfl rfl rfl rfl hl.1 rfl (Nat.le_of_ble_eq_true rfl) dX5_partOne_2 ⟨Nat.zero_le _, Nat.zero_le _⟩ (fun H locs hG => ?_)
  refine lv_istore_n (lv' := [(3, .int r1), (0, .ref (a 0)), (1, .int p1), (2, .int p2)]) hx hb dX5_partOne_5 rfl hl (by decide) rfl (fun ls hl => ?_)
  refine lv_aload_n hx hb dX5_partOne_6 rfl (lv_at hl 1 rfl) ?_
  refine x_get (C := RX5) (T := TX5) (N := 27) (ci := 5) hx hb hts iX5 hown hK hG 0 rfl rfl 2 (by decide) k13 (v := .ref (a 2)) rfl dX5_partOne_7 ?_
  refine lv_iload_n hx hb dX5_partOne_10 rfl (lv_at hl 0 rfl) ?_
  obtain ⟨r4, q5, hf⟩ := cl1_e hf
  refine x_callSi (pre := ([] : va_W)) (wc := ([] : va_W)) (wc1 := ([] : va_W)) (post := WM κ a uv2) (As := [.int r1]) (rest := [.ref (a 2)]) (w1 := WM κ a uv2) ⟨hx, hb, hml, hown, hts⟩ hK hG hA (by simp only [List.append_assoc, List.nil_append, List.append_nil]) (by simp only [List.append_assoc, List.nil_append, List.append_nil]) (c_X5_at l D κ a H.size r1 r4 q5) (va_cwS 1 hts gX5_partOne_X5_at rfl rfl rfl (by decide +kernel) ⟨Nat.le_of_ble_eq_true rfl, Nat.le_of_ble_eq_true rfl⟩) rfl hl.1 rfl (Nat.le_of_ble_eq_true rfl) dX5_partOne_11 ⟨Nat.zero_le _, Nat.zero_le _⟩ (fun H locs hG => ?_)
  refine lv_iconst (v := 1) hx hb dX5_partOne_14 (by decide) ?_
  refine lv_iadd hx hb dX5_partOne_15 ?_
  refine lv_iconst (v := (-1)) hx hb dX5_partOne_16 (by decide) ?_
  obtain ⟨uv6, euv6, hin, hf⟩ := ck_e hf
  refine x_iast hx hb hK hG 2 rfl (w1 := WM κ a uv6) (by rw [euv6]; rfl) hin dX5_partOne_17 (fun H locs hG => ?_)
  refine lv_aload_n hx hb dX5_partOne_18 rfl (lv_at hl 1 rfl) ?_
  obtain ⟨uv7, q8, hf⟩ := cl1_e hf
  refine x_callVv (pre := ([] : va_W)) (wc := WM κ a uv6) (wc1 := WM κ a uv7) (post := ([] : va_W)) (As := []) (rest := []) (w1 := WM κ a uv7) ⟨hx, hb, hml, hown, hts⟩ hK hG hA (by simp only [List.append_assoc, List.nil_append, List.append_nil]) (by simp only [List.append_assoc, List.nil_append, List.append_nil]) (c_X5_sweep l D κ a H.size uv6 uv7 q8) (cwV 0 hts gX5_partOne_X5_sweep rfl rfl rfl (by decide +kernel) ⟨Nat.le_of_ble_eq_true rfl, Nat.le_of_ble_eq_true rfl⟩) 0 5 rfl rfl rfl rfl hl.1 rfl (Nat.le_of_ble_eq_true rfl) dX5_partOne_19 ⟨Nat.zero_le _, Nat.zero_le _⟩ (fun H locs hG => ?_)
  refine lv_aload_n hx hb dX5_partOne_22 rfl (lv_at hl 1 rfl) ?_
  refine lv_iload_n hx hb dX5_partOne_23 rfl (lv_at hl 0 rfl) ?_
  refine lv_iload_n hx hb dX5_partOne_24 rfl (lv_at hl 3 rfl) ?_
  obtain ⟨uv9, q10, hf⟩ := cl1_e hf
  refine x_callVv (pre := ([] : va_W)) (wc := WM κ a uv7) (wc1 := WM κ a uv9) (post := ([] : va_W)) (As := [.int r1, .int p2]) (rest := []) (w1 := WM κ a uv9) ⟨hx, hb, hml, hown, hts⟩ hK hG hA (by simp only [List.append_assoc, List.nil_append, List.append_nil]) (by simp only [List.append_assoc, List.nil_append, List.append_nil]) (c_X5_put l D κ a H.size r1 p2 uv7 uv9 q10) (cwV 2 hts gX5_partOne_X5_put rfl rfl rfl (by decide +kernel) ⟨Nat.le_of_ble_eq_true rfl, Nat.le_of_ble_eq_true rfl⟩) 0 5 rfl rfl rfl rfl hl.1 rfl (Nat.le_of_ble_eq_true rfl) dX5_partOne_25 ⟨Nat.zero_le _, Nat.zero_le _⟩ (fun H locs hG => ?_)
  refine lv_aload_n hx hb dX5_partOne_28 rfl (lv_at hl 1 rfl) ?_
  obtain ⟨uv11, q12, hf⟩ := cl1_e hf
  refine x_callVv (pre := ([] : va_W)) (wc := WM κ a uv9) (wc1 := WM κ a uv11) (post := ([] : va_W)) (As := []) (rest := []) (w1 := WM κ a uv11) ⟨hx, hb, hml, hown, hts⟩ hK hG hA (by simp only [List.append_assoc, List.nil_append, List.append_nil]) (by simp only [List.append_assoc, List.nil_append, List.append_nil]) (c_X5_sweep l D κ a H.size uv9 uv11 q12) (cwV 0 hts gX5_partOne_X5_sweep rfl rfl rfl (by decide +kernel) ⟨Nat.le_of_ble_eq_true rfl, Nat.le_of_ble_eq_true rfl⟩) 0 5 rfl rfl rfl rfl hl.1 rfl (Nat.le_of_ble_eq_true rfl) dX5_partOne_29 ⟨Nat.zero_le _, Nat.zero_le _⟩ (fun H locs hG => ?_)
  refine lv_iload_n hx hb dX5_partOne_32 rfl (lv_at hl 0 rfl) ?_
  have hz := Option.some.inj hf
  have z0 := (Prod.mk.inj hz).1
  replace hz := (Prod.mk.inj hz).2
  have z1 := hz
  exact x_iret hx hb hr hlk hK hG z0 (by rw [z1]) dX5_partOne_33
set_option maxRecDepth 100000 in
set_option maxHeartbeats 4000000 in
theorem c_X5_part (l : Launch) (D : va_G) (κ : Nat → ClassId) (a : Nat → Nat) (sz : Nat) (p1 : Int32) (p2 : Int32) (p3 : Int32) (uv : MS) (r' : Int32) (uv' : MS) (hf : f_X5_part p1 p2 p3 uv = some (r', uv')) : Met l yX5_part wsX5_part ({ frames := 7, cells := 0, slots := 0, locals := 158 } : Room) (xPc D κ [.ref (a 0), .int p1, .int p2, .int p3] (WM κ a uv) sz) (xQi D κ r' (WM κ a uv') (va_A (WM κ a uv) sz)) 0 0 (va_A (WM κ a uv) sz) := by
  refine x_ofW (cc := cX5_part) (maxL := 6) (ret := (some .int)) (Qf := fun A => xQi D κ r' (WM κ a uv') A) (by decide) rfl (Nat.le_of_ble_eq_true rfl) ?_
  intro p e s m below meth c hx hb hr hlk hml hown hts hK A hA H locs hG ls hl
  have hown : s.vm.findClass RX5 = some m.cls := hown
  have hl : lv_has ls 6 [(0, .ref (a 0)), (1, .int p1), (2, .int p2), (3, .int p3)] := hl
  have iX5 : ∀ w ∈ u_ws RX5 TX5 27, w ∈ wsX5_part := fun _ h => List.mem_cons_of_mem _ (List.mem_append_right _ h)
  have k176 := hts (.constantLong RX5 176 (50)) (List.mem_of_getElem? (i := 2) rfl)
  have k63 := hts (.fieldLink RX5 63 "SpineDesksModel" "thrown" "I") (List.mem_of_getElem? (i := 1) rfl)
  have L54 : ∀ (n : Nat), ∀ (x1 : Int32) (x2 : Int32) (x3 : Int32) (x4 : Int32) (x5 : Int32) (uv : MS), f_X5_part_54 n x1 x2 x3 x4 x5 uv = some (r', uv') → ∀ (H : Heap) (locs : List Loc) (ls : Array Slot), xG D A s.heap (WM κ a uv) H locs → lv_has ls 6 [(0, .ref (a 0)), (1, .int x1), (2, .int x2), (3, .int x3), (4, .int x4), (5, .int x5)] → W p l e ({ frames := 7, cells := 0, slots := 0, locals := 158 } : Room) s m (([.ref (a 0), .int p1, .int p2, .int p3] : List Value).toArray) below meth c H locs 0 0 (MQ below (xQi D κ r' (WM κ a uv') A) (([.ref (a 0), .int p1, .int p2, .int p3] : List Value).toArray) s 0 0 A) (F0 m 54 ls []) := by
    intro  n
    induction n with
    | zero => intro x1 x2 x3 x4 x5 uv hf; cases hf
    | succ n ih =>
      intro x1 x2 x3 x4 x5 uv hf H locs ls hG hl
      replace hf : f_X5_part_B54 (f_X5_part_54 n) x1 x2 x3 x4 x5 uv = some (r', uv') := hf
      unfold f_X5_part_B54 at hf
      refine lv_iload hx hb dX5_part_54 (lv_at hl 5 rfl) ?_
      refine lv_iload_n hx hb dX5_part_56 rfl (lv_at hl 3 rfl) ?_
      refine lv_icmp_ge (tgt := 74) hx hb dX5_part_57 (by decide) (fun c1 => ?_) (fun c1 => ?_)
      · replace hf := if_t c1 hf
        refine lv_iload hx hb dX5_part_74 (lv_at hl 4 rfl) ?_
        have hz := Option.some.inj hf
        have z0 := (Prod.mk.inj hz).1
        replace hz := (Prod.mk.inj hz).2
        have z1 := hz
        exact x_iret hx hb hr hlk hK hG z0 (by rw [z1]) dX5_part_76
      · replace hf := if_f c1 hf
        refine lv_aload_n hx hb dX5_part_60 rfl (lv_at hl 0 rfl) ?_
        refine lv_iload_n hx hb dX5_part_61 rfl (lv_at hl 1 rfl) ?_
        refine lv_iload_n hx hb dX5_part_62 rfl (lv_at hl 2 rfl) ?_
        obtain ⟨r2, uv3, q4, hf⟩ := cl2_e hf
        refine x_callVi (pre := ([] : va_W)) (wc := WM κ a uv) (wc1 := WM κ a uv3) (post := ([] : va_W)) (As := [.int x1, .int x2]) (rest := []) (w1 := WM κ a uv3) ⟨hx, hb, hml, hown, hts⟩ hK hG hA (by simp only [List.append_assoc, List.nil_append, List.append_nil]) (by simp only [List.append_assoc, List.nil_append, List.append_nil]) (c_X5_partOne l D κ a H.size x1 x2 uv r2 uv3 q4) (cwV 2 hts gX5_part_X5_partOne rfl rfl rfl (by decide +kernel) ⟨Nat.le_of_ble_eq_true rfl, Nat.le_of_ble_eq_true rfl⟩) 0 5 rfl rfl rfl rfl hl.1 rfl (Nat.le_of_ble_eq_true rfl) dX5_part_63 ⟨Nat.zero_le _, Nat.zero_le _⟩ (fun H locs hG => ?_)
        refine lv_istore (lv' := [(4, .int r2), (0, .ref (a 0)), (1, .int x1), (2, .int x2), (3, .int x3), (5, .int x5)]) hx hb dX5_part_66 hl (by decide) rfl (fun ls hl => ?_)
        obtain ⟨y5, ey5, hf⟩ := bnd_e hf
        refine lv_iinc (v := y5) (lv' := [(5, .int y5), (4, .int r2), (0, .ref (a 0)), (1, .int x1), (2, .int x2), (3, .int x3)]) hx hb dX5_part_68 hl (k := 5) rfl (by rw [ey5]; rfl) (by decide) rfl (fun ls hl => ?_)
        refine lv_goto (tgt := 54) hx hb dX5_part_71 (by decide) ?_
        exact ih x1 x2 x3 r2 y5 uv3 hf H locs ls hG (lv_sub hl [2, 3, 4, 5, 1, 0] rfl)
  have L25 : ∀ (uv : MS), f_X5_part_25 uv = some (r', uv') → ∀ (H : Heap) (locs : List Loc) (ls : Array Slot), xG D A s.heap (WM κ a uv) H locs → lv_has ls 6 [(0, .ref (a 0))] → W p l e ({ frames := 7, cells := 0, slots := 0, locals := 158 } : Room) s m (([.ref (a 0), .int p1, .int p2, .int p3] : List Value).toArray) below meth c H locs 0 0 (MQ below (xQi D κ r' (WM κ a uv') A) (([.ref (a 0), .int p1, .int p2, .int p3] : List Value).toArray) s 0 0 A) (F0 m 25 ls []) := by
    intro  uv hf H locs ls hG hl
    unfold f_X5_part_25 at hf
    refine lv_aload_n hx hb dX5_part_25 rfl (lv_at hl 0 rfl) ?_
    refine lv_iconst (v := (-1)) hx hb dX5_part_26 (by decide) ?_
    obtain ⟨r6, uv7, q8, hf⟩ := cl2_e hf
    refine x_callVi (pre := ([] : va_W)) (wc := WM κ a uv) (wc1 := WM κ a uv7) (post := ([] : va_W)) (As := [.int ((-1))]) (rest := []) (w1 := WM κ a uv7) ⟨hx, hb, hml, hown, hts⟩ hK hG hA (by simp only [List.append_assoc, List.nil_append, List.append_nil]) (by simp only [List.append_assoc, List.nil_append, List.append_nil]) (c_X5_refuse l D κ a H.size ((-1)) uv r6 uv7 q8) (cwV 1 hts gX5_part_X5_refuse rfl rfl rfl (by decide +kernel) ⟨Nat.le_of_ble_eq_true rfl, Nat.le_of_ble_eq_true rfl⟩) 0 5 rfl rfl rfl rfl hl.1 rfl (Nat.le_of_ble_eq_true rfl) dX5_part_27 ⟨Nat.zero_le _, Nat.zero_le _⟩ (fun H locs hG => ?_)
    have hz := Option.some.inj hf
    have z0 := (Prod.mk.inj hz).1
    replace hz := (Prod.mk.inj hz).2
    have z1 := hz
    exact x_iret hx hb hr hlk hK hG z0 (by rw [z1]) dX5_part_30
  unfold f_X5_part at hf
  refine lv_aload_n hx hb dX5_part_0 rfl (lv_at hl 0 rfl) ?_
  refine lv_iconst (v := 0) hx hb dX5_part_1 (by decide) ?_
  obtain ⟨uv9, euv9, hf⟩ := bnd_e hf
  refine x_put (C := RX5) (T := TX5) (N := 27) (ci := 5) hx hb hts iX5 tyX5 tyX5_ok nmX5 hown hK hG 0 rfl rfl 0 (by decide) k63 rfl (ty := .int) (v := .int 0) rfl rfl rfl (Nat.le_of_ble_eq_true rfl) (w1 := WM κ a uv9) (by rw [euv9]; rfl) dX5_part_2 (fun H locs hG => ?_)
  refine lv_iload_n hx hb dX5_part_5 rfl (lv_at hl 1 rfl) ?_
  refine lv_iload_n hx hb dX5_part_6 rfl (lv_at hl 2 rfl) ?_
  obtain ⟨r10, q11, hf⟩ := cl1_e hf
  refine x_callSi (pre := ([] : va_W)) (wc := ([] : va_W)) (wc1 := ([] : va_W)) (post := WM κ a uv9) (As := [.int p1, .int p2]) (rest := []) (w1 := WM κ a uv9) ⟨hx, hb, hml, hown, hts⟩ hK hG hA (by simp only [List.append_assoc, List.nil_append, List.append_nil]) (by simp only [List.append_assoc, List.nil_append, List.append_nil]) (c_X5_areTwo l D κ a H.size p1 p2 r10 q11) (va_cwS 2 hts gX5_part_X5_areTwo rfl rfl rfl (by decide +kernel) ⟨Nat.le_of_ble_eq_true rfl, Nat.le_of_ble_eq_true rfl⟩) rfl hl.1 rfl (Nat.le_of_ble_eq_true rfl) dX5_part_7 ⟨Nat.zero_le _, Nat.zero_le _⟩ (fun H locs hG => ?_)
  refine lv_if_eq (tgt := 25) hx hb dX5_part_10 (by decide) (fun c12 => ?_) (fun c12 => ?_)
  · replace hf := if_t c12 hf
    exact L25   uv9 hf H locs ls hG (lv_sub hl [0] rfl)
  · replace hf := if_f c12 hf
    refine lv_iload_n hx hb dX5_part_13 rfl (lv_at hl 3 rfl) ?_
    refine lv_i2l hx hb dX5_part_14 rfl ?_
    refine lv_lconst (v := 1) hx hb dX5_part_15 (by decide) ?_
    refine lv_ldc2 (v := 50) hx hb hown k176 dX5_part_16 ?_
    obtain ⟨r13, q14, hf⟩ := cl1_e hf
    refine x_callSi (pre := ([] : va_W)) (wc := ([] : va_W)) (wc1 := ([] : va_W)) (post := WM κ a uv9) (As := [.long (p3.toInt64), .long 1, .long 50]) (rest := []) (w1 := WM κ a uv9) ⟨hx, hb, hml, hown, hts⟩ hK hG hA (by simp only [List.append_assoc, List.nil_append, List.append_nil]) (by simp only [List.append_assoc, List.nil_append, List.append_nil]) (c_X5_in l D κ a H.size (p3.toInt64) 1 50 r13 q14) (va_cwS 3 hts gX5_part_X5_in rfl rfl rfl (by decide +kernel) ⟨Nat.le_of_ble_eq_true rfl, Nat.le_of_ble_eq_true rfl⟩) rfl hl.1 rfl (Nat.le_of_ble_eq_true rfl) dX5_part_19 ⟨Nat.zero_le _, Nat.zero_le _⟩ (fun H locs hG => ?_)
    refine lv_if_ne (tgt := 31) hx hb dX5_part_22 (by decide) (fun c15 => ?_) (fun c15 => ?_)
    · replace hf := if_f c15 hf
      refine lv_aload_n hx hb dX5_part_31 rfl (lv_at hl 0 rfl) ?_
      refine lv_iload_n hx hb dX5_part_32 rfl (lv_at hl 1 rfl) ?_
      refine lv_iconst (v := 0) hx hb dX5_part_33 (by decide) ?_
      obtain ⟨r16, q17, hf⟩ := cl1_e hf
      refine x_callVi (pre := ([] : va_W)) (wc := WM κ a uv9) (wc1 := WM κ a uv9) (post := ([] : va_W)) (As := [.int p1, .int 0]) (rest := []) (w1 := WM κ a uv9) ⟨hx, hb, hml, hown, hts⟩ hK hG hA (by simp only [List.append_assoc, List.nil_append, List.append_nil]) (by simp only [List.append_assoc, List.nil_append, List.append_nil]) (c_X5_many l D κ a H.size p1 0 uv9 r16 q17) (cwV 2 hts gX5_part_X5_many rfl rfl rfl (by decide +kernel) ⟨Nat.le_of_ble_eq_true rfl, Nat.le_of_ble_eq_true rfl⟩) 0 5 rfl rfl rfl rfl hl.1 rfl (Nat.le_of_ble_eq_true rfl) dX5_part_34 ⟨Nat.zero_le _, Nat.zero_le _⟩ (fun H locs hG => ?_)
      refine lv_iload_n hx hb dX5_part_37 rfl (lv_at hl 3 rfl) ?_
      refine lv_icmp_ge (tgt := 48) hx hb dX5_part_38 (by decide) (fun c18 => ?_) (fun c18 => ?_)
      · replace hf := if_t c18 hf
        refine lv_iconst (v := (-1)) hx hb dX5_part_48 (by decide) ?_
        refine lv_istore (lv' := [(4, .int ((-1))), (0, .ref (a 0)), (1, .int p1), (2, .int p2), (3, .int p3)]) hx hb dX5_part_49 hl (by decide) rfl (fun ls hl => ?_)
        refine lv_iconst (v := 0) hx hb dX5_part_51 (by decide) ?_
        refine lv_istore (lv' := [(5, .int 0), (4, .int ((-1))), (0, .ref (a 0)), (1, .int p1), (2, .int p2), (3, .int p3)]) hx hb dX5_part_52 hl (by decide) rfl (fun ls hl => ?_)
        exact L54  FU p1 p2 p3 ((-1)) 0 uv9 hf H locs ls hG (lv_sub hl [2, 3, 4, 5, 1, 0] rfl)
      · replace hf := if_f c18 hf
        refine lv_aload_n hx hb dX5_part_41 rfl (lv_at hl 0 rfl) ?_
        refine lv_bipush (v := (-3)) hx hb dX5_part_42 (by decide) ?_
        obtain ⟨r19, uv20, q21, hf⟩ := cl2_e hf
        refine x_callVi (pre := ([] : va_W)) (wc := WM κ a uv9) (wc1 := WM κ a uv20) (post := ([] : va_W)) (As := [.int ((-3))]) (rest := []) (w1 := WM κ a uv20) ⟨hx, hb, hml, hown, hts⟩ hK hG hA (by simp only [List.append_assoc, List.nil_append, List.append_nil]) (by simp only [List.append_assoc, List.nil_append, List.append_nil]) (c_X5_refuse l D κ a H.size ((-3)) uv9 r19 uv20 q21) (cwV 1 hts gX5_part_X5_refuse rfl rfl rfl (by decide +kernel) ⟨Nat.le_of_ble_eq_true rfl, Nat.le_of_ble_eq_true rfl⟩) 0 5 rfl rfl rfl rfl hl.1 rfl (Nat.le_of_ble_eq_true rfl) dX5_part_44 ⟨Nat.zero_le _, Nat.zero_le _⟩ (fun H locs hG => ?_)
        have hz := Option.some.inj hf
        have z0 := (Prod.mk.inj hz).1
        replace hz := (Prod.mk.inj hz).2
        have z1 := hz
        exact x_iret hx hb hr hlk hK hG z0 (by rw [z1]) dX5_part_47
    · replace hf := if_t c15 hf
      exact L25   uv9 hf H locs ls hG (lv_sub hl [0] rfl)
set_option maxRecDepth 100000 in
set_option maxHeartbeats 4000000 in
theorem c_X5_gatherTrees (l : Launch) (D : va_G) (κ : Nat → ClassId) (a : Nat → Nat) (sz : Nat)  (uv : MS) (r' : Int32) (uv' : MS) (hf : f_X5_gatherTrees uv = some (r', uv')) : Met l yX5_gatherTrees wsX5_gatherTrees ({ frames := 4, cells := 0, slots := 0, locals := 92 } : Room) (xPc D κ [.ref (a 0)] (WM κ a uv) sz) (xQi D κ r' (WM κ a uv') (va_A (WM κ a uv) sz)) 0 0 (va_A (WM κ a uv) sz) := by
  refine x_ofW (cc := cX5_gatherTrees) (maxL := 2) (ret := (some .int)) (Qf := fun A => xQi D κ r' (WM κ a uv') A) (by decide) rfl (Nat.le_of_ble_eq_true rfl) ?_
  intro p e s m below meth c hx hb hr hlk hml hown hts hK A hA H locs hG ls hl
  have hown : s.vm.findClass RX5 = some m.cls := hown
  have hl : lv_has ls 2 [(0, .ref (a 0))] := hl
  have iX5 : ∀ w ∈ u_ws RX5 TX5 27, w ∈ wsX5_gatherTrees := fun _ h => List.mem_cons_of_mem _ (List.mem_append_right _ h)
  have k181 := hts (.fieldLink RX5 181 "SpineDesksModel" "treeMany" "I") (List.mem_of_getElem? (i := 1) rfl)
  have k39 := hts (.fieldLink RX5 39 "SpineDesksModel" "trees" "[I") (List.mem_of_getElem? (i := 2) rfl)
  have L2 : ∀ (n : Nat), ∀ (x1 : Int32) (uv : MS), f_X5_gatherTrees_2 n x1 uv = some (r', uv') → ∀ (H : Heap) (locs : List Loc) (ls : Array Slot), xG D A s.heap (WM κ a uv) H locs → lv_has ls 2 [(0, .ref (a 0)), (1, .int x1)] → W p l e ({ frames := 4, cells := 0, slots := 0, locals := 92 } : Room) s m (([.ref (a 0)] : List Value).toArray) below meth c H locs 0 0 (MQ below (xQi D κ r' (WM κ a uv') A) (([.ref (a 0)] : List Value).toArray) s 0 0 A) (F0 m 2 ls []) := by
    intro  n
    induction n with
    | zero => intro x1 uv hf; cases hf
    | succ n ih =>
      intro x1 uv hf H locs ls hG hl
      replace hf : f_X5_gatherTrees_B2 (f_X5_gatherTrees_2 n) x1 uv = some (r', uv') := hf
      unfold f_X5_gatherTrees_B2 at hf
      refine lv_aload_n hx hb dX5_gatherTrees_2 rfl (lv_at hl 0 rfl) ?_
      refine x_get (C := RX5) (T := TX5) (N := 27) (ci := 5) hx hb hts iX5 hown hK hG 0 rfl rfl 13 (by decide) k181 (v := .int (uv.treeMany)) rfl dX5_gatherTrees_3 ?_
      refine lv_iload_n hx hb dX5_gatherTrees_6 rfl (lv_at hl 1 rfl) ?_
      refine lv_isub hx hb dX5_gatherTrees_7 ?_
      refine lv_iconst (v := 1) hx hb dX5_gatherTrees_8 (by decide) ?_
      refine lv_icmp_le (tgt := 55) hx hb dX5_gatherTrees_9 (by decide) (fun c1 => ?_) (fun c1 => ?_)
      · replace hf := if_t c1 hf
        refine lv_aload_n hx hb dX5_gatherTrees_55 rfl (lv_at hl 0 rfl) ?_
        refine x_get (C := RX5) (T := TX5) (N := 27) (ci := 5) hx hb hts iX5 hown hK hG 0 rfl rfl 13 (by decide) k181 (v := .int (uv.treeMany)) rfl dX5_gatherTrees_56 ?_
        refine lv_iload_n hx hb dX5_gatherTrees_59 rfl (lv_at hl 1 rfl) ?_
        refine lv_icmp_ne (tgt := 67) hx hb dX5_gatherTrees_60 (by decide) (fun c2 => ?_) (fun c2 => ?_)
        · replace hf := if_f c2 hf
          refine lv_aload_n hx hb dX5_gatherTrees_67 rfl (lv_at hl 0 rfl) ?_
          refine x_get (C := RX5) (T := TX5) (N := 27) (ci := 5) hx hb hts iX5 hown hK hG 0 rfl rfl 12 (by decide) k39 (v := .ref (a 10)) rfl dX5_gatherTrees_68 ?_
          refine lv_iload_n hx hb dX5_gatherTrees_71 rfl (lv_at hl 1 rfl) ?_
          obtain ⟨v3, ev3, hin, hf⟩ := ck_e hf
          refine x_iald hx hb hK hG 10 rfl ev3 hin dX5_gatherTrees_72 ?_
          have hz := Option.some.inj hf
          have z0 := (Prod.mk.inj hz).1
          replace hz := (Prod.mk.inj hz).2
          have z1 := hz
          exact x_iret hx hb hr hlk hK hG z0 (by rw [z1]) dX5_gatherTrees_73
        · replace hf := if_t c2 hf
          refine lv_iconst (v := (-1)) hx hb dX5_gatherTrees_63 (by decide) ?_
          refine lv_goto (tgt := 73) hx hb dX5_gatherTrees_64 (by decide) ?_
          have hz := Option.some.inj hf
          have z0 := (Prod.mk.inj hz).1
          replace hz := (Prod.mk.inj hz).2
          have z1 := hz
          exact x_iret hx hb hr hlk hK hG z0 (by rw [z1]) dX5_gatherTrees_73
      · replace hf := if_f c1 hf
        refine lv_aload_n hx hb dX5_gatherTrees_12 rfl (lv_at hl 0 rfl) ?_
        refine x_get (C := RX5) (T := TX5) (N := 27) (ci := 5) hx hb hts iX5 hown hK hG 0 rfl rfl 12 (by decide) k39 (v := .ref (a 10)) rfl dX5_gatherTrees_13 ?_
        refine lv_aload_n hx hb dX5_gatherTrees_16 rfl (lv_at hl 0 rfl) ?_
        refine x_get (C := RX5) (T := TX5) (N := 27) (ci := 5) hx hb hts iX5 hown hK hG 0 rfl rfl 13 (by decide) k181 (v := .int (uv.treeMany)) rfl dX5_gatherTrees_17 ?_
        refine lv_aload_n hx hb dX5_gatherTrees_20 rfl (lv_at hl 0 rfl) ?_
        refine lv_aload_n hx hb dX5_gatherTrees_21 rfl (lv_at hl 0 rfl) ?_
        refine x_get (C := RX5) (T := TX5) (N := 27) (ci := 5) hx hb hts iX5 hown hK hG 0 rfl rfl 12 (by decide) k39 (v := .ref (a 10)) rfl dX5_gatherTrees_22 ?_
        refine lv_iload_n hx hb dX5_gatherTrees_25 rfl (lv_at hl 1 rfl) ?_
        obtain ⟨v4, ev4, hin, hf⟩ := ck_e hf
        refine x_iald hx hb hK hG 10 rfl ev4 hin dX5_gatherTrees_26 ?_
        refine lv_aload_n hx hb dX5_gatherTrees_27 rfl (lv_at hl 0 rfl) ?_
        refine x_get (C := RX5) (T := TX5) (N := 27) (ci := 5) hx hb hts iX5 hown hK hG 0 rfl rfl 12 (by decide) k39 (v := .ref (a 10)) rfl dX5_gatherTrees_28 ?_
        refine lv_iload_n hx hb dX5_gatherTrees_31 rfl (lv_at hl 1 rfl) ?_
        refine lv_iconst (v := 1) hx hb dX5_gatherTrees_32 (by decide) ?_
        refine lv_iadd hx hb dX5_gatherTrees_33 ?_
        obtain ⟨v5, ev5, hin, hf⟩ := ck_e hf
        refine x_iald hx hb hK hG 10 rfl ev5 hin dX5_gatherTrees_34 ?_
        obtain ⟨r6, uv7, q8, hf⟩ := cl2_e hf
        refine x_callVi (pre := ([] : va_W)) (wc := WM κ a uv) (wc1 := WM κ a uv7) (post := ([] : va_W)) (As := [.int v4, .int v5]) (rest := [.int (uv.treeMany), .ref (a 10)]) (w1 := WM κ a uv7) ⟨hx, hb, hml, hown, hts⟩ hK hG hA (by simp only [List.append_assoc, List.nil_append, List.append_nil]) (by simp only [List.append_assoc, List.nil_append, List.append_nil]) (c_X5_meldTrees l D κ a H.size v4 v5 uv r6 uv7 q8) (cwV 2 hts gX5_gatherTrees_X5_meldTrees rfl rfl rfl (by decide +kernel) ⟨Nat.le_of_ble_eq_true rfl, Nat.le_of_ble_eq_true rfl⟩) 0 5 rfl rfl rfl rfl hl.1 rfl (Nat.le_of_ble_eq_true rfl) dX5_gatherTrees_35 ⟨Nat.zero_le _, Nat.zero_le _⟩ (fun H locs hG => ?_)
        obtain ⟨uv9, euv9, hin, hf⟩ := ck_e hf
        refine x_iast hx hb hK hG 10 rfl (w1 := WM κ a uv9) (by rw [euv9]; rfl) hin dX5_gatherTrees_38 (fun H locs hG => ?_)
        refine lv_aload_n hx hb dX5_gatherTrees_39 rfl (lv_at hl 0 rfl) ?_
        refine lv_dup hx hb dX5_gatherTrees_40 rfl ?_
        refine x_get (C := RX5) (T := TX5) (N := 27) (ci := 5) hx hb hts iX5 hown hK hG 0 rfl rfl 13 (by decide) k181 (v := .int (uv9.treeMany)) rfl dX5_gatherTrees_41 ?_
        refine lv_iconst (v := 1) hx hb dX5_gatherTrees_44 (by decide) ?_
        refine lv_iadd hx hb dX5_gatherTrees_45 ?_
        obtain ⟨uv10, euv10, hf⟩ := bnd_e hf
        refine x_put (C := RX5) (T := TX5) (N := 27) (ci := 5) hx hb hts iX5 tyX5 tyX5_ok nmX5 hown hK hG 0 rfl rfl 13 (by decide) k181 rfl (ty := .int) (v := .int ((uv9.treeMany) + 1)) rfl rfl rfl (Nat.le_of_ble_eq_true rfl) (w1 := WM κ a uv10) (by rw [euv10]; rfl) dX5_gatherTrees_46 (fun H locs hG => ?_)
        obtain ⟨y11, ey11, hf⟩ := bnd_e hf
        refine lv_iinc (v := y11) (lv' := [(1, .int y11), (0, .ref (a 0))]) hx hb dX5_gatherTrees_49 hl (k := 1) rfl (by rw [ey11]; rfl) (by decide) rfl (fun ls hl => ?_)
        refine lv_goto (tgt := 2) hx hb dX5_gatherTrees_52 (by decide) ?_
        exact ih y11 uv10 hf H locs ls hG (lv_sub hl [1, 0] rfl)
  unfold f_X5_gatherTrees at hf
  refine lv_iconst (v := 0) hx hb dX5_gatherTrees_0 (by decide) ?_
  refine lv_istore_n (lv' := [(1, .int 0), (0, .ref (a 0))]) hx hb dX5_gatherTrees_1 rfl hl (by decide) rfl (fun ls hl => ?_)
  exact L2  FU 0 uv hf H locs ls hG (lv_sub hl [1, 0] rfl)
set_option maxRecDepth 100000 in
set_option maxHeartbeats 4000000 in
theorem c_X5_sortGoing (l : Launch) (D : va_G) (κ : Nat → ClassId) (a : Nat → Nat) (sz : Nat) (p1 : Int32) (uv : MS)  (uv' : MS) (hf : f_X5_sortGoing p1 uv = some (uv')) : Met l yX5_sortGoing wsX5_sortGoing ({ frames := 1, cells := 0, slots := 0, locals := 22 } : Room) (xPc D κ [.ref (a 0), .int p1] (WM κ a uv) sz) (xQv D κ (WM κ a uv') (va_A (WM κ a uv) sz)) 0 0 (va_A (WM κ a uv) sz) := by
  refine x_ofW (cc := cX5_sortGoing) (maxL := 5) (ret := none) (Qf := fun A => xQv D κ (WM κ a uv') A) (by decide) rfl (Nat.le_of_ble_eq_true rfl) ?_
  intro p e s m below meth c hx hb hr hlk hml hown hts hK A hA H locs hG ls hl
  have hown : s.vm.findClass RX5 = some m.cls := hown
  have hl : lv_has ls 5 [(0, .ref (a 0)), (1, .int p1)] := hl
  have iX5 : ∀ w ∈ u_ws RX5 TX5 27, w ∈ wsX5_sortGoing := fun _ h => List.mem_cons_of_mem _ (List.mem_append_right _ h)
  have k45 := hts (.fieldLink RX5 45 "SpineDesksModel" "going" "[I") (List.mem_of_getElem? (i := 1) rfl)
  have L61 : ∀ (rec2 : Int32 → Int32 → MS → Option (MS)) (hr2 : ∀ (y1 : Int32) (y2 : Int32) (uv : MS), rec2 y1 y2 uv = some (uv') → ∀ (H : Heap) (locs : List Loc) (ls : Array Slot), xG D A s.heap (WM κ a uv) H locs → lv_has ls 5 [(0, .ref (a 0)), (1, .int y1), (2, .int y2)] → W p l e ({ frames := 1, cells := 0, slots := 0, locals := 22 } : Room) s m (([.ref (a 0), .int p1] : List Value).toArray) below meth c H locs 0 0 (MQ below (xQv D κ (WM κ a uv') A) (([.ref (a 0), .int p1] : List Value).toArray) s 0 0 A) (F0 m 2 ls [])), ∀ (x1 : Int32) (x2 : Int32) (x3 : Int32) (x4 : Int32) (uv : MS), f_X5_sortGoing_61 rec2 x1 x2 x3 x4 uv = some (uv') → ∀ (H : Heap) (locs : List Loc) (ls : Array Slot), xG D A s.heap (WM κ a uv) H locs → lv_has ls 5 [(0, .ref (a 0)), (1, .int x1), (2, .int x2), (3, .int x3), (4, .int x4)] → W p l e ({ frames := 1, cells := 0, slots := 0, locals := 22 } : Room) s m (([.ref (a 0), .int p1] : List Value).toArray) below meth c H locs 0 0 (MQ below (xQv D κ (WM κ a uv') A) (([.ref (a 0), .int p1] : List Value).toArray) s 0 0 A) (F0 m 61 ls []) := by
    intro rec2 hr2 x1 x2 x3 x4 uv hf H locs ls hG hl
    unfold f_X5_sortGoing_61 at hf
    refine lv_aload_n hx hb dX5_sortGoing_61 rfl (lv_at hl 0 rfl) ?_
    refine x_get (C := RX5) (T := TX5) (N := 27) (ci := 5) hx hb hts iX5 hown hK hG 0 rfl rfl 15 (by decide) k45 (v := .ref (a 12)) rfl dX5_sortGoing_62 ?_
    refine lv_iload hx hb dX5_sortGoing_65 (lv_at hl 4 rfl) ?_
    refine lv_iload_n hx hb dX5_sortGoing_67 rfl (lv_at hl 3 rfl) ?_
    obtain ⟨uv1, euv1, hin, hf⟩ := ck_e hf
    refine x_iast hx hb hK hG 12 rfl (w1 := WM κ a uv1) (by rw [euv1]; rfl) hin dX5_sortGoing_68 (fun H locs hG => ?_)
    obtain ⟨y2, ey2, hf⟩ := bnd_e hf
    refine lv_iinc (v := y2) (lv' := [(2, .int y2), (0, .ref (a 0)), (1, .int x1), (3, .int x3), (4, .int x4)]) hx hb dX5_sortGoing_69 hl (k := 2) rfl (by rw [ey2]; rfl) (by decide) rfl (fun ls hl => ?_)
    refine lv_goto (tgt := 2) hx hb dX5_sortGoing_72 (by decide) ?_
    exact hr2 x1 y2 uv1 hf H locs ls hG (lv_sub hl [1, 2, 0] rfl)
  have L17 : ∀ (rec2 : Int32 → Int32 → MS → Option (MS)) (hr2 : ∀ (y1 : Int32) (y2 : Int32) (uv : MS), rec2 y1 y2 uv = some (uv') → ∀ (H : Heap) (locs : List Loc) (ls : Array Slot), xG D A s.heap (WM κ a uv) H locs → lv_has ls 5 [(0, .ref (a 0)), (1, .int y1), (2, .int y2)] → W p l e ({ frames := 1, cells := 0, slots := 0, locals := 22 } : Room) s m (([.ref (a 0), .int p1] : List Value).toArray) below meth c H locs 0 0 (MQ below (xQv D κ (WM κ a uv') A) (([.ref (a 0), .int p1] : List Value).toArray) s 0 0 A) (F0 m 2 ls [])), ∀ (n : Nat), ∀ (x1 : Int32) (x2 : Int32) (x3 : Int32) (x4 : Int32) (uv : MS), f_X5_sortGoing_17 rec2 n x1 x2 x3 x4 uv = some (uv') → ∀ (H : Heap) (locs : List Loc) (ls : Array Slot), xG D A s.heap (WM κ a uv) H locs → lv_has ls 5 [(0, .ref (a 0)), (1, .int x1), (2, .int x2), (3, .int x3), (4, .int x4)] → W p l e ({ frames := 1, cells := 0, slots := 0, locals := 22 } : Room) s m (([.ref (a 0), .int p1] : List Value).toArray) below meth c H locs 0 0 (MQ below (xQv D κ (WM κ a uv') A) (([.ref (a 0), .int p1] : List Value).toArray) s 0 0 A) (F0 m 17 ls []) := by
    intro rec2 hr2 n
    induction n with
    | zero => intro x1 x2 x3 x4 uv hf; cases hf
    | succ n ih =>
      intro x1 x2 x3 x4 uv hf H locs ls hG hl
      replace hf : f_X5_sortGoing_B17 rec2 (f_X5_sortGoing_17 rec2 n) x1 x2 x3 x4 uv = some (uv') := hf
      unfold f_X5_sortGoing_B17 at hf
      refine lv_iload hx hb dX5_sortGoing_17 (lv_at hl 4 rfl) ?_
      refine lv_if_le (tgt := 61) hx hb dX5_sortGoing_19 (by decide) (fun c3 => ?_) (fun c3 => ?_)
      · replace hf := if_t c3 hf
        exact L61 rec2 hr2  x1 x2 x3 x4 uv hf H locs ls hG (lv_sub hl [0, 1, 2, 3, 4] rfl)
      · replace hf := if_f c3 hf
        refine lv_aload_n hx hb dX5_sortGoing_22 rfl (lv_at hl 0 rfl) ?_
        refine lv_iload_n hx hb dX5_sortGoing_23 rfl (lv_at hl 3 rfl) ?_
        refine lv_aload_n hx hb dX5_sortGoing_24 rfl (lv_at hl 0 rfl) ?_
        refine x_get (C := RX5) (T := TX5) (N := 27) (ci := 5) hx hb hts iX5 hown hK hG 0 rfl rfl 15 (by decide) k45 (v := .ref (a 12)) rfl dX5_sortGoing_25 ?_
        refine lv_iload hx hb dX5_sortGoing_28 (lv_at hl 4 rfl) ?_
        refine lv_iconst (v := 1) hx hb dX5_sortGoing_30 (by decide) ?_
        refine lv_isub hx hb dX5_sortGoing_31 ?_
        obtain ⟨v4, ev4, hin, hf⟩ := ck_e hf
        refine x_iald hx hb hK hG 12 rfl ev4 hin dX5_sortGoing_32 ?_
        obtain ⟨r5, q6, hf⟩ := cl1_e hf
        refine x_callVi (pre := ([] : va_W)) (wc := WM κ a uv) (wc1 := WM κ a uv) (post := ([] : va_W)) (As := [.int x3, .int v4]) (rest := []) (w1 := WM κ a uv) ⟨hx, hb, hml, hown, hts⟩ hK hG hA (by simp only [List.append_assoc, List.nil_append, List.append_nil]) (by simp only [List.append_assoc, List.nil_append, List.append_nil]) (c_X5_isLess l D κ a H.size x3 v4 uv r5 q6) (cwV 2 hts gX5_sortGoing_X5_isLess rfl rfl rfl (by decide +kernel) ⟨Nat.le_of_ble_eq_true rfl, Nat.le_of_ble_eq_true rfl⟩) 0 5 rfl rfl rfl rfl hl.1 rfl (Nat.le_of_ble_eq_true rfl) dX5_sortGoing_33 ⟨Nat.zero_le _, Nat.zero_le _⟩ (fun H locs hG => ?_)
        refine lv_if_eq (tgt := 61) hx hb dX5_sortGoing_36 (by decide) (fun c7 => ?_) (fun c7 => ?_)
        · replace hf := if_t c7 hf
          exact L61 rec2 hr2  x1 x2 x3 x4 uv hf H locs ls hG (lv_sub hl [0, 1, 2, 3, 4] rfl)
        · replace hf := if_f c7 hf
          refine lv_aload_n hx hb dX5_sortGoing_39 rfl (lv_at hl 0 rfl) ?_
          refine x_get (C := RX5) (T := TX5) (N := 27) (ci := 5) hx hb hts iX5 hown hK hG 0 rfl rfl 15 (by decide) k45 (v := .ref (a 12)) rfl dX5_sortGoing_40 ?_
          refine lv_iload hx hb dX5_sortGoing_43 (lv_at hl 4 rfl) ?_
          refine lv_aload_n hx hb dX5_sortGoing_45 rfl (lv_at hl 0 rfl) ?_
          refine x_get (C := RX5) (T := TX5) (N := 27) (ci := 5) hx hb hts iX5 hown hK hG 0 rfl rfl 15 (by decide) k45 (v := .ref (a 12)) rfl dX5_sortGoing_46 ?_
          refine lv_iload hx hb dX5_sortGoing_49 (lv_at hl 4 rfl) ?_
          refine lv_iconst (v := 1) hx hb dX5_sortGoing_51 (by decide) ?_
          refine lv_isub hx hb dX5_sortGoing_52 ?_
          obtain ⟨v8, ev8, hin, hf⟩ := ck_e hf
          refine x_iald hx hb hK hG 12 rfl ev8 hin dX5_sortGoing_53 ?_
          obtain ⟨uv9, euv9, hin, hf⟩ := ck_e hf
          refine x_iast hx hb hK hG 12 rfl (w1 := WM κ a uv9) (by rw [euv9]; rfl) hin dX5_sortGoing_54 (fun H locs hG => ?_)
          obtain ⟨y10, ey10, hf⟩ := bnd_e hf
          refine lv_iinc (v := y10) (lv' := [(4, .int y10), (0, .ref (a 0)), (1, .int x1), (2, .int x2), (3, .int x3)]) hx hb dX5_sortGoing_55 hl (k := 4) rfl (by rw [ey10]; rfl) (by decide) rfl (fun ls hl => ?_)
          refine lv_goto (tgt := 17) hx hb dX5_sortGoing_58 (by decide) ?_
          exact ih x1 x2 x3 y10 uv9 hf H locs ls hG (lv_sub hl [1, 2, 3, 4, 0] rfl)
  have L2 : ∀ (n : Nat), ∀ (x1 : Int32) (x2 : Int32) (uv : MS), f_X5_sortGoing_2 n x1 x2 uv = some (uv') → ∀ (H : Heap) (locs : List Loc) (ls : Array Slot), xG D A s.heap (WM κ a uv) H locs → lv_has ls 5 [(0, .ref (a 0)), (1, .int x1), (2, .int x2)] → W p l e ({ frames := 1, cells := 0, slots := 0, locals := 22 } : Room) s m (([.ref (a 0), .int p1] : List Value).toArray) below meth c H locs 0 0 (MQ below (xQv D κ (WM κ a uv') A) (([.ref (a 0), .int p1] : List Value).toArray) s 0 0 A) (F0 m 2 ls []) := by
    intro  n
    induction n with
    | zero => intro x1 x2 uv hf; cases hf
    | succ n ih =>
      intro x1 x2 uv hf H locs ls hG hl
      replace hf : f_X5_sortGoing_B2 (f_X5_sortGoing_2 n) x1 x2 uv = some (uv') := hf
      unfold f_X5_sortGoing_B2 at hf
      refine lv_iload_n hx hb dX5_sortGoing_2 rfl (lv_at hl 2 rfl) ?_
      refine lv_iload_n hx hb dX5_sortGoing_3 rfl (lv_at hl 1 rfl) ?_
      refine lv_icmp_ge (tgt := 75) hx hb dX5_sortGoing_4 (by decide) (fun c11 => ?_) (fun c11 => ?_)
      · replace hf := if_t c11 hf
        have z0 := Option.some.inj hf
        exact x_vret hx hb hr hlk hK hG (by rw [z0]) dX5_sortGoing_75
      · replace hf := if_f c11 hf
        refine lv_aload_n hx hb dX5_sortGoing_7 rfl (lv_at hl 0 rfl) ?_
        refine x_get (C := RX5) (T := TX5) (N := 27) (ci := 5) hx hb hts iX5 hown hK hG 0 rfl rfl 15 (by decide) k45 (v := .ref (a 12)) rfl dX5_sortGoing_8 ?_
        refine lv_iload_n hx hb dX5_sortGoing_11 rfl (lv_at hl 2 rfl) ?_
        obtain ⟨v12, ev12, hin, hf⟩ := ck_e hf
        refine x_iald hx hb hK hG 12 rfl ev12 hin dX5_sortGoing_12 ?_
        refine lv_istore_n (lv' := [(3, .int v12), (0, .ref (a 0)), (1, .int x1), (2, .int x2)]) hx hb dX5_sortGoing_13 rfl hl (by decide) rfl (fun ls hl => ?_)
        refine lv_iload_n hx hb dX5_sortGoing_14 rfl (lv_at hl 3 rfl) ?_
        refine lv_istore (lv' := [(4, .int x2), (3, .int v12), (0, .ref (a 0)), (1, .int x1), (2, .int x2)]) hx hb dX5_sortGoing_15 hl (by decide) rfl (fun ls hl => ?_)
        exact L17 (f_X5_sortGoing_2 n) ih FU x1 x2 v12 x2 uv hf H locs ls hG (lv_sub hl [2, 3, 4, 1, 0] rfl)
  unfold f_X5_sortGoing at hf
  refine lv_iconst (v := 1) hx hb dX5_sortGoing_0 (by decide) ?_
  refine lv_istore_n (lv' := [(2, .int 1), (0, .ref (a 0)), (1, .int p1)]) hx hb dX5_sortGoing_1 rfl hl (by decide) rfl (fun ls hl => ?_)
  exact L2  FU p1 1 uv hf H locs ls hG (lv_sub hl [1, 2, 0] rfl)
set_option maxRecDepth 100000 in
set_option maxHeartbeats 4000000 in
theorem c_X5_gather (l : Launch) (D : va_G) (κ : Nat → ClassId) (a : Nat → Nat) (sz : Nat) (p1 : Int32) (uv : MS) (r' : Int32) (uv' : MS) (hf : f_X5_gather p1 uv = some (r', uv')) : Met l yX5_gather wsX5_gather ({ frames := 6, cells := 0, slots := 0, locals := 135 } : Room) (xPc D κ [.ref (a 0), .int p1] (WM κ a uv) sz) (xQi D κ r' (WM κ a uv') (va_A (WM κ a uv) sz)) 0 0 (va_A (WM κ a uv) sz) := by
  refine x_ofW (cc := cX5_gather) (maxL := 5) (ret := (some .int)) (Qf := fun A => xQi D κ r' (WM κ a uv') A) (by decide) rfl (Nat.le_of_ble_eq_true rfl) ?_
  intro p e s m below meth c hx hb hr hlk hml hown hts hK A hA H locs hG ls hl
  have hown : s.vm.findClass RX5 = some m.cls := hown
  have hl : lv_has ls 5 [(0, .ref (a 0)), (1, .int p1)] := hl
  have iX5 : ∀ w ∈ u_ws RX5 TX5 27, w ∈ wsX5_gather := fun _ h => List.mem_cons_of_mem _ (List.mem_append_right _ h)
  have k13 := hts (.fieldLink RX5 13 "SpineDesksModel" "row" "[I") (List.mem_of_getElem? (i := 3) rfl)
  have k181 := hts (.fieldLink RX5 181 "SpineDesksModel" "treeMany" "I") (List.mem_of_getElem? (i := 2) rfl)
  have k39 := hts (.fieldLink RX5 39 "SpineDesksModel" "trees" "[I") (List.mem_of_getElem? (i := 4) rfl)
  have k63 := hts (.fieldLink RX5 63 "SpineDesksModel" "thrown" "I") (List.mem_of_getElem? (i := 1) rfl)
  have k71 := hts (.fieldLink RX5 71 "SpineDesksModel" "steps" "I") (List.mem_of_getElem? (i := 5) rfl)
  have L103 : ∀ (n : Nat), ∀ (x1 : Int32) (x2 : Int32) (x3 : Int32) (x4 : Int32) (uv : MS), f_X5_gather_103 n x1 x2 x3 x4 uv = some (r', uv') → ∀ (H : Heap) (locs : List Loc) (ls : Array Slot), xG D A s.heap (WM κ a uv) H locs → lv_has ls 5 [(0, .ref (a 0)), (1, .int x1), (2, .int x2), (3, .int x3), (4, .int x4)] → W p l e ({ frames := 6, cells := 0, slots := 0, locals := 135 } : Room) s m (([.ref (a 0), .int p1] : List Value).toArray) below meth c H locs 0 0 (MQ below (xQi D κ r' (WM κ a uv') A) (([.ref (a 0), .int p1] : List Value).toArray) s 0 0 A) (F0 m 103 ls []) := by
    intro  n
    induction n with
    | zero => intro x1 x2 x3 x4 uv hf; cases hf
    | succ n ih =>
      intro x1 x2 x3 x4 uv hf H locs ls hG hl
      replace hf : f_X5_gather_B103 (f_X5_gather_103 n) x1 x2 x3 x4 uv = some (r', uv') := hf
      unfold f_X5_gather_B103 at hf
      refine lv_iload hx hb dX5_gather_103 (lv_at hl 4 rfl) ?_
      refine lv_bipush (v := 6) hx hb dX5_gather_105 (by decide) ?_
      refine lv_icmp_ge (tgt := 133) hx hb dX5_gather_107 (by decide) (fun c1 => ?_) (fun c1 => ?_)
      · replace hf := if_t c1 hf
        refine lv_aload_n hx hb dX5_gather_133 rfl (lv_at hl 0 rfl) ?_
        refine x_get (C := RX5) (T := TX5) (N := 27) (ci := 5) hx hb hts iX5 hown hK hG 0 rfl rfl 2 (by decide) k13 (v := .ref (a 2)) rfl dX5_gather_134 ?_
        refine lv_iconst (v := 4) hx hb dX5_gather_137 (by decide) ?_
        refine lv_iload_n hx hb dX5_gather_138 rfl (lv_at hl 1 rfl) ?_
        refine lv_iadd hx hb dX5_gather_139 ?_
        refine lv_iload_n hx hb dX5_gather_140 rfl (lv_at hl 3 rfl) ?_
        obtain ⟨uv2, euv2, hin, hf⟩ := ck_e hf
        refine x_iast hx hb hK hG 2 rfl (w1 := WM κ a uv2) (by rw [euv2]; rfl) hin dX5_gather_141 (fun H locs hG => ?_)
        refine lv_aload_n hx hb dX5_gather_142 rfl (lv_at hl 0 rfl) ?_
        refine x_get (C := RX5) (T := TX5) (N := 27) (ci := 5) hx hb hts iX5 hown hK hG 0 rfl rfl 9 (by decide) k71 (v := .int (uv2.steps)) rfl dX5_gather_143 ?_
        refine lv_iload_n hx hb dX5_gather_146 rfl (lv_at hl 2 rfl) ?_
        refine lv_isub hx hb dX5_gather_147 ?_
        refine lv_topi (fun y3 ey3 => ?_)
        replace hf := bnd_at ey3 hf
        refine lv_istore (lv' := [(4, .int y3), (0, .ref (a 0)), (1, .int x1), (2, .int x2), (3, .int x3)]) hx hb dX5_gather_148 hl (by decide) rfl (fun ls hl => ?_)
        refine lv_aload_n hx hb dX5_gather_150 rfl (lv_at hl 1 rfl) ?_
        obtain ⟨uv4, q5, hf⟩ := cl1_e hf
        refine x_callVv (pre := ([] : va_W)) (wc := WM κ a uv2) (wc1 := WM κ a uv4) (post := ([] : va_W)) (As := []) (rest := []) (w1 := WM κ a uv4) ⟨hx, hb, hml, hown, hts⟩ hK hG hA (by simp only [List.append_assoc, List.nil_append, List.append_nil]) (by simp only [List.append_assoc, List.nil_append, List.append_nil]) (c_X5_sweep l D κ a H.size uv2 uv4 q5) (cwV 0 hts gX5_gather_X5_sweep rfl rfl rfl (by decide +kernel) ⟨Nat.le_of_ble_eq_true rfl, Nat.le_of_ble_eq_true rfl⟩) 0 5 rfl rfl rfl rfl hl.1 rfl (Nat.le_of_ble_eq_true rfl) dX5_gather_151 ⟨Nat.zero_le _, Nat.zero_le _⟩ (fun H locs hG => ?_)
        refine lv_iload hx hb dX5_gather_154 (lv_at hl 0 rfl) ?_
        have hz := Option.some.inj hf
        have z0 := (Prod.mk.inj hz).1
        replace hz := (Prod.mk.inj hz).2
        have z1 := hz
        exact x_iret hx hb hr hlk hK hG z0 (by rw [z1]) dX5_gather_156
      · replace hf := if_f c1 hf
        refine lv_aload_n hx hb dX5_gather_110 rfl (lv_at hl 0 rfl) ?_
        refine x_get (C := RX5) (T := TX5) (N := 27) (ci := 5) hx hb hts iX5 hown hK hG 0 rfl rfl 2 (by decide) k13 (v := .ref (a 2)) rfl dX5_gather_111 ?_
        refine lv_iconst (v := 4) hx hb dX5_gather_114 (by decide) ?_
        refine lv_iload hx hb dX5_gather_115 (lv_at hl 4 rfl) ?_
        refine lv_iadd hx hb dX5_gather_117 ?_
        refine lv_iconst (v := (-1)) hx hb dX5_gather_118 (by decide) ?_
        obtain ⟨uv6, euv6, hin, hf⟩ := ck_e hf
        refine x_iast hx hb hK hG 2 rfl (w1 := WM κ a uv6) (by rw [euv6]; rfl) hin dX5_gather_119 (fun H locs hG => ?_)
        refine lv_aload_n hx hb dX5_gather_120 rfl (lv_at hl 0 rfl) ?_
        refine lv_iload hx hb dX5_gather_121 (lv_at hl 4 rfl) ?_
        refine lv_iload_n hx hb dX5_gather_123 rfl (lv_at hl 1 rfl) ?_
        obtain ⟨uv7, q8, hf⟩ := cl1_e hf
        refine x_callVv (pre := ([] : va_W)) (wc := WM κ a uv6) (wc1 := WM κ a uv7) (post := ([] : va_W)) (As := [.int x4, .int x1]) (rest := []) (w1 := WM κ a uv7) ⟨hx, hb, hml, hown, hts⟩ hK hG hA (by simp only [List.append_assoc, List.nil_append, List.append_nil]) (by simp only [List.append_assoc, List.nil_append, List.append_nil]) (c_X5_moveAll l D κ a H.size x4 x1 uv6 uv7 q8) (cwV 2 hts gX5_gather_X5_moveAll rfl rfl rfl (by decide +kernel) ⟨Nat.le_of_ble_eq_true rfl, Nat.le_of_ble_eq_true rfl⟩) 0 5 rfl rfl rfl rfl hl.1 rfl (Nat.le_of_ble_eq_true rfl) dX5_gather_124 ⟨Nat.zero_le _, Nat.zero_le _⟩ (fun H locs hG => ?_)
        obtain ⟨y9, ey9, hf⟩ := bnd_e hf
        refine lv_iinc (v := y9) (lv' := [(4, .int y9), (0, .ref (a 0)), (1, .int x1), (2, .int x2), (3, .int x3)]) hx hb dX5_gather_127 hl (k := 4) rfl (by rw [ey9]; rfl) (by decide) rfl (fun ls hl => ?_)
        refine lv_goto (tgt := 103) hx hb dX5_gather_130 (by decide) ?_
        exact ih x1 x2 x3 y9 uv7 hf H locs ls hG (lv_sub hl [1, 2, 3, 4, 0] rfl)
  have L70 : ∀ (rec25 : Int32 → Int32 → MS → Option (Int32 × MS)) (hr25 : ∀ (y1 : Int32) (y2 : Int32) (uv : MS), rec25 y1 y2 uv = some (r', uv') → ∀ (H : Heap) (locs : List Loc) (ls : Array Slot), xG D A s.heap (WM κ a uv) H locs → lv_has ls 5 [(0, .ref (a 0)), (1, .int y1), (2, .int y2)] → W p l e ({ frames := 6, cells := 0, slots := 0, locals := 135 } : Room) s m (([.ref (a 0), .int p1] : List Value).toArray) below meth c H locs 0 0 (MQ below (xQi D κ r' (WM κ a uv') A) (([.ref (a 0), .int p1] : List Value).toArray) s 0 0 A) (F0 m 25 ls [])), ∀ (x1 : Int32) (x2 : Int32) (uv : MS), f_X5_gather_70 rec25 x1 x2 uv = some (r', uv') → ∀ (H : Heap) (locs : List Loc) (ls : Array Slot), xG D A s.heap (WM κ a uv) H locs → lv_has ls 5 [(0, .ref (a 0)), (1, .int x1), (2, .int x2)] → W p l e ({ frames := 6, cells := 0, slots := 0, locals := 135 } : Room) s m (([.ref (a 0), .int p1] : List Value).toArray) below meth c H locs 0 0 (MQ below (xQi D κ r' (WM κ a uv') A) (([.ref (a 0), .int p1] : List Value).toArray) s 0 0 A) (F0 m 70 ls []) := by
    intro rec25 hr25 x1 x2 uv hf H locs ls hG hl
    unfold f_X5_gather_70 at hf
    obtain ⟨y10, ey10, hf⟩ := bnd_e hf
    refine lv_iinc (v := y10) (lv' := [(2, .int y10), (0, .ref (a 0)), (1, .int x1)]) hx hb dX5_gather_70 hl (k := 2) rfl (by rw [ey10]; rfl) (by decide) rfl (fun ls hl => ?_)
    refine lv_goto (tgt := 25) hx hb dX5_gather_73 (by decide) ?_
    exact hr25 x1 y10 uv hf H locs ls hG (lv_sub hl [1, 2, 0] rfl)
  have L25 : ∀ (n : Nat), ∀ (x1 : Int32) (x2 : Int32) (uv : MS), f_X5_gather_25 n x1 x2 uv = some (r', uv') → ∀ (H : Heap) (locs : List Loc) (ls : Array Slot), xG D A s.heap (WM κ a uv) H locs → lv_has ls 5 [(0, .ref (a 0)), (1, .int x1), (2, .int x2)] → W p l e ({ frames := 6, cells := 0, slots := 0, locals := 135 } : Room) s m (([.ref (a 0), .int p1] : List Value).toArray) below meth c H locs 0 0 (MQ below (xQi D κ r' (WM κ a uv') A) (([.ref (a 0), .int p1] : List Value).toArray) s 0 0 A) (F0 m 25 ls []) := by
    intro  n
    induction n with
    | zero => intro x1 x2 uv hf; cases hf
    | succ n ih =>
      intro x1 x2 uv hf H locs ls hG hl
      replace hf : f_X5_gather_B25 (f_X5_gather_25 n) x1 x2 uv = some (r', uv') := hf
      unfold f_X5_gather_B25 at hf
      refine lv_iload_n hx hb dX5_gather_25 rfl (lv_at hl 2 rfl) ?_
      refine lv_bipush (v := 6) hx hb dX5_gather_26 (by decide) ?_
      refine lv_icmp_ge (tgt := 76) hx hb dX5_gather_28 (by decide) (fun c11 => ?_) (fun c11 => ?_)
      · replace hf := if_t c11 hf
        refine lv_aload_n hx hb dX5_gather_76 rfl (lv_at hl 0 rfl) ?_
        refine x_get (C := RX5) (T := TX5) (N := 27) (ci := 5) hx hb hts iX5 hown hK hG 0 rfl rfl 13 (by decide) k181 (v := .int (uv.treeMany)) rfl dX5_gather_77 ?_
        refine lv_if_ne (tgt := 90) hx hb dX5_gather_80 (by decide) (fun c12 => ?_) (fun c12 => ?_)
        · replace hf := if_f c12 hf
          refine lv_aload_n hx hb dX5_gather_90 rfl (lv_at hl 0 rfl) ?_
          refine x_get (C := RX5) (T := TX5) (N := 27) (ci := 5) hx hb hts iX5 hown hK hG 0 rfl rfl 9 (by decide) k71 (v := .int (uv.steps)) rfl dX5_gather_91 ?_
          refine lv_topi (fun y13 ey13 => ?_)
          replace hf := bnd_at ey13 hf
          refine lv_istore_n (lv' := [(2, .int y13), (0, .ref (a 0)), (1, .int x1)]) hx hb dX5_gather_94 rfl hl (by decide) rfl (fun ls hl => ?_)
          refine lv_aload_n hx hb dX5_gather_95 rfl (lv_at hl 1 rfl) ?_
          obtain ⟨r14, uv15, q16, hf⟩ := cl2_e hf
          refine x_callVi (pre := ([] : va_W)) (wc := WM κ a uv) (wc1 := WM κ a uv15) (post := ([] : va_W)) (As := []) (rest := []) (w1 := WM κ a uv15) ⟨hx, hb, hml, hown, hts⟩ hK hG hA (by simp only [List.append_assoc, List.nil_append, List.append_nil]) (by simp only [List.append_assoc, List.nil_append, List.append_nil]) (c_X5_gatherTrees l D κ a H.size uv r14 uv15 q16) (cwV 0 hts gX5_gather_X5_gatherTrees rfl rfl rfl (by decide +kernel) ⟨Nat.le_of_ble_eq_true rfl, Nat.le_of_ble_eq_true rfl⟩) 0 5 rfl rfl rfl rfl hl.1 rfl (Nat.le_of_ble_eq_true rfl) dX5_gather_96 ⟨Nat.zero_le _, Nat.zero_le _⟩ (fun H locs hG => ?_)
          refine lv_istore_n (lv' := [(3, .int r14), (2, .int y13), (0, .ref (a 0)), (1, .int x1)]) hx hb dX5_gather_99 rfl hl (by decide) rfl (fun ls hl => ?_)
          refine lv_iconst (v := 0) hx hb dX5_gather_100 (by decide) ?_
          refine lv_istore (lv' := [(4, .int 0), (3, .int r14), (2, .int y13), (0, .ref (a 0)), (1, .int x1)]) hx hb dX5_gather_101 hl (by decide) rfl (fun ls hl => ?_)
          exact L103  FU x1 y13 r14 0 uv15 hf H locs ls hG (lv_sub hl [3, 4, 2, 1, 0] rfl)
        · replace hf := if_t c12 hf
          refine lv_aload_n hx hb dX5_gather_83 rfl (lv_at hl 0 rfl) ?_
          refine lv_bipush (v := (-3)) hx hb dX5_gather_84 (by decide) ?_
          obtain ⟨r17, uv18, q19, hf⟩ := cl2_e hf
          refine x_callVi (pre := ([] : va_W)) (wc := WM κ a uv) (wc1 := WM κ a uv18) (post := ([] : va_W)) (As := [.int ((-3))]) (rest := []) (w1 := WM κ a uv18) ⟨hx, hb, hml, hown, hts⟩ hK hG hA (by simp only [List.append_assoc, List.nil_append, List.append_nil]) (by simp only [List.append_assoc, List.nil_append, List.append_nil]) (c_X5_refuse l D κ a H.size ((-3)) uv r17 uv18 q19) (cwV 1 hts gX5_gather_X5_refuse rfl rfl rfl (by decide +kernel) ⟨Nat.le_of_ble_eq_true rfl, Nat.le_of_ble_eq_true rfl⟩) 0 5 rfl rfl rfl rfl hl.1 rfl (Nat.le_of_ble_eq_true rfl) dX5_gather_86 ⟨Nat.zero_le _, Nat.zero_le _⟩ (fun H locs hG => ?_)
          have hz := Option.some.inj hf
          have z0 := (Prod.mk.inj hz).1
          replace hz := (Prod.mk.inj hz).2
          have z1 := hz
          exact x_iret hx hb hr hlk hK hG z0 (by rw [z1]) dX5_gather_89
      · replace hf := if_f c11 hf
        refine lv_aload_n hx hb dX5_gather_31 rfl (lv_at hl 0 rfl) ?_
        refine x_get (C := RX5) (T := TX5) (N := 27) (ci := 5) hx hb hts iX5 hown hK hG 0 rfl rfl 2 (by decide) k13 (v := .ref (a 2)) rfl dX5_gather_32 ?_
        refine lv_iconst (v := 4) hx hb dX5_gather_35 (by decide) ?_
        refine lv_iload_n hx hb dX5_gather_36 rfl (lv_at hl 2 rfl) ?_
        refine lv_iadd hx hb dX5_gather_37 ?_
        obtain ⟨v20, ev20, hin, hf⟩ := ck_e hf
        refine x_iald hx hb hK hG 2 rfl ev20 hin dX5_gather_38 ?_
        refine lv_iconst (v := (-1)) hx hb dX5_gather_39 (by decide) ?_
        refine lv_icmp_eq (tgt := 70) hx hb dX5_gather_40 (by decide) (fun c21 => ?_) (fun c21 => ?_)
        · replace hf := if_t c21 hf
          exact L70 (f_X5_gather_25 n) ih  x1 x2 uv hf H locs ls hG (lv_sub hl [0, 1, 2] rfl)
        · replace hf := if_f c21 hf
          refine lv_aload_n hx hb dX5_gather_43 rfl (lv_at hl 0 rfl) ?_
          refine x_get (C := RX5) (T := TX5) (N := 27) (ci := 5) hx hb hts iX5 hown hK hG 0 rfl rfl 12 (by decide) k39 (v := .ref (a 10)) rfl dX5_gather_44 ?_
          refine lv_aload_n hx hb dX5_gather_47 rfl (lv_at hl 0 rfl) ?_
          refine x_get (C := RX5) (T := TX5) (N := 27) (ci := 5) hx hb hts iX5 hown hK hG 0 rfl rfl 13 (by decide) k181 (v := .int (uv.treeMany)) rfl dX5_gather_48 ?_
          refine lv_aload_n hx hb dX5_gather_51 rfl (lv_at hl 0 rfl) ?_
          refine x_get (C := RX5) (T := TX5) (N := 27) (ci := 5) hx hb hts iX5 hown hK hG 0 rfl rfl 2 (by decide) k13 (v := .ref (a 2)) rfl dX5_gather_52 ?_
          refine lv_iconst (v := 4) hx hb dX5_gather_55 (by decide) ?_
          refine lv_iload_n hx hb dX5_gather_56 rfl (lv_at hl 2 rfl) ?_
          refine lv_iadd hx hb dX5_gather_57 ?_
          obtain ⟨v22, ev22, hin, hf⟩ := ck_e hf
          refine x_iald hx hb hK hG 2 rfl ev22 hin dX5_gather_58 ?_
          obtain ⟨uv23, euv23, hin, hf⟩ := ck_e hf
          refine x_iast hx hb hK hG 10 rfl (w1 := WM κ a uv23) (by rw [euv23]; rfl) hin dX5_gather_59 (fun H locs hG => ?_)
          refine lv_aload_n hx hb dX5_gather_60 rfl (lv_at hl 0 rfl) ?_
          refine lv_dup hx hb dX5_gather_61 rfl ?_
          refine x_get (C := RX5) (T := TX5) (N := 27) (ci := 5) hx hb hts iX5 hown hK hG 0 rfl rfl 13 (by decide) k181 (v := .int (uv23.treeMany)) rfl dX5_gather_62 ?_
          refine lv_iconst (v := 1) hx hb dX5_gather_65 (by decide) ?_
          refine lv_iadd hx hb dX5_gather_66 ?_
          obtain ⟨uv24, euv24, hf⟩ := bnd_e hf
          refine x_put (C := RX5) (T := TX5) (N := 27) (ci := 5) hx hb hts iX5 tyX5 tyX5_ok nmX5 hown hK hG 0 rfl rfl 13 (by decide) k181 rfl (ty := .int) (v := .int ((uv23.treeMany) + 1)) rfl rfl rfl (Nat.le_of_ble_eq_true rfl) (w1 := WM κ a uv24) (by rw [euv24]; rfl) dX5_gather_67 (fun H locs hG => ?_)
          exact L70 (f_X5_gather_25 n) ih  x1 x2 uv24 hf H locs ls hG (lv_sub hl [0, 1, 2] rfl)
  unfold f_X5_gather at hf
  refine lv_aload_n hx hb dX5_gather_0 rfl (lv_at hl 0 rfl) ?_
  refine lv_iconst (v := 0) hx hb dX5_gather_1 (by decide) ?_
  obtain ⟨uv25, euv25, hf⟩ := bnd_e hf
  refine x_put (C := RX5) (T := TX5) (N := 27) (ci := 5) hx hb hts iX5 tyX5 tyX5_ok nmX5 hown hK hG 0 rfl rfl 0 (by decide) k63 rfl (ty := .int) (v := .int 0) rfl rfl rfl (Nat.le_of_ble_eq_true rfl) (w1 := WM κ a uv25) (by rw [euv25]; rfl) dX5_gather_2 (fun H locs hG => ?_)
  refine lv_iload_n hx hb dX5_gather_5 rfl (lv_at hl 1 rfl) ?_
  obtain ⟨r26, q27, hf⟩ := cl1_e hf
  refine x_callSi (pre := ([] : va_W)) (wc := ([] : va_W)) (wc1 := ([] : va_W)) (post := WM κ a uv25) (As := [.int p1]) (rest := []) (w1 := WM κ a uv25) ⟨hx, hb, hml, hown, hts⟩ hK hG hA (by simp only [List.append_assoc, List.nil_append, List.append_nil]) (by simp only [List.append_assoc, List.nil_append, List.append_nil]) (c_X5_isDesk l D κ a H.size p1 r26 q27) (va_cwS 1 hts gX5_gather_X5_isDesk rfl rfl rfl (by decide +kernel) ⟨Nat.le_of_ble_eq_true rfl, Nat.le_of_ble_eq_true rfl⟩) rfl hl.1 rfl (Nat.le_of_ble_eq_true rfl) dX5_gather_6 ⟨Nat.zero_le _, Nat.zero_le _⟩ (fun H locs hG => ?_)
  refine lv_if_ne (tgt := 18) hx hb dX5_gather_9 (by decide) (fun c28 => ?_) (fun c28 => ?_)
  · replace hf := if_f c28 hf
    refine lv_aload_n hx hb dX5_gather_18 rfl (lv_at hl 0 rfl) ?_
    refine lv_iconst (v := 0) hx hb dX5_gather_19 (by decide) ?_
    obtain ⟨uv29, euv29, hf⟩ := bnd_e hf
    refine x_put (C := RX5) (T := TX5) (N := 27) (ci := 5) hx hb hts iX5 tyX5 tyX5_ok nmX5 hown hK hG 0 rfl rfl 13 (by decide) k181 rfl (ty := .int) (v := .int 0) rfl rfl rfl (Nat.le_of_ble_eq_true rfl) (w1 := WM κ a uv29) (by rw [euv29]; rfl) dX5_gather_20 (fun H locs hG => ?_)
    refine lv_iconst (v := 0) hx hb dX5_gather_23 (by decide) ?_
    refine lv_istore_n (lv' := [(2, .int 0), (0, .ref (a 0)), (1, .int p1)]) hx hb dX5_gather_24 rfl hl (by decide) rfl (fun ls hl => ?_)
    exact L25  FU p1 0 uv29 hf H locs ls hG (lv_sub hl [1, 2, 0] rfl)
  · replace hf := if_t c28 hf
    refine lv_aload_n hx hb dX5_gather_12 rfl (lv_at hl 0 rfl) ?_
    refine lv_iconst (v := (-1)) hx hb dX5_gather_13 (by decide) ?_
    obtain ⟨r30, uv31, q32, hf⟩ := cl2_e hf
    refine x_callVi (pre := ([] : va_W)) (wc := WM κ a uv25) (wc1 := WM κ a uv31) (post := ([] : va_W)) (As := [.int ((-1))]) (rest := []) (w1 := WM κ a uv31) ⟨hx, hb, hml, hown, hts⟩ hK hG hA (by simp only [List.append_assoc, List.nil_append, List.append_nil]) (by simp only [List.append_assoc, List.nil_append, List.append_nil]) (c_X5_refuse l D κ a H.size ((-1)) uv25 r30 uv31 q32) (cwV 1 hts gX5_gather_X5_refuse rfl rfl rfl (by decide +kernel) ⟨Nat.le_of_ble_eq_true rfl, Nat.le_of_ble_eq_true rfl⟩) 0 5 rfl rfl rfl rfl hl.1 rfl (Nat.le_of_ble_eq_true rfl) dX5_gather_14 ⟨Nat.zero_le _, Nat.zero_le _⟩ (fun H locs hG => ?_)
    have hz := Option.some.inj hf
    have z0 := (Prod.mk.inj hz).1
    replace hz := (Prod.mk.inj hz).2
    have z1 := hz
    exact x_iret hx hb hr hlk hK hG z0 (by rw [z1]) dX5_gather_17
set_option maxRecDepth 100000 in
set_option maxHeartbeats 4000000 in
theorem c_X5_even (l : Launch) (D : va_G) (κ : Nat → ClassId) (a : Nat → Nat) (sz : Nat)  (uv : MS) (r' : Int32) (uv' : MS) (hf : f_X5_even uv = some (r', uv')) : Met l yX5_even wsX5_even ({ frames := 7, cells := 0, slots := 0, locals := 158 } : Room) (xPc D κ [.ref (a 0)] (WM κ a uv) sz) (xQi D κ r' (WM κ a uv') (va_A (WM κ a uv) sz)) 0 0 (va_A (WM κ a uv) sz) := by
  refine x_ofW (cc := cX5_even) (maxL := 5) (ret := (some .int)) (Qf := fun A => xQi D κ r' (WM κ a uv') A) (by decide) rfl (Nat.le_of_ble_eq_true rfl) ?_
  intro p e s m below meth c hx hb hr hlk hml hown hts hK A hA H locs hG ls hl
  have hown : s.vm.findClass RX5 = some m.cls := hown
  have hl : lv_has ls 5 [(0, .ref (a 0))] := hl
  have iX5 : ∀ w ∈ u_ws RX5 TX5 27, w ∈ wsX5_even := fun _ h => List.mem_cons_of_mem _ (List.mem_append_right _ h)
  have k63 := hts (.fieldLink RX5 63 "SpineDesksModel" "thrown" "I") (List.mem_of_getElem? (i := 1) rfl)
  have L66 : ∀ (rec7 : Int32 → MS → Option (Int32 × MS)) (hr7 : ∀ (y1 : Int32) (uv : MS), rec7 y1 uv = some (r', uv') → ∀ (H : Heap) (locs : List Loc) (ls : Array Slot), xG D A s.heap (WM κ a uv) H locs → lv_has ls 5 [(0, .ref (a 0)), (1, .int y1)] → W p l e ({ frames := 7, cells := 0, slots := 0, locals := 158 } : Room) s m (([.ref (a 0)] : List Value).toArray) below meth c H locs 0 0 (MQ below (xQi D κ r' (WM κ a uv') A) (([.ref (a 0)] : List Value).toArray) s 0 0 A) (F0 m 7 ls [])) (rec14 : Int32 → Int32 → Int32 → Int32 → MS → Option (Int32 × MS)) (hr14 : ∀ (y1 : Int32) (y2 : Int32) (y3 : Int32) (y4 : Int32) (uv : MS), rec14 y1 y2 y3 y4 uv = some (r', uv') → ∀ (H : Heap) (locs : List Loc) (ls : Array Slot), xG D A s.heap (WM κ a uv) H locs → lv_has ls 5 [(0, .ref (a 0)), (1, .int y1), (2, .int y2), (3, .int y3), (4, .int y4)] → W p l e ({ frames := 7, cells := 0, slots := 0, locals := 158 } : Room) s m (([.ref (a 0)] : List Value).toArray) below meth c H locs 0 0 (MQ below (xQi D κ r' (WM κ a uv') A) (([.ref (a 0)] : List Value).toArray) s 0 0 A) (F0 m 14 ls [])), ∀ (x1 : Int32) (x2 : Int32) (x4 : Int32) (s0 : Int32) (uv : MS), f_X5_even_66 rec7 rec14 x1 x2 x4 s0 uv = some (r', uv') → ∀ (H : Heap) (locs : List Loc) (ls : Array Slot), xG D A s.heap (WM κ a uv) H locs → lv_has ls 5 [(0, .ref (a 0)), (1, .int x1), (2, .int x2), (4, .int x4)] → W p l e ({ frames := 7, cells := 0, slots := 0, locals := 158 } : Room) s m (([.ref (a 0)] : List Value).toArray) below meth c H locs 0 0 (MQ below (xQi D κ r' (WM κ a uv') A) (([.ref (a 0)] : List Value).toArray) s 0 0 A) (F0 m 66 ls [.int s0]) := by
    intro rec7 hr7 rec14 hr14 x1 x2 x4 s0 uv hf H locs ls hG hl
    unfold f_X5_even_66 at hf
    refine lv_istore_n (lv' := [(3, .int s0), (0, .ref (a 0)), (1, .int x1), (2, .int x2), (4, .int x4)]) hx hb dX5_even_66 rfl hl (by decide) rfl (fun ls hl => ?_)
    obtain ⟨y1, ey1, hf⟩ := bnd_e hf
    refine lv_iinc (v := y1) (lv' := [(4, .int y1), (3, .int s0), (0, .ref (a 0)), (1, .int x1), (2, .int x2)]) hx hb dX5_even_67 hl (k := 4) rfl (by rw [ey1]; rfl) (by decide) rfl (fun ls hl => ?_)
    refine lv_goto (tgt := 14) hx hb dX5_even_70 (by decide) ?_
    exact hr14 x1 x2 s0 y1 uv hf H locs ls hG (lv_sub hl [2, 3, 4, 1, 0] rfl)
  have L43 : ∀ (rec7 : Int32 → MS → Option (Int32 × MS)) (hr7 : ∀ (y1 : Int32) (uv : MS), rec7 y1 uv = some (r', uv') → ∀ (H : Heap) (locs : List Loc) (ls : Array Slot), xG D A s.heap (WM κ a uv) H locs → lv_has ls 5 [(0, .ref (a 0)), (1, .int y1)] → W p l e ({ frames := 7, cells := 0, slots := 0, locals := 158 } : Room) s m (([.ref (a 0)] : List Value).toArray) below meth c H locs 0 0 (MQ below (xQi D κ r' (WM κ a uv') A) (([.ref (a 0)] : List Value).toArray) s 0 0 A) (F0 m 7 ls [])) (rec14 : Int32 → Int32 → Int32 → Int32 → MS → Option (Int32 × MS)) (hr14 : ∀ (y1 : Int32) (y2 : Int32) (y3 : Int32) (y4 : Int32) (uv : MS), rec14 y1 y2 y3 y4 uv = some (r', uv') → ∀ (H : Heap) (locs : List Loc) (ls : Array Slot), xG D A s.heap (WM κ a uv) H locs → lv_has ls 5 [(0, .ref (a 0)), (1, .int y1), (2, .int y2), (3, .int y3), (4, .int y4)] → W p l e ({ frames := 7, cells := 0, slots := 0, locals := 158 } : Room) s m (([.ref (a 0)] : List Value).toArray) below meth c H locs 0 0 (MQ below (xQi D κ r' (WM κ a uv') A) (([.ref (a 0)] : List Value).toArray) s 0 0 A) (F0 m 14 ls [])), ∀ (x1 : Int32) (x3 : Int32) (x4 : Int32) (s0 : Int32) (uv : MS), f_X5_even_43 rec7 rec14 x1 x3 x4 s0 uv = some (r', uv') → ∀ (H : Heap) (locs : List Loc) (ls : Array Slot), xG D A s.heap (WM κ a uv) H locs → lv_has ls 5 [(0, .ref (a 0)), (1, .int x1), (3, .int x3), (4, .int x4)] → W p l e ({ frames := 7, cells := 0, slots := 0, locals := 158 } : Room) s m (([.ref (a 0)] : List Value).toArray) below meth c H locs 0 0 (MQ below (xQi D κ r' (WM κ a uv') A) (([.ref (a 0)] : List Value).toArray) s 0 0 A) (F0 m 43 ls [.int s0]) := by
    intro rec7 hr7 rec14 hr14 x1 x3 x4 s0 uv hf H locs ls hG hl
    unfold f_X5_even_43 at hf
    refine lv_istore_n (lv' := [(2, .int s0), (0, .ref (a 0)), (1, .int x1), (3, .int x3), (4, .int x4)]) hx hb dX5_even_43 rfl hl (by decide) rfl (fun ls hl => ?_)
    refine lv_aload_n hx hb dX5_even_44 rfl (lv_at hl 1 rfl) ?_
    refine lv_iload hx hb dX5_even_45 (lv_at hl 4 rfl) ?_
    refine lv_iconst (v := 0) hx hb dX5_even_47 (by decide) ?_
    obtain ⟨r2, q3, hf⟩ := cl1_e hf
    refine x_callVi (pre := ([] : va_W)) (wc := WM κ a uv) (wc1 := WM κ a uv) (post := ([] : va_W)) (As := [.int x4, .int 0]) (rest := []) (w1 := WM κ a uv) ⟨hx, hb, hml, hown, hts⟩ hK hG hA (by simp only [List.append_assoc, List.nil_append, List.append_nil]) (by simp only [List.append_assoc, List.nil_append, List.append_nil]) (c_X5_many l D κ a H.size x4 0 uv r2 q3) (cwV 2 hts gX5_even_X5_many rfl rfl rfl (by decide +kernel) ⟨Nat.le_of_ble_eq_true rfl, Nat.le_of_ble_eq_true rfl⟩) 0 5 rfl rfl rfl rfl hl.1 rfl (Nat.le_of_ble_eq_true rfl) dX5_even_48 ⟨Nat.zero_le _, Nat.zero_le _⟩ (fun H locs hG => ?_)
    refine lv_aload_n hx hb dX5_even_51 rfl (lv_at hl 1 rfl) ?_
    refine lv_iload_n hx hb dX5_even_52 rfl (lv_at hl 3 rfl) ?_
    refine lv_iconst (v := 0) hx hb dX5_even_53 (by decide) ?_
    obtain ⟨r4, q5, hf⟩ := cl1_e hf
    refine x_callVi (pre := ([] : va_W)) (wc := WM κ a uv) (wc1 := WM κ a uv) (post := ([] : va_W)) (As := [.int x3, .int 0]) (rest := [.int r2]) (w1 := WM κ a uv) ⟨hx, hb, hml, hown, hts⟩ hK hG hA (by simp only [List.append_assoc, List.nil_append, List.append_nil]) (by simp only [List.append_assoc, List.nil_append, List.append_nil]) (c_X5_many l D κ a H.size x3 0 uv r4 q5) (cwV 2 hts gX5_even_X5_many rfl rfl rfl (by decide +kernel) ⟨Nat.le_of_ble_eq_true rfl, Nat.le_of_ble_eq_true rfl⟩) 0 5 rfl rfl rfl rfl hl.1 rfl (Nat.le_of_ble_eq_true rfl) dX5_even_54 ⟨Nat.zero_le _, Nat.zero_le _⟩ (fun H locs hG => ?_)
    refine lv_icmp_ge (tgt := 65) hx hb dX5_even_57 (by decide) (fun c6 => ?_) (fun c6 => ?_)
    · replace hf := if_t c6 hf
      refine lv_iload_n hx hb dX5_even_65 rfl (lv_at hl 3 rfl) ?_
      exact L66 rec7 hr7 rec14 hr14  x1 s0 x4 x3 uv hf H locs ls hG (lv_sub hl [1, 2, 0, 4] rfl)
    · replace hf := if_f c6 hf
      refine lv_iload hx hb dX5_even_60 (lv_at hl 4 rfl) ?_
      refine lv_goto (tgt := 66) hx hb dX5_even_62 (by decide) ?_
      exact L66 rec7 hr7 rec14 hr14  x1 s0 x4 x4 uv hf H locs ls hG (lv_sub hl [1, 2, 0, 4] rfl)
  have L14 : ∀ (rec7 : Int32 → MS → Option (Int32 × MS)) (hr7 : ∀ (y1 : Int32) (uv : MS), rec7 y1 uv = some (r', uv') → ∀ (H : Heap) (locs : List Loc) (ls : Array Slot), xG D A s.heap (WM κ a uv) H locs → lv_has ls 5 [(0, .ref (a 0)), (1, .int y1)] → W p l e ({ frames := 7, cells := 0, slots := 0, locals := 158 } : Room) s m (([.ref (a 0)] : List Value).toArray) below meth c H locs 0 0 (MQ below (xQi D κ r' (WM κ a uv') A) (([.ref (a 0)] : List Value).toArray) s 0 0 A) (F0 m 7 ls [])), ∀ (n : Nat), ∀ (x1 : Int32) (x2 : Int32) (x3 : Int32) (x4 : Int32) (uv : MS), f_X5_even_14 rec7 n x1 x2 x3 x4 uv = some (r', uv') → ∀ (H : Heap) (locs : List Loc) (ls : Array Slot), xG D A s.heap (WM κ a uv) H locs → lv_has ls 5 [(0, .ref (a 0)), (1, .int x1), (2, .int x2), (3, .int x3), (4, .int x4)] → W p l e ({ frames := 7, cells := 0, slots := 0, locals := 158 } : Room) s m (([.ref (a 0)] : List Value).toArray) below meth c H locs 0 0 (MQ below (xQi D κ r' (WM κ a uv') A) (([.ref (a 0)] : List Value).toArray) s 0 0 A) (F0 m 14 ls []) := by
    intro rec7 hr7 n
    induction n with
    | zero => intro x1 x2 x3 x4 uv hf; cases hf
    | succ n ih =>
      intro x1 x2 x3 x4 uv hf H locs ls hG hl
      replace hf : f_X5_even_B14 rec7 (f_X5_even_14 rec7 n) x1 x2 x3 x4 uv = some (r', uv') := hf
      unfold f_X5_even_B14 at hf
      refine lv_iload hx hb dX5_even_14 (lv_at hl 4 rfl) ?_
      refine lv_bipush (v := 6) hx hb dX5_even_16 (by decide) ?_
      refine lv_icmp_ge (tgt := 73) hx hb dX5_even_18 (by decide) (fun c7 => ?_) (fun c7 => ?_)
      · replace hf := if_t c7 hf
        refine lv_aload_n hx hb dX5_even_73 rfl (lv_at hl 0 rfl) ?_
        refine lv_iload_n hx hb dX5_even_74 rfl (lv_at hl 2 rfl) ?_
        refine lv_iconst (v := 0) hx hb dX5_even_75 (by decide) ?_
        obtain ⟨r8, q9, hf⟩ := cl1_e hf
        refine x_callVi (pre := ([] : va_W)) (wc := WM κ a uv) (wc1 := WM κ a uv) (post := ([] : va_W)) (As := [.int x2, .int 0]) (rest := []) (w1 := WM κ a uv) ⟨hx, hb, hml, hown, hts⟩ hK hG hA (by simp only [List.append_assoc, List.nil_append, List.append_nil]) (by simp only [List.append_assoc, List.nil_append, List.append_nil]) (c_X5_many l D κ a H.size x2 0 uv r8 q9) (cwV 2 hts gX5_even_X5_many rfl rfl rfl (by decide +kernel) ⟨Nat.le_of_ble_eq_true rfl, Nat.le_of_ble_eq_true rfl⟩) 0 5 rfl rfl rfl rfl hl.1 rfl (Nat.le_of_ble_eq_true rfl) dX5_even_76 ⟨Nat.zero_le _, Nat.zero_le _⟩ (fun H locs hG => ?_)
        refine lv_aload_n hx hb dX5_even_79 rfl (lv_at hl 0 rfl) ?_
        refine lv_iload_n hx hb dX5_even_80 rfl (lv_at hl 3 rfl) ?_
        refine lv_iconst (v := 0) hx hb dX5_even_81 (by decide) ?_
        obtain ⟨r10, q11, hf⟩ := cl1_e hf
        refine x_callVi (pre := ([] : va_W)) (wc := WM κ a uv) (wc1 := WM κ a uv) (post := ([] : va_W)) (As := [.int x3, .int 0]) (rest := [.int r8]) (w1 := WM κ a uv) ⟨hx, hb, hml, hown, hts⟩ hK hG hA (by simp only [List.append_assoc, List.nil_append, List.append_nil]) (by simp only [List.append_assoc, List.nil_append, List.append_nil]) (c_X5_many l D κ a H.size x3 0 uv r10 q11) (cwV 2 hts gX5_even_X5_many rfl rfl rfl (by decide +kernel) ⟨Nat.le_of_ble_eq_true rfl, Nat.le_of_ble_eq_true rfl⟩) 0 5 rfl rfl rfl rfl hl.1 rfl (Nat.le_of_ble_eq_true rfl) dX5_even_82 ⟨Nat.zero_le _, Nat.zero_le _⟩ (fun H locs hG => ?_)
        refine lv_isub hx hb dX5_even_85 ?_
        refine lv_iconst (v := 2) hx hb dX5_even_86 (by decide) ?_
        refine lv_icmp_ge (tgt := 92) hx hb dX5_even_87 (by decide) (fun c12 => ?_) (fun c12 => ?_)
        · replace hf := if_t c12 hf
          refine lv_aload_n hx hb dX5_even_92 rfl (lv_at hl 0 rfl) ?_
          refine lv_iload_n hx hb dX5_even_93 rfl (lv_at hl 2 rfl) ?_
          refine lv_iload_n hx hb dX5_even_94 rfl (lv_at hl 3 rfl) ?_
          obtain ⟨r13, uv14, q15, hf⟩ := cl2_e hf
          refine x_callVi (pre := ([] : va_W)) (wc := WM κ a uv) (wc1 := WM κ a uv14) (post := ([] : va_W)) (As := [.int x2, .int x3]) (rest := []) (w1 := WM κ a uv14) ⟨hx, hb, hml, hown, hts⟩ hK hG hA (by simp only [List.append_assoc, List.nil_append, List.append_nil]) (by simp only [List.append_assoc, List.nil_append, List.append_nil]) (c_X5_partOne l D κ a H.size x2 x3 uv r13 uv14 q15) (cwV 2 hts gX5_even_X5_partOne rfl rfl rfl (by decide +kernel) ⟨Nat.le_of_ble_eq_true rfl, Nat.le_of_ble_eq_true rfl⟩) 0 5 rfl rfl rfl rfl hl.1 rfl (Nat.le_of_ble_eq_true rfl) dX5_even_95 ⟨Nat.zero_le _, Nat.zero_le _⟩ (fun H locs hG => ?_)
          refine lv_pop hx hb dX5_even_98 rfl ?_
          obtain ⟨y16, ey16, hf⟩ := bnd_e hf
          refine lv_iinc (v := y16) (lv' := [(1, .int y16), (0, .ref (a 0)), (2, .int x2), (3, .int x3), (4, .int x4)]) hx hb dX5_even_99 hl (k := 1) rfl (by rw [ey16]; rfl) (by decide) rfl (fun ls hl => ?_)
          refine lv_goto (tgt := 7) hx hb dX5_even_102 (by decide) ?_
          exact hr7 y16 uv14 hf H locs ls hG (lv_sub hl [1, 0] rfl)
        · replace hf := if_f c12 hf
          refine lv_iload_n hx hb dX5_even_90 rfl (lv_at hl 1 rfl) ?_
          have hz := Option.some.inj hf
          have z0 := (Prod.mk.inj hz).1
          replace hz := (Prod.mk.inj hz).2
          have z1 := hz
          exact x_iret hx hb hr hlk hK hG z0 (by rw [z1]) dX5_even_91
      · replace hf := if_f c7 hf
        refine lv_aload_n hx hb dX5_even_21 rfl (lv_at hl 0 rfl) ?_
        refine lv_iload hx hb dX5_even_22 (lv_at hl 4 rfl) ?_
        refine lv_iconst (v := 0) hx hb dX5_even_24 (by decide) ?_
        obtain ⟨r17, q18, hf⟩ := cl1_e hf
        refine x_callVi (pre := ([] : va_W)) (wc := WM κ a uv) (wc1 := WM κ a uv) (post := ([] : va_W)) (As := [.int x4, .int 0]) (rest := []) (w1 := WM κ a uv) ⟨hx, hb, hml, hown, hts⟩ hK hG hA (by simp only [List.append_assoc, List.nil_append, List.append_nil]) (by simp only [List.append_assoc, List.nil_append, List.append_nil]) (c_X5_many l D κ a H.size x4 0 uv r17 q18) (cwV 2 hts gX5_even_X5_many rfl rfl rfl (by decide +kernel) ⟨Nat.le_of_ble_eq_true rfl, Nat.le_of_ble_eq_true rfl⟩) 0 5 rfl rfl rfl rfl hl.1 rfl (Nat.le_of_ble_eq_true rfl) dX5_even_25 ⟨Nat.zero_le _, Nat.zero_le _⟩ (fun H locs hG => ?_)
        refine lv_aload_n hx hb dX5_even_28 rfl (lv_at hl 0 rfl) ?_
        refine lv_iload_n hx hb dX5_even_29 rfl (lv_at hl 2 rfl) ?_
        refine lv_iconst (v := 0) hx hb dX5_even_30 (by decide) ?_
        obtain ⟨r19, q20, hf⟩ := cl1_e hf
        refine x_callVi (pre := ([] : va_W)) (wc := WM κ a uv) (wc1 := WM κ a uv) (post := ([] : va_W)) (As := [.int x2, .int 0]) (rest := [.int r17]) (w1 := WM κ a uv) ⟨hx, hb, hml, hown, hts⟩ hK hG hA (by simp only [List.append_assoc, List.nil_append, List.append_nil]) (by simp only [List.append_assoc, List.nil_append, List.append_nil]) (c_X5_many l D κ a H.size x2 0 uv r19 q20) (cwV 2 hts gX5_even_X5_many rfl rfl rfl (by decide +kernel) ⟨Nat.le_of_ble_eq_true rfl, Nat.le_of_ble_eq_true rfl⟩) 0 5 rfl rfl rfl rfl hl.1 rfl (Nat.le_of_ble_eq_true rfl) dX5_even_31 ⟨Nat.zero_le _, Nat.zero_le _⟩ (fun H locs hG => ?_)
        refine lv_icmp_le (tgt := 42) hx hb dX5_even_34 (by decide) (fun c21 => ?_) (fun c21 => ?_)
        · replace hf := if_t c21 hf
          refine lv_iload_n hx hb dX5_even_42 rfl (lv_at hl 2 rfl) ?_
          exact L43 rec7 hr7 (f_X5_even_14 rec7 n) ih  x1 x3 x4 x2 uv hf H locs ls hG (lv_sub hl [0, 1, 3, 4] rfl)
        · replace hf := if_f c21 hf
          refine lv_iload hx hb dX5_even_37 (lv_at hl 4 rfl) ?_
          refine lv_goto (tgt := 43) hx hb dX5_even_39 (by decide) ?_
          exact L43 rec7 hr7 (f_X5_even_14 rec7 n) ih  x1 x3 x4 x4 uv hf H locs ls hG (lv_sub hl [0, 1, 3, 4] rfl)
  have L7 : ∀ (n : Nat), ∀ (x1 : Int32) (uv : MS), f_X5_even_7 n x1 uv = some (r', uv') → ∀ (H : Heap) (locs : List Loc) (ls : Array Slot), xG D A s.heap (WM κ a uv) H locs → lv_has ls 5 [(0, .ref (a 0)), (1, .int x1)] → W p l e ({ frames := 7, cells := 0, slots := 0, locals := 158 } : Room) s m (([.ref (a 0)] : List Value).toArray) below meth c H locs 0 0 (MQ below (xQi D κ r' (WM κ a uv') A) (([.ref (a 0)] : List Value).toArray) s 0 0 A) (F0 m 7 ls []) := by
    intro  n
    induction n with
    | zero => intro x1 uv hf; cases hf
    | succ n ih =>
      intro x1 uv hf H locs ls hG hl
      replace hf : f_X5_even_B7 (f_X5_even_7 n) x1 uv = some (r', uv') := hf
      unfold f_X5_even_B7 at hf
      refine lv_iconst (v := 0) hx hb dX5_even_7 (by decide) ?_
      refine lv_istore_n (lv' := [(2, .int 0), (0, .ref (a 0)), (1, .int x1)]) hx hb dX5_even_8 rfl hl (by decide) rfl (fun ls hl => ?_)
      refine lv_iconst (v := 0) hx hb dX5_even_9 (by decide) ?_
      refine lv_istore_n (lv' := [(3, .int 0), (2, .int 0), (0, .ref (a 0)), (1, .int x1)]) hx hb dX5_even_10 rfl hl (by decide) rfl (fun ls hl => ?_)
      refine lv_iconst (v := 1) hx hb dX5_even_11 (by decide) ?_
      refine lv_istore (lv' := [(4, .int 1), (3, .int 0), (2, .int 0), (0, .ref (a 0)), (1, .int x1)]) hx hb dX5_even_12 hl (by decide) rfl (fun ls hl => ?_)
      exact L14 (f_X5_even_7 n) ih FU x1 0 0 1 uv hf H locs ls hG (lv_sub hl [3, 4, 2, 1, 0] rfl)
  unfold f_X5_even at hf
  refine lv_aload_n hx hb dX5_even_0 rfl (lv_at hl 0 rfl) ?_
  refine lv_iconst (v := 0) hx hb dX5_even_1 (by decide) ?_
  obtain ⟨uv22, euv22, hf⟩ := bnd_e hf
  refine x_put (C := RX5) (T := TX5) (N := 27) (ci := 5) hx hb hts iX5 tyX5 tyX5_ok nmX5 hown hK hG 0 rfl rfl 0 (by decide) k63 rfl (ty := .int) (v := .int 0) rfl rfl rfl (Nat.le_of_ble_eq_true rfl) (w1 := WM κ a uv22) (by rw [euv22]; rfl) dX5_even_2 (fun H locs hG => ?_)
  refine lv_iconst (v := 0) hx hb dX5_even_5 (by decide) ?_
  refine lv_istore_n (lv' := [(1, .int 0), (0, .ref (a 0))]) hx hb dX5_even_6 rfl hl (by decide) rfl (fun ls hl => ?_)
  exact L7  FU 0 uv22 hf H locs ls hG (lv_sub hl [1, 0] rfl)
set_option maxRecDepth 100000 in
set_option maxHeartbeats 4000000 in
theorem c_X5_isArc (l : Launch) (D : va_G) (κ : Nat → ClassId) (a : Nat → Nat) (sz : Nat) (p1 : Int32) (uv : MS) (r' : Int32)  (hf : f_X5_isArc p1 uv = some (r')) : Met l yX5_isArc wsX5_isArc ({ frames := 1, cells := 0, slots := 0, locals := 25 } : Room) (xPc D κ [.ref (a 0), .int p1] (WM κ a uv) sz) (xQi D κ r' (WM κ a uv) (va_A (WM κ a uv) sz)) 0 0 (va_A (WM κ a uv) sz) := by
  refine x_ofW (cc := cX5_isArc) (maxL := 2) (ret := (some .boolean)) (Qf := fun A => xQi D κ r' (WM κ a uv) A) (by decide) rfl (Nat.le_of_ble_eq_true rfl) ?_
  intro p e s m below meth c hx hb hr hlk hml hown hts hK A hA H locs hG ls hl
  have hown : s.vm.findClass RX5 = some m.cls := hown
  have hl : lv_has ls 2 [(0, .ref (a 0)), (1, .int p1)] := hl
  have iX5 : ∀ w ∈ u_ws RX5 TX5 27, w ∈ wsX5_isArc := fun _ h => List.mem_cons_of_mem _ (List.mem_append_right _ h)
  have k13 := hts (.fieldLink RX5 13 "SpineDesksModel" "row" "[I") (List.mem_of_getElem? (i := 2) rfl)
  have k190 := hts (.constantLong RX5 190 (19)) (List.mem_of_getElem? (i := 1) rfl)
  unfold f_X5_isArc at hf
  refine lv_iload_n hx hb dX5_isArc_0 rfl (lv_at hl 1 rfl) ?_
  refine lv_i2l hx hb dX5_isArc_1 rfl ?_
  refine lv_lconst (v := 0) hx hb dX5_isArc_2 (by decide) ?_
  refine lv_ldc2 (v := 19) hx hb hown k190 dX5_isArc_3 ?_
  obtain ⟨r1, q2, hf⟩ := cl1_e hf
  refine x_callSi (pre := ([] : va_W)) (wc := ([] : va_W)) (wc1 := ([] : va_W)) (post := WM κ a uv) (As := [.long (p1.toInt64), .long 0, .long 19]) (rest := []) (w1 := WM κ a uv) ⟨hx, hb, hml, hown, hts⟩ hK hG hA (by simp only [List.append_assoc, List.nil_append, List.append_nil]) (by simp only [List.append_assoc, List.nil_append, List.append_nil]) (c_X5_in l D κ a H.size (p1.toInt64) 0 19 r1 q2) (va_cwS 3 hts gX5_isArc_X5_in rfl rfl rfl (by decide +kernel) ⟨Nat.le_of_ble_eq_true rfl, Nat.le_of_ble_eq_true rfl⟩) rfl hl.1 rfl (Nat.le_of_ble_eq_true rfl) dX5_isArc_6 ⟨Nat.zero_le _, Nat.zero_le _⟩ (fun H locs hG => ?_)
  refine lv_if_eq (tgt := 31) hx hb dX5_isArc_9 (by decide) (fun c3 => ?_) (fun c3 => ?_)
  · replace hf := if_t c3 hf
    refine lv_iconst (v := 0) hx hb dX5_isArc_31 (by decide) ?_
    have z0 := Option.some.inj hf
    exact x_zret hx hb hr hlk hK hG (by decide) z0 rfl dX5_isArc_32
  · replace hf := if_f c3 hf
    refine lv_aload_n hx hb dX5_isArc_12 rfl (lv_at hl 0 rfl) ?_
    refine x_get (C := RX5) (T := TX5) (N := 27) (ci := 5) hx hb hts iX5 hown hK hG 0 rfl rfl 2 (by decide) k13 (v := .ref (a 2)) rfl dX5_isArc_13 ?_
    refine lv_bipush (v := 10) hx hb dX5_isArc_16 (by decide) ?_
    refine lv_iconst (v := 3) hx hb dX5_isArc_18 (by decide) ?_
    refine lv_iload_n hx hb dX5_isArc_19 rfl (lv_at hl 1 rfl) ?_
    refine lv_imul hx hb dX5_isArc_20 ?_
    refine lv_iadd hx hb dX5_isArc_21 ?_
    obtain ⟨v4, ev4, hin, hf⟩ := ck_e hf
    refine x_iald hx hb hK hG 2 rfl ev4 hin dX5_isArc_22 ?_
    refine lv_iconst (v := (-1)) hx hb dX5_isArc_23 (by decide) ?_
    refine lv_icmp_eq (tgt := 31) hx hb dX5_isArc_24 (by decide) (fun c5 => ?_) (fun c5 => ?_)
    · replace hf := if_t c5 hf
      refine lv_iconst (v := 0) hx hb dX5_isArc_31 (by decide) ?_
      have z0 := Option.some.inj hf
      exact x_zret hx hb hr hlk hK hG (by decide) z0 rfl dX5_isArc_32
    · replace hf := if_f c5 hf
      refine lv_iconst (v := 1) hx hb dX5_isArc_27 (by decide) ?_
      refine lv_goto (tgt := 32) hx hb dX5_isArc_28 (by decide) ?_
      have z0 := Option.some.inj hf
      exact x_zret hx hb hr hlk hK hG (by decide) z0 rfl dX5_isArc_32
set_option maxRecDepth 100000 in
set_option maxHeartbeats 4000000 in
theorem c_X5_isPlace (l : Launch) (D : va_G) (κ : Nat → ClassId) (a : Nat → Nat) (sz : Nat) (p0 : Int32)  (r' : Int32)  (hf : f_X5_isPlace p0 = some (r')) : Met l yX5_isPlace wsX5_isPlace ({ frames := 1, cells := 0, slots := 0, locals := 25 } : Room) (xPc D κ [.int p0] (([] : va_W)) sz) (xQi D κ r' (([] : va_W)) (va_A (([] : va_W)) sz)) 0 0 (va_A (([] : va_W)) sz) := by
  refine x_ofW (cc := cX5_isPlace) (maxL := 1) (ret := (some .boolean)) (Qf := fun A => xQi D κ r' (([] : va_W)) A) (by decide) rfl (Nat.le_of_ble_eq_true rfl) ?_
  intro p e s m below meth c hx hb hr hlk hml hown hts hK A hA H locs hG ls hl
  have hown : s.vm.findClass RX5 = some m.cls := hown
  have hl : lv_has ls 1 [(0, .int p0)] := hl
  have k192 := hts (.constantLong RX5 192 (7)) (List.mem_of_getElem? (i := 1) rfl)
  unfold f_X5_isPlace at hf
  refine lv_iload_n hx hb dX5_isPlace_0 rfl (lv_at hl 0 rfl) ?_
  refine lv_i2l hx hb dX5_isPlace_1 rfl ?_
  refine lv_lconst (v := 0) hx hb dX5_isPlace_2 (by decide) ?_
  refine lv_ldc2 (v := 7) hx hb hown k192 dX5_isPlace_3 ?_
  obtain ⟨r1, q2, hf⟩ := cl1_e hf
  refine x_callSi (pre := ([] : va_W)) (wc := ([] : va_W)) (wc1 := ([] : va_W)) (post := ([] : va_W)) (As := [.long (p0.toInt64), .long 0, .long 7]) (rest := []) (w1 := ([] : va_W)) ⟨hx, hb, hml, hown, hts⟩ hK hG hA (by simp only [List.append_assoc, List.nil_append, List.append_nil]) (by simp only [List.append_assoc, List.nil_append, List.append_nil]) (c_X5_in l D κ a H.size (p0.toInt64) 0 7 r1 q2) (va_cwS 3 hts gX5_isPlace_X5_in rfl rfl rfl (by decide +kernel) ⟨Nat.le_of_ble_eq_true rfl, Nat.le_of_ble_eq_true rfl⟩) rfl hl.1 rfl (Nat.le_of_ble_eq_true rfl) dX5_isPlace_6 ⟨Nat.zero_le _, Nat.zero_le _⟩ (fun H locs hG => ?_)
  obtain ⟨hbo, hf⟩ := ckb_e hf
  have z0 := Option.some.inj hf
  exact x_zret hx hb hr hlk hK hG (x_nb hbo) z0 rfl dX5_isPlace_9
set_option maxRecDepth 100000 in
set_option maxHeartbeats 4000000 in
theorem c_X5_arc (l : Launch) (D : va_G) (κ : Nat → ClassId) (a : Nat → Nat) (sz : Nat) (p1 : Int32) (p2 : Int32) (p3 : Int32) (uv : MS) (r' : Int32) (uv' : MS) (hf : f_X5_arc p1 p2 p3 uv = some (r', uv')) : Met l yX5_arc wsX5_arc ({ frames := 2, cells := 0, slots := 0, locals := 46 } : Room) (xPc D κ [.ref (a 0), .int p1, .int p2, .int p3] (WM κ a uv) sz) (xQi D κ r' (WM κ a uv') (va_A (WM κ a uv) sz)) 0 0 (va_A (WM κ a uv) sz) := by
  refine x_ofW (cc := cX5_arc) (maxL := 5) (ret := (some .int)) (Qf := fun A => xQi D κ r' (WM κ a uv') A) (by decide) rfl (Nat.le_of_ble_eq_true rfl) ?_
  intro p e s m below meth c hx hb hr hlk hml hown hts hK A hA H locs hG ls hl
  have hown : s.vm.findClass RX5 = some m.cls := hown
  have hl : lv_has ls 5 [(0, .ref (a 0)), (1, .int p1), (2, .int p2), (3, .int p3)] := hl
  have iX5 : ∀ w ∈ u_ws RX5 TX5 27, w ∈ wsX5_arc := fun _ h => List.mem_cons_of_mem _ (List.mem_append_right _ h)
  have k13 := hts (.fieldLink RX5 13 "SpineDesksModel" "row" "[I") (List.mem_of_getElem? (i := 3) rfl)
  have k168 := hts (.constantLong RX5 168 (1000000)) (List.mem_of_getElem? (i := 2) rfl)
  have k63 := hts (.fieldLink RX5 63 "SpineDesksModel" "thrown" "I") (List.mem_of_getElem? (i := 1) rfl)
  have L45 : ∀ (n : Nat), ∀ (x1 : Int32) (x2 : Int32) (x3 : Int32) (x4 : Int32) (uv : MS), f_X5_arc_45 n x1 x2 x3 x4 uv = some (r', uv') → ∀ (H : Heap) (locs : List Loc) (ls : Array Slot), xG D A s.heap (WM κ a uv) H locs → lv_has ls 5 [(0, .ref (a 0)), (1, .int x1), (2, .int x2), (3, .int x3), (4, .int x4)] → W p l e ({ frames := 2, cells := 0, slots := 0, locals := 46 } : Room) s m (([.ref (a 0), .int p1, .int p2, .int p3] : List Value).toArray) below meth c H locs 0 0 (MQ below (xQi D κ r' (WM κ a uv') A) (([.ref (a 0), .int p1, .int p2, .int p3] : List Value).toArray) s 0 0 A) (F0 m 45 ls []) := by
    intro  n
    induction n with
    | zero => intro x1 x2 x3 x4 uv hf; cases hf
    | succ n ih =>
      intro x1 x2 x3 x4 uv hf H locs ls hG hl
      replace hf : f_X5_arc_B45 (f_X5_arc_45 n) x1 x2 x3 x4 uv = some (r', uv') := hf
      unfold f_X5_arc_B45 at hf
      refine lv_iload hx hb dX5_arc_45 (lv_at hl 4 rfl) ?_
      refine lv_bipush (v := 20) hx hb dX5_arc_47 (by decide) ?_
      refine lv_icmp_ge (tgt := 113) hx hb dX5_arc_49 (by decide) (fun c1 => ?_) (fun c1 => ?_)
      · replace hf := if_t c1 hf
        refine lv_aload_n hx hb dX5_arc_113 rfl (lv_at hl 0 rfl) ?_
        refine lv_bipush (v := (-5)) hx hb dX5_arc_114 (by decide) ?_
        obtain ⟨r2, uv3, q4, hf⟩ := cl2_e hf
        refine x_callVi (pre := ([] : va_W)) (wc := WM κ a uv) (wc1 := WM κ a uv3) (post := ([] : va_W)) (As := [.int ((-5))]) (rest := []) (w1 := WM κ a uv3) ⟨hx, hb, hml, hown, hts⟩ hK hG hA (by simp only [List.append_assoc, List.nil_append, List.append_nil]) (by simp only [List.append_assoc, List.nil_append, List.append_nil]) (c_X5_refuse l D κ a H.size ((-5)) uv r2 uv3 q4) (cwV 1 hts gX5_arc_X5_refuse rfl rfl rfl (by decide +kernel) ⟨Nat.le_of_ble_eq_true rfl, Nat.le_of_ble_eq_true rfl⟩) 0 5 rfl rfl rfl rfl hl.1 rfl (Nat.le_of_ble_eq_true rfl) dX5_arc_116 ⟨Nat.zero_le _, Nat.zero_le _⟩ (fun H locs hG => ?_)
        have hz := Option.some.inj hf
        have z0 := (Prod.mk.inj hz).1
        replace hz := (Prod.mk.inj hz).2
        have z1 := hz
        exact x_iret hx hb hr hlk hK hG z0 (by rw [z1]) dX5_arc_119
      · replace hf := if_f c1 hf
        refine lv_aload_n hx hb dX5_arc_52 rfl (lv_at hl 0 rfl) ?_
        refine lv_iload hx hb dX5_arc_53 (lv_at hl 4 rfl) ?_
        obtain ⟨r5, q6, hf⟩ := cl1_e hf
        refine x_callVi (pre := ([] : va_W)) (wc := WM κ a uv) (wc1 := WM κ a uv) (post := ([] : va_W)) (As := [.int x4]) (rest := []) (w1 := WM κ a uv) ⟨hx, hb, hml, hown, hts⟩ hK hG hA (by simp only [List.append_assoc, List.nil_append, List.append_nil]) (by simp only [List.append_assoc, List.nil_append, List.append_nil]) (c_X5_isArc l D κ a H.size x4 uv r5 q6) (cwV 1 hts gX5_arc_X5_isArc rfl rfl rfl (by decide +kernel) ⟨Nat.le_of_ble_eq_true rfl, Nat.le_of_ble_eq_true rfl⟩) 0 5 rfl rfl rfl rfl hl.1 rfl (Nat.le_of_ble_eq_true rfl) dX5_arc_55 ⟨Nat.zero_le _, Nat.zero_le _⟩ (fun H locs hG => ?_)
        refine lv_if_ne (tgt := 107) hx hb dX5_arc_58 (by decide) (fun c7 => ?_) (fun c7 => ?_)
        · replace hf := if_f c7 hf
          obtain ⟨y8, ey8, hf⟩ := bnd_e hf
          refine lv_iinc (v := y8) (lv' := [(4, .int y8), (0, .ref (a 0)), (1, .int x1), (2, .int x2), (3, .int x3)]) hx hb dX5_arc_107 hl (k := 4) rfl (by rw [ey8]; rfl) (by decide) rfl (fun ls hl => ?_)
          refine lv_goto (tgt := 45) hx hb dX5_arc_110 (by decide) ?_
          exact ih x1 x2 x3 y8 uv hf H locs ls hG (lv_sub hl [1, 2, 3, 4, 0] rfl)
        · replace hf := if_t c7 hf
          refine lv_aload_n hx hb dX5_arc_61 rfl (lv_at hl 0 rfl) ?_
          refine x_get (C := RX5) (T := TX5) (N := 27) (ci := 5) hx hb hts iX5 hown hK hG 0 rfl rfl 2 (by decide) k13 (v := .ref (a 2)) rfl dX5_arc_62 ?_
          refine lv_bipush (v := 10) hx hb dX5_arc_65 (by decide) ?_
          refine lv_iconst (v := 3) hx hb dX5_arc_67 (by decide) ?_
          refine lv_iload hx hb dX5_arc_68 (lv_at hl 4 rfl) ?_
          refine lv_imul hx hb dX5_arc_70 ?_
          refine lv_iadd hx hb dX5_arc_71 ?_
          refine lv_iload_n hx hb dX5_arc_72 rfl (lv_at hl 1 rfl) ?_
          obtain ⟨uv9, euv9, hin, hf⟩ := ck_e hf
          refine x_iast hx hb hK hG 2 rfl (w1 := WM κ a uv9) (by rw [euv9]; rfl) hin dX5_arc_73 (fun H locs hG => ?_)
          refine lv_aload_n hx hb dX5_arc_74 rfl (lv_at hl 0 rfl) ?_
          refine x_get (C := RX5) (T := TX5) (N := 27) (ci := 5) hx hb hts iX5 hown hK hG 0 rfl rfl 2 (by decide) k13 (v := .ref (a 2)) rfl dX5_arc_75 ?_
          refine lv_bipush (v := 10) hx hb dX5_arc_78 (by decide) ?_
          refine lv_iconst (v := 3) hx hb dX5_arc_80 (by decide) ?_
          refine lv_iload hx hb dX5_arc_81 (lv_at hl 4 rfl) ?_
          refine lv_imul hx hb dX5_arc_83 ?_
          refine lv_iadd hx hb dX5_arc_84 ?_
          refine lv_iconst (v := 1) hx hb dX5_arc_85 (by decide) ?_
          refine lv_iadd hx hb dX5_arc_86 ?_
          refine lv_iload_n hx hb dX5_arc_87 rfl (lv_at hl 2 rfl) ?_
          obtain ⟨uv10, euv10, hin, hf⟩ := ck_e hf
          refine x_iast hx hb hK hG 2 rfl (w1 := WM κ a uv10) (by rw [euv10]; rfl) hin dX5_arc_88 (fun H locs hG => ?_)
          refine lv_aload_n hx hb dX5_arc_89 rfl (lv_at hl 0 rfl) ?_
          refine x_get (C := RX5) (T := TX5) (N := 27) (ci := 5) hx hb hts iX5 hown hK hG 0 rfl rfl 2 (by decide) k13 (v := .ref (a 2)) rfl dX5_arc_90 ?_
          refine lv_bipush (v := 10) hx hb dX5_arc_93 (by decide) ?_
          refine lv_iconst (v := 3) hx hb dX5_arc_95 (by decide) ?_
          refine lv_iload hx hb dX5_arc_96 (lv_at hl 4 rfl) ?_
          refine lv_imul hx hb dX5_arc_98 ?_
          refine lv_iadd hx hb dX5_arc_99 ?_
          refine lv_iconst (v := 2) hx hb dX5_arc_100 (by decide) ?_
          refine lv_iadd hx hb dX5_arc_101 ?_
          refine lv_iload_n hx hb dX5_arc_102 rfl (lv_at hl 3 rfl) ?_
          obtain ⟨uv11, euv11, hin, hf⟩ := ck_e hf
          refine x_iast hx hb hK hG 2 rfl (w1 := WM κ a uv11) (by rw [euv11]; rfl) hin dX5_arc_103 (fun H locs hG => ?_)
          refine lv_iload hx hb dX5_arc_104 (lv_at hl 4 rfl) ?_
          have hz := Option.some.inj hf
          have z0 := (Prod.mk.inj hz).1
          replace hz := (Prod.mk.inj hz).2
          have z1 := hz
          exact x_iret hx hb hr hlk hK hG z0 (by rw [z1]) dX5_arc_106
  have L36 : ∀ (uv : MS), f_X5_arc_36 uv = some (r', uv') → ∀ (H : Heap) (locs : List Loc) (ls : Array Slot), xG D A s.heap (WM κ a uv) H locs → lv_has ls 5 [(0, .ref (a 0))] → W p l e ({ frames := 2, cells := 0, slots := 0, locals := 46 } : Room) s m (([.ref (a 0), .int p1, .int p2, .int p3] : List Value).toArray) below meth c H locs 0 0 (MQ below (xQi D κ r' (WM κ a uv') A) (([.ref (a 0), .int p1, .int p2, .int p3] : List Value).toArray) s 0 0 A) (F0 m 36 ls []) := by
    intro  uv hf H locs ls hG hl
    unfold f_X5_arc_36 at hf
    refine lv_aload_n hx hb dX5_arc_36 rfl (lv_at hl 0 rfl) ?_
    refine lv_iconst (v := (-1)) hx hb dX5_arc_37 (by decide) ?_
    obtain ⟨r12, uv13, q14, hf⟩ := cl2_e hf
    refine x_callVi (pre := ([] : va_W)) (wc := WM κ a uv) (wc1 := WM κ a uv13) (post := ([] : va_W)) (As := [.int ((-1))]) (rest := []) (w1 := WM κ a uv13) ⟨hx, hb, hml, hown, hts⟩ hK hG hA (by simp only [List.append_assoc, List.nil_append, List.append_nil]) (by simp only [List.append_assoc, List.nil_append, List.append_nil]) (c_X5_refuse l D κ a H.size ((-1)) uv r12 uv13 q14) (cwV 1 hts gX5_arc_X5_refuse rfl rfl rfl (by decide +kernel) ⟨Nat.le_of_ble_eq_true rfl, Nat.le_of_ble_eq_true rfl⟩) 0 5 rfl rfl rfl rfl hl.1 rfl (Nat.le_of_ble_eq_true rfl) dX5_arc_38 ⟨Nat.zero_le _, Nat.zero_le _⟩ (fun H locs hG => ?_)
    have hz := Option.some.inj hf
    have z0 := (Prod.mk.inj hz).1
    replace hz := (Prod.mk.inj hz).2
    have z1 := hz
    exact x_iret hx hb hr hlk hK hG z0 (by rw [z1]) dX5_arc_41
  unfold f_X5_arc at hf
  refine lv_aload_n hx hb dX5_arc_0 rfl (lv_at hl 0 rfl) ?_
  refine lv_iconst (v := 0) hx hb dX5_arc_1 (by decide) ?_
  obtain ⟨uv15, euv15, hf⟩ := bnd_e hf
  refine x_put (C := RX5) (T := TX5) (N := 27) (ci := 5) hx hb hts iX5 tyX5 tyX5_ok nmX5 hown hK hG 0 rfl rfl 0 (by decide) k63 rfl (ty := .int) (v := .int 0) rfl rfl rfl (Nat.le_of_ble_eq_true rfl) (w1 := WM κ a uv15) (by rw [euv15]; rfl) dX5_arc_2 (fun H locs hG => ?_)
  refine lv_iload_n hx hb dX5_arc_5 rfl (lv_at hl 1 rfl) ?_
  obtain ⟨r16, q17, hf⟩ := cl1_e hf
  refine x_callSi (pre := ([] : va_W)) (wc := ([] : va_W)) (wc1 := ([] : va_W)) (post := WM κ a uv15) (As := [.int p1]) (rest := []) (w1 := WM κ a uv15) ⟨hx, hb, hml, hown, hts⟩ hK hG hA (by simp only [List.append_assoc, List.nil_append, List.append_nil]) (by simp only [List.append_assoc, List.nil_append, List.append_nil]) (c_X5_isPlace l D κ a H.size p1 r16 q17) (va_cwS 1 hts gX5_arc_X5_isPlace rfl rfl rfl (by decide +kernel) ⟨Nat.le_of_ble_eq_true rfl, Nat.le_of_ble_eq_true rfl⟩) rfl hl.1 rfl (Nat.le_of_ble_eq_true rfl) dX5_arc_6 ⟨Nat.zero_le _, Nat.zero_le _⟩ (fun H locs hG => ?_)
  refine lv_if_eq (tgt := 36) hx hb dX5_arc_9 (by decide) (fun c18 => ?_) (fun c18 => ?_)
  · replace hf := if_t c18 hf
    exact L36   uv15 hf H locs ls hG (lv_sub hl [0] rfl)
  · replace hf := if_f c18 hf
    refine lv_iload_n hx hb dX5_arc_12 rfl (lv_at hl 2 rfl) ?_
    obtain ⟨r19, q20, hf⟩ := cl1_e hf
    refine x_callSi (pre := ([] : va_W)) (wc := ([] : va_W)) (wc1 := ([] : va_W)) (post := WM κ a uv15) (As := [.int p2]) (rest := []) (w1 := WM κ a uv15) ⟨hx, hb, hml, hown, hts⟩ hK hG hA (by simp only [List.append_assoc, List.nil_append, List.append_nil]) (by simp only [List.append_assoc, List.nil_append, List.append_nil]) (c_X5_isPlace l D κ a H.size p2 r19 q20) (va_cwS 1 hts gX5_arc_X5_isPlace rfl rfl rfl (by decide +kernel) ⟨Nat.le_of_ble_eq_true rfl, Nat.le_of_ble_eq_true rfl⟩) rfl hl.1 rfl (Nat.le_of_ble_eq_true rfl) dX5_arc_13 ⟨Nat.zero_le _, Nat.zero_le _⟩ (fun H locs hG => ?_)
    refine lv_if_eq (tgt := 36) hx hb dX5_arc_16 (by decide) (fun c21 => ?_) (fun c21 => ?_)
    · replace hf := if_t c21 hf
      exact L36   uv15 hf H locs ls hG (lv_sub hl [0] rfl)
    · replace hf := if_f c21 hf
      refine lv_iload_n hx hb dX5_arc_19 rfl (lv_at hl 1 rfl) ?_
      refine lv_iload_n hx hb dX5_arc_20 rfl (lv_at hl 2 rfl) ?_
      refine lv_icmp_eq (tgt := 36) hx hb dX5_arc_21 (by decide) (fun c22 => ?_) (fun c22 => ?_)
      · replace hf := if_t c22 hf
        exact L36   uv15 hf H locs ls hG (lv_sub hl [0] rfl)
      · replace hf := if_f c22 hf
        refine lv_iload_n hx hb dX5_arc_24 rfl (lv_at hl 3 rfl) ?_
        refine lv_i2l hx hb dX5_arc_25 rfl ?_
        refine lv_lconst (v := 0) hx hb dX5_arc_26 (by decide) ?_
        refine lv_ldc2 (v := 1000000) hx hb hown k168 dX5_arc_27 ?_
        obtain ⟨r23, q24, hf⟩ := cl1_e hf
        refine x_callSi (pre := ([] : va_W)) (wc := ([] : va_W)) (wc1 := ([] : va_W)) (post := WM κ a uv15) (As := [.long (p3.toInt64), .long 0, .long 1000000]) (rest := []) (w1 := WM κ a uv15) ⟨hx, hb, hml, hown, hts⟩ hK hG hA (by simp only [List.append_assoc, List.nil_append, List.append_nil]) (by simp only [List.append_assoc, List.nil_append, List.append_nil]) (c_X5_in l D κ a H.size (p3.toInt64) 0 1000000 r23 q24) (va_cwS 3 hts gX5_arc_X5_in rfl rfl rfl (by decide +kernel) ⟨Nat.le_of_ble_eq_true rfl, Nat.le_of_ble_eq_true rfl⟩) rfl hl.1 rfl (Nat.le_of_ble_eq_true rfl) dX5_arc_30 ⟨Nat.zero_le _, Nat.zero_le _⟩ (fun H locs hG => ?_)
        refine lv_if_ne (tgt := 42) hx hb dX5_arc_33 (by decide) (fun c25 => ?_) (fun c25 => ?_)
        · replace hf := if_f c25 hf
          refine lv_iconst (v := 0) hx hb dX5_arc_42 (by decide) ?_
          refine lv_istore (lv' := [(4, .int 0), (0, .ref (a 0)), (1, .int p1), (2, .int p2), (3, .int p3)]) hx hb dX5_arc_43 hl (by decide) rfl (fun ls hl => ?_)
          exact L45  FU p1 p2 p3 0 uv15 hf H locs ls hG (lv_sub hl [1, 2, 3, 4, 0] rfl)
        · replace hf := if_t c25 hf
          exact L36   uv15 hf H locs ls hG (lv_sub hl [0] rfl)
set_option maxRecDepth 100000 in
set_option maxHeartbeats 4000000 in
theorem c_X5_arcMany (l : Launch) (D : va_G) (κ : Nat → ClassId) (a : Nat → Nat) (sz : Nat)  (uv : MS) (r' : Int32)  (hf : f_X5_arcMany uv = some (r')) : Met l yX5_arcMany wsX5_arcMany ({ frames := 2, cells := 0, slots := 0, locals := 46 } : Room) (xPc D κ [.ref (a 0)] (WM κ a uv) sz) (xQi D κ r' (WM κ a uv) (va_A (WM κ a uv) sz)) 0 0 (va_A (WM κ a uv) sz) := by
  refine x_ofW (cc := cX5_arcMany) (maxL := 3) (ret := (some .int)) (Qf := fun A => xQi D κ r' (WM κ a uv) A) (by decide) rfl (Nat.le_of_ble_eq_true rfl) ?_
  intro p e s m below meth c hx hb hr hlk hml hown hts hK A hA H locs hG ls hl
  have hown : s.vm.findClass RX5 = some m.cls := hown
  have hl : lv_has ls 3 [(0, .ref (a 0))] := hl
  have L24 : ∀ (rec4 : Int32 → Int32 → Option (Int32)) (hr4 : ∀ (y1 : Int32) (y2 : Int32), rec4 y1 y2 = some (r') → ∀ (H : Heap) (locs : List Loc) (ls : Array Slot), xG D A s.heap (WM κ a uv) H locs → lv_has ls 3 [(0, .ref (a 0)), (1, .int y1), (2, .int y2)] → W p l e ({ frames := 2, cells := 0, slots := 0, locals := 46 } : Room) s m (([.ref (a 0)] : List Value).toArray) below meth c H locs 0 0 (MQ below (xQi D κ r' (WM κ a uv) A) (([.ref (a 0)] : List Value).toArray) s 0 0 A) (F0 m 4 ls [])), ∀ (x2 : Int32) (s0 : Int32) (s1 : Int32), f_X5_arcMany_24 uv rec4 x2 s0 s1 = some (r') → ∀ (H : Heap) (locs : List Loc) (ls : Array Slot), xG D A s.heap (WM κ a uv) H locs → lv_has ls 3 [(0, .ref (a 0)), (2, .int x2)] → W p l e ({ frames := 2, cells := 0, slots := 0, locals := 46 } : Room) s m (([.ref (a 0)] : List Value).toArray) below meth c H locs 0 0 (MQ below (xQi D κ r' (WM κ a uv) A) (([.ref (a 0)] : List Value).toArray) s 0 0 A) (F0 m 24 ls [.int s1, .int s0]) := by
    intro rec4 hr4 x2 s0 s1 hf H locs ls hG hl
    unfold f_X5_arcMany_24 at hf
    refine lv_iadd hx hb dX5_arcMany_24 ?_
    refine lv_topi (fun y1 ey1 => ?_)
    replace hf := bnd_at ey1 hf
    refine lv_istore_n (lv' := [(1, .int y1), (0, .ref (a 0)), (2, .int x2)]) hx hb dX5_arcMany_25 rfl hl (by decide) rfl (fun ls hl => ?_)
    obtain ⟨y2, ey2, hf⟩ := bnd_e hf
    refine lv_iinc (v := y2) (lv' := [(2, .int y2), (1, .int y1), (0, .ref (a 0))]) hx hb dX5_arcMany_26 hl (k := 2) rfl (by rw [ey2]; rfl) (by decide) rfl (fun ls hl => ?_)
    refine lv_goto (tgt := 4) hx hb dX5_arcMany_29 (by decide) ?_
    exact hr4 y1 y2 hf H locs ls hG (lv_sub hl [2, 1, 0] rfl)
  have L4 : ∀ (n : Nat), ∀ (x1 : Int32) (x2 : Int32), f_X5_arcMany_4 uv n x1 x2 = some (r') → ∀ (H : Heap) (locs : List Loc) (ls : Array Slot), xG D A s.heap (WM κ a uv) H locs → lv_has ls 3 [(0, .ref (a 0)), (1, .int x1), (2, .int x2)] → W p l e ({ frames := 2, cells := 0, slots := 0, locals := 46 } : Room) s m (([.ref (a 0)] : List Value).toArray) below meth c H locs 0 0 (MQ below (xQi D κ r' (WM κ a uv) A) (([.ref (a 0)] : List Value).toArray) s 0 0 A) (F0 m 4 ls []) := by
    intro  n
    induction n with
    | zero => intro x1 x2 hf; cases hf
    | succ n ih =>
      intro x1 x2 hf H locs ls hG hl
      replace hf : f_X5_arcMany_B4 uv (f_X5_arcMany_4 uv n) x1 x2 = some (r') := hf
      unfold f_X5_arcMany_B4 at hf
      refine lv_iload_n hx hb dX5_arcMany_4 rfl (lv_at hl 2 rfl) ?_
      refine lv_bipush (v := 20) hx hb dX5_arcMany_5 (by decide) ?_
      refine lv_icmp_ge (tgt := 32) hx hb dX5_arcMany_7 (by decide) (fun c3 => ?_) (fun c3 => ?_)
      · replace hf := if_t c3 hf
        refine lv_iload_n hx hb dX5_arcMany_32 rfl (lv_at hl 1 rfl) ?_
        have z0 := Option.some.inj hf
        exact x_iret hx hb hr hlk hK hG z0 rfl dX5_arcMany_33
      · replace hf := if_f c3 hf
        refine lv_iload_n hx hb dX5_arcMany_10 rfl (lv_at hl 1 rfl) ?_
        refine lv_aload_n hx hb dX5_arcMany_11 rfl (lv_at hl 0 rfl) ?_
        refine lv_iload_n hx hb dX5_arcMany_12 rfl (lv_at hl 2 rfl) ?_
        obtain ⟨r4, q5, hf⟩ := cl1_e hf
        refine x_callVi (pre := ([] : va_W)) (wc := WM κ a uv) (wc1 := WM κ a uv) (post := ([] : va_W)) (As := [.int x2]) (rest := [.int x1]) (w1 := WM κ a uv) ⟨hx, hb, hml, hown, hts⟩ hK hG hA (by simp only [List.append_assoc, List.nil_append, List.append_nil]) (by simp only [List.append_assoc, List.nil_append, List.append_nil]) (c_X5_isArc l D κ a H.size x2 uv r4 q5) (cwV 1 hts gX5_arcMany_X5_isArc rfl rfl rfl (by decide +kernel) ⟨Nat.le_of_ble_eq_true rfl, Nat.le_of_ble_eq_true rfl⟩) 0 5 rfl rfl rfl rfl hl.1 rfl (Nat.le_of_ble_eq_true rfl) dX5_arcMany_13 ⟨Nat.zero_le _, Nat.zero_le _⟩ (fun H locs hG => ?_)
        refine lv_if_eq (tgt := 23) hx hb dX5_arcMany_16 (by decide) (fun c6 => ?_) (fun c6 => ?_)
        · replace hf := if_t c6 hf
          refine lv_iconst (v := 0) hx hb dX5_arcMany_23 (by decide) ?_
          exact L24 (f_X5_arcMany_4 uv n) ih  x2 x1 0 hf H locs ls hG (lv_sub hl [0, 2] rfl)
        · replace hf := if_f c6 hf
          refine lv_iconst (v := 1) hx hb dX5_arcMany_19 (by decide) ?_
          refine lv_goto (tgt := 24) hx hb dX5_arcMany_20 (by decide) ?_
          exact L24 (f_X5_arcMany_4 uv n) ih  x2 x1 1 hf H locs ls hG (lv_sub hl [0, 2] rfl)
  unfold f_X5_arcMany at hf
  refine lv_iconst (v := 0) hx hb dX5_arcMany_0 (by decide) ?_
  refine lv_istore_n (lv' := [(1, .int 0), (0, .ref (a 0))]) hx hb dX5_arcMany_1 rfl hl (by decide) rfl (fun ls hl => ?_)
  refine lv_iconst (v := 0) hx hb dX5_arcMany_2 (by decide) ?_
  refine lv_istore_n (lv' := [(2, .int 0), (1, .int 0), (0, .ref (a 0))]) hx hb dX5_arcMany_3 rfl hl (by decide) rfl (fun ls hl => ?_)
  exact L4  FU 0 0 hf H locs ls hG (lv_sub hl [2, 1, 0] rfl)
set_option maxRecDepth 100000 in
set_option maxHeartbeats 4000000 in
theorem c_X5_unarc (l : Launch) (D : va_G) (κ : Nat → ClassId) (a : Nat → Nat) (sz : Nat) (p1 : Int32) (uv : MS) (r' : Int32) (uv' : MS) (hf : f_X5_unarc p1 uv = some (r', uv')) : Met l yX5_unarc wsX5_unarc ({ frames := 3, cells := 0, slots := 0, locals := 68 } : Room) (xPc D κ [.ref (a 0), .int p1] (WM κ a uv) sz) (xQi D κ r' (WM κ a uv') (va_A (WM κ a uv) sz)) 0 0 (va_A (WM κ a uv) sz) := by
  refine x_ofW (cc := cX5_unarc) (maxL := 2) (ret := (some .int)) (Qf := fun A => xQi D κ r' (WM κ a uv') A) (by decide) rfl (Nat.le_of_ble_eq_true rfl) ?_
  intro p e s m below meth c hx hb hr hlk hml hown hts hK A hA H locs hG ls hl
  have hown : s.vm.findClass RX5 = some m.cls := hown
  have hl : lv_has ls 2 [(0, .ref (a 0)), (1, .int p1)] := hl
  have iX5 : ∀ w ∈ u_ws RX5 TX5 27, w ∈ wsX5_unarc := fun _ h => List.mem_cons_of_mem _ (List.mem_append_right _ h)
  have k13 := hts (.fieldLink RX5 13 "SpineDesksModel" "row" "[I") (List.mem_of_getElem? (i := 2) rfl)
  have k63 := hts (.fieldLink RX5 63 "SpineDesksModel" "thrown" "I") (List.mem_of_getElem? (i := 1) rfl)
  unfold f_X5_unarc at hf
  refine lv_aload_n hx hb dX5_unarc_0 rfl (lv_at hl 0 rfl) ?_
  refine lv_iconst (v := 0) hx hb dX5_unarc_1 (by decide) ?_
  obtain ⟨uv1, euv1, hf⟩ := bnd_e hf
  refine x_put (C := RX5) (T := TX5) (N := 27) (ci := 5) hx hb hts iX5 tyX5 tyX5_ok nmX5 hown hK hG 0 rfl rfl 0 (by decide) k63 rfl (ty := .int) (v := .int 0) rfl rfl rfl (Nat.le_of_ble_eq_true rfl) (w1 := WM κ a uv1) (by rw [euv1]; rfl) dX5_unarc_2 (fun H locs hG => ?_)
  refine lv_aload_n hx hb dX5_unarc_5 rfl (lv_at hl 0 rfl) ?_
  refine lv_iload_n hx hb dX5_unarc_6 rfl (lv_at hl 1 rfl) ?_
  obtain ⟨r2, q3, hf⟩ := cl1_e hf
  refine x_callVi (pre := ([] : va_W)) (wc := WM κ a uv1) (wc1 := WM κ a uv1) (post := ([] : va_W)) (As := [.int p1]) (rest := []) (w1 := WM κ a uv1) ⟨hx, hb, hml, hown, hts⟩ hK hG hA (by simp only [List.append_assoc, List.nil_append, List.append_nil]) (by simp only [List.append_assoc, List.nil_append, List.append_nil]) (c_X5_isArc l D κ a H.size p1 uv1 r2 q3) (cwV 1 hts gX5_unarc_X5_isArc rfl rfl rfl (by decide +kernel) ⟨Nat.le_of_ble_eq_true rfl, Nat.le_of_ble_eq_true rfl⟩) 0 5 rfl rfl rfl rfl hl.1 rfl (Nat.le_of_ble_eq_true rfl) dX5_unarc_7 ⟨Nat.zero_le _, Nat.zero_le _⟩ (fun H locs hG => ?_)
  refine lv_if_ne (tgt := 20) hx hb dX5_unarc_10 (by decide) (fun c4 => ?_) (fun c4 => ?_)
  · replace hf := if_f c4 hf
    refine lv_aload_n hx hb dX5_unarc_20 rfl (lv_at hl 0 rfl) ?_
    refine x_get (C := RX5) (T := TX5) (N := 27) (ci := 5) hx hb hts iX5 hown hK hG 0 rfl rfl 2 (by decide) k13 (v := .ref (a 2)) rfl dX5_unarc_21 ?_
    refine lv_bipush (v := 10) hx hb dX5_unarc_24 (by decide) ?_
    refine lv_iconst (v := 3) hx hb dX5_unarc_26 (by decide) ?_
    refine lv_iload_n hx hb dX5_unarc_27 rfl (lv_at hl 1 rfl) ?_
    refine lv_imul hx hb dX5_unarc_28 ?_
    refine lv_iadd hx hb dX5_unarc_29 ?_
    refine lv_iconst (v := (-1)) hx hb dX5_unarc_30 (by decide) ?_
    obtain ⟨uv5, euv5, hin, hf⟩ := ck_e hf
    refine x_iast hx hb hK hG 2 rfl (w1 := WM κ a uv5) (by rw [euv5]; rfl) hin dX5_unarc_31 (fun H locs hG => ?_)
    refine lv_aload_n hx hb dX5_unarc_32 rfl (lv_at hl 0 rfl) ?_
    obtain ⟨r6, q7, hf⟩ := cl1_e hf
    refine x_callVi (pre := ([] : va_W)) (wc := WM κ a uv5) (wc1 := WM κ a uv5) (post := ([] : va_W)) (As := []) (rest := []) (w1 := WM κ a uv5) ⟨hx, hb, hml, hown, hts⟩ hK hG hA (by simp only [List.append_assoc, List.nil_append, List.append_nil]) (by simp only [List.append_assoc, List.nil_append, List.append_nil]) (c_X5_arcMany l D κ a H.size uv5 r6 q7) (cwV 0 hts gX5_unarc_X5_arcMany rfl rfl rfl (by decide +kernel) ⟨Nat.le_of_ble_eq_true rfl, Nat.le_of_ble_eq_true rfl⟩) 0 5 rfl rfl rfl rfl hl.1 rfl (Nat.le_of_ble_eq_true rfl) dX5_unarc_33 ⟨Nat.zero_le _, Nat.zero_le _⟩ (fun H locs hG => ?_)
    have hz := Option.some.inj hf
    have z0 := (Prod.mk.inj hz).1
    replace hz := (Prod.mk.inj hz).2
    have z1 := hz
    exact x_iret hx hb hr hlk hK hG z0 (by rw [z1]) dX5_unarc_36
  · replace hf := if_t c4 hf
    refine lv_aload_n hx hb dX5_unarc_13 rfl (lv_at hl 0 rfl) ?_
    refine lv_bipush (v := (-2)) hx hb dX5_unarc_14 (by decide) ?_
    obtain ⟨r8, uv9, q10, hf⟩ := cl2_e hf
    refine x_callVi (pre := ([] : va_W)) (wc := WM κ a uv1) (wc1 := WM κ a uv9) (post := ([] : va_W)) (As := [.int ((-2))]) (rest := []) (w1 := WM κ a uv9) ⟨hx, hb, hml, hown, hts⟩ hK hG hA (by simp only [List.append_assoc, List.nil_append, List.append_nil]) (by simp only [List.append_assoc, List.nil_append, List.append_nil]) (c_X5_refuse l D κ a H.size ((-2)) uv1 r8 uv9 q10) (cwV 1 hts gX5_unarc_X5_refuse rfl rfl rfl (by decide +kernel) ⟨Nat.le_of_ble_eq_true rfl, Nat.le_of_ble_eq_true rfl⟩) 0 5 rfl rfl rfl rfl hl.1 rfl (Nat.le_of_ble_eq_true rfl) dX5_unarc_16 ⟨Nat.zero_le _, Nat.zero_le _⟩ (fun H locs hG => ?_)
    have hz := Option.some.inj hf
    have z0 := (Prod.mk.inj hz).1
    replace hz := (Prod.mk.inj hz).2
    have z1 := hz
    exact x_iret hx hb hr hlk hK hG z0 (by rw [z1]) dX5_unarc_19
set_option maxRecDepth 100000 in
set_option maxHeartbeats 4000000 in
theorem c_X5_price (l : Launch) (D : va_G) (κ : Nat → ClassId) (a : Nat → Nat) (sz : Nat) (p1 : Int32) (p2 : Int32) (uv : MS) (r' : Int32) (uv' : MS) (hf : f_X5_price p1 p2 uv = some (r', uv')) : Met l yX5_price wsX5_price ({ frames := 2, cells := 0, slots := 0, locals := 46 } : Room) (xPc D κ [.ref (a 0), .int p1, .int p2] (WM κ a uv) sz) (xQi D κ r' (WM κ a uv') (va_A (WM κ a uv) sz)) 0 0 (va_A (WM κ a uv) sz) := by
  refine x_ofW (cc := cX5_price) (maxL := 4) (ret := (some .int)) (Qf := fun A => xQi D κ r' (WM κ a uv') A) (by decide) rfl (Nat.le_of_ble_eq_true rfl) ?_
  intro p e s m below meth c hx hb hr hlk hml hown hts hK A hA H locs hG ls hl
  have hown : s.vm.findClass RX5 = some m.cls := hown
  have hl : lv_has ls 4 [(0, .ref (a 0)), (1, .int p1), (2, .int p2)] := hl
  have iX5 : ∀ w ∈ u_ws RX5 TX5 27, w ∈ wsX5_price := fun _ h => List.mem_cons_of_mem _ (List.mem_append_right _ h)
  have k13 := hts (.fieldLink RX5 13 "SpineDesksModel" "row" "[I") (List.mem_of_getElem? (i := 3) rfl)
  have k168 := hts (.constantLong RX5 168 (1000000)) (List.mem_of_getElem? (i := 2) rfl)
  have k63 := hts (.fieldLink RX5 63 "SpineDesksModel" "thrown" "I") (List.mem_of_getElem? (i := 1) rfl)
  unfold f_X5_price at hf
  refine lv_aload_n hx hb dX5_price_0 rfl (lv_at hl 0 rfl) ?_
  refine lv_iconst (v := 0) hx hb dX5_price_1 (by decide) ?_
  obtain ⟨uv1, euv1, hf⟩ := bnd_e hf
  refine x_put (C := RX5) (T := TX5) (N := 27) (ci := 5) hx hb hts iX5 tyX5 tyX5_ok nmX5 hown hK hG 0 rfl rfl 0 (by decide) k63 rfl (ty := .int) (v := .int 0) rfl rfl rfl (Nat.le_of_ble_eq_true rfl) (w1 := WM κ a uv1) (by rw [euv1]; rfl) dX5_price_2 (fun H locs hG => ?_)
  refine lv_iload_n hx hb dX5_price_5 rfl (lv_at hl 2 rfl) ?_
  refine lv_i2l hx hb dX5_price_6 rfl ?_
  refine lv_lconst (v := 0) hx hb dX5_price_7 (by decide) ?_
  refine lv_ldc2 (v := 1000000) hx hb hown k168 dX5_price_8 ?_
  obtain ⟨r2, q3, hf⟩ := cl1_e hf
  refine x_callSi (pre := ([] : va_W)) (wc := ([] : va_W)) (wc1 := ([] : va_W)) (post := WM κ a uv1) (As := [.long (p2.toInt64), .long 0, .long 1000000]) (rest := []) (w1 := WM κ a uv1) ⟨hx, hb, hml, hown, hts⟩ hK hG hA (by simp only [List.append_assoc, List.nil_append, List.append_nil]) (by simp only [List.append_assoc, List.nil_append, List.append_nil]) (c_X5_in l D κ a H.size (p2.toInt64) 0 1000000 r2 q3) (va_cwS 3 hts gX5_price_X5_in rfl rfl rfl (by decide +kernel) ⟨Nat.le_of_ble_eq_true rfl, Nat.le_of_ble_eq_true rfl⟩) rfl hl.1 rfl (Nat.le_of_ble_eq_true rfl) dX5_price_11 ⟨Nat.zero_le _, Nat.zero_le _⟩ (fun H locs hG => ?_)
  refine lv_if_ne (tgt := 23) hx hb dX5_price_14 (by decide) (fun c4 => ?_) (fun c4 => ?_)
  · replace hf := if_f c4 hf
    refine lv_aload_n hx hb dX5_price_23 rfl (lv_at hl 0 rfl) ?_
    refine lv_iload_n hx hb dX5_price_24 rfl (lv_at hl 1 rfl) ?_
    obtain ⟨r5, q6, hf⟩ := cl1_e hf
    refine x_callVi (pre := ([] : va_W)) (wc := WM κ a uv1) (wc1 := WM κ a uv1) (post := ([] : va_W)) (As := [.int p1]) (rest := []) (w1 := WM κ a uv1) ⟨hx, hb, hml, hown, hts⟩ hK hG hA (by simp only [List.append_assoc, List.nil_append, List.append_nil]) (by simp only [List.append_assoc, List.nil_append, List.append_nil]) (c_X5_isArc l D κ a H.size p1 uv1 r5 q6) (cwV 1 hts gX5_price_X5_isArc rfl rfl rfl (by decide +kernel) ⟨Nat.le_of_ble_eq_true rfl, Nat.le_of_ble_eq_true rfl⟩) 0 5 rfl rfl rfl rfl hl.1 rfl (Nat.le_of_ble_eq_true rfl) dX5_price_25 ⟨Nat.zero_le _, Nat.zero_le _⟩ (fun H locs hG => ?_)
    refine lv_if_ne (tgt := 38) hx hb dX5_price_28 (by decide) (fun c7 => ?_) (fun c7 => ?_)
    · replace hf := if_f c7 hf
      refine lv_aload_n hx hb dX5_price_38 rfl (lv_at hl 0 rfl) ?_
      refine x_get (C := RX5) (T := TX5) (N := 27) (ci := 5) hx hb hts iX5 hown hK hG 0 rfl rfl 2 (by decide) k13 (v := .ref (a 2)) rfl dX5_price_39 ?_
      refine lv_bipush (v := 10) hx hb dX5_price_42 (by decide) ?_
      refine lv_iconst (v := 3) hx hb dX5_price_44 (by decide) ?_
      refine lv_iload_n hx hb dX5_price_45 rfl (lv_at hl 1 rfl) ?_
      refine lv_imul hx hb dX5_price_46 ?_
      refine lv_iadd hx hb dX5_price_47 ?_
      refine lv_iconst (v := 2) hx hb dX5_price_48 (by decide) ?_
      refine lv_iadd hx hb dX5_price_49 ?_
      obtain ⟨v8, ev8, hin, hf⟩ := ck_e hf
      refine x_iald hx hb hK hG 2 rfl ev8 hin dX5_price_50 ?_
      refine lv_istore_n (lv' := [(3, .int v8), (0, .ref (a 0)), (1, .int p1), (2, .int p2)]) hx hb dX5_price_51 rfl hl (by decide) rfl (fun ls hl => ?_)
      refine lv_iload_n hx hb dX5_price_52 rfl (lv_at hl 0 rfl) ?_
      refine lv_iload_n hx hb dX5_price_53 rfl (lv_at hl 3 rfl) ?_
      refine lv_icmp_ne (tgt := 64) hx hb dX5_price_54 (by decide) (fun c9 => ?_) (fun c9 => ?_)
      · replace hf := if_f c9 hf
        refine lv_aload_n hx hb dX5_price_64 rfl (lv_at hl 1 rfl) ?_
        refine x_get (C := RX5) (T := TX5) (N := 27) (ci := 5) hx hb hts iX5 hown hK hG 0 rfl rfl 2 (by decide) k13 (v := .ref (a 2)) rfl dX5_price_65 ?_
        refine lv_bipush (v := 10) hx hb dX5_price_68 (by decide) ?_
        refine lv_iconst (v := 3) hx hb dX5_price_70 (by decide) ?_
        refine lv_iload_n hx hb dX5_price_71 rfl (lv_at hl 2 rfl) ?_
        refine lv_imul hx hb dX5_price_72 ?_
        refine lv_iadd hx hb dX5_price_73 ?_
        refine lv_iconst (v := 2) hx hb dX5_price_74 (by decide) ?_
        refine lv_iadd hx hb dX5_price_75 ?_
        refine lv_iload_n hx hb dX5_price_76 rfl (lv_at hl 3 rfl) ?_
        obtain ⟨uv10, euv10, hin, hf⟩ := ck_e hf
        refine x_iast hx hb hK hG 2 rfl (w1 := WM κ a uv10) (by rw [euv10]; rfl) hin dX5_price_77 (fun H locs hG => ?_)
        refine lv_iload_n hx hb dX5_price_78 rfl (lv_at hl 0 rfl) ?_
        have hz := Option.some.inj hf
        have z0 := (Prod.mk.inj hz).1
        replace hz := (Prod.mk.inj hz).2
        have z1 := hz
        exact x_iret hx hb hr hlk hK hG z0 (by rw [z1]) dX5_price_79
      · replace hf := if_t c9 hf
        refine lv_aload_n hx hb dX5_price_57 rfl (lv_at hl 1 rfl) ?_
        refine lv_bipush (v := (-4)) hx hb dX5_price_58 (by decide) ?_
        obtain ⟨r11, uv12, q13, hf⟩ := cl2_e hf
        refine x_callVi (pre := ([] : va_W)) (wc := WM κ a uv1) (wc1 := WM κ a uv12) (post := ([] : va_W)) (As := [.int ((-4))]) (rest := []) (w1 := WM κ a uv12) ⟨hx, hb, hml, hown, hts⟩ hK hG hA (by simp only [List.append_assoc, List.nil_append, List.append_nil]) (by simp only [List.append_assoc, List.nil_append, List.append_nil]) (c_X5_refuse l D κ a H.size ((-4)) uv1 r11 uv12 q13) (cwV 1 hts gX5_price_X5_refuse rfl rfl rfl (by decide +kernel) ⟨Nat.le_of_ble_eq_true rfl, Nat.le_of_ble_eq_true rfl⟩) 0 5 rfl rfl rfl rfl hl.1 rfl (Nat.le_of_ble_eq_true rfl) dX5_price_60 ⟨Nat.zero_le _, Nat.zero_le _⟩ (fun H locs hG => ?_)
        have hz := Option.some.inj hf
        have z0 := (Prod.mk.inj hz).1
        replace hz := (Prod.mk.inj hz).2
        have z1 := hz
        exact x_iret hx hb hr hlk hK hG z0 (by rw [z1]) dX5_price_63
    · replace hf := if_t c7 hf
      refine lv_aload_n hx hb dX5_price_31 rfl (lv_at hl 0 rfl) ?_
      refine lv_bipush (v := (-2)) hx hb dX5_price_32 (by decide) ?_
      obtain ⟨r14, uv15, q16, hf⟩ := cl2_e hf
      refine x_callVi (pre := ([] : va_W)) (wc := WM κ a uv1) (wc1 := WM κ a uv15) (post := ([] : va_W)) (As := [.int ((-2))]) (rest := []) (w1 := WM κ a uv15) ⟨hx, hb, hml, hown, hts⟩ hK hG hA (by simp only [List.append_assoc, List.nil_append, List.append_nil]) (by simp only [List.append_assoc, List.nil_append, List.append_nil]) (c_X5_refuse l D κ a H.size ((-2)) uv1 r14 uv15 q16) (cwV 1 hts gX5_price_X5_refuse rfl rfl rfl (by decide +kernel) ⟨Nat.le_of_ble_eq_true rfl, Nat.le_of_ble_eq_true rfl⟩) 0 5 rfl rfl rfl rfl hl.1 rfl (Nat.le_of_ble_eq_true rfl) dX5_price_34 ⟨Nat.zero_le _, Nat.zero_le _⟩ (fun H locs hG => ?_)
      have hz := Option.some.inj hf
      have z0 := (Prod.mk.inj hz).1
      replace hz := (Prod.mk.inj hz).2
      have z1 := hz
      exact x_iret hx hb hr hlk hK hG z0 (by rw [z1]) dX5_price_37
  · replace hf := if_t c4 hf
    refine lv_aload_n hx hb dX5_price_17 rfl (lv_at hl 0 rfl) ?_
    refine lv_iconst (v := (-1)) hx hb dX5_price_18 (by decide) ?_
    obtain ⟨r17, uv18, q19, hf⟩ := cl2_e hf
    refine x_callVi (pre := ([] : va_W)) (wc := WM κ a uv1) (wc1 := WM κ a uv18) (post := ([] : va_W)) (As := [.int ((-1))]) (rest := []) (w1 := WM κ a uv18) ⟨hx, hb, hml, hown, hts⟩ hK hG hA (by simp only [List.append_assoc, List.nil_append, List.append_nil]) (by simp only [List.append_assoc, List.nil_append, List.append_nil]) (c_X5_refuse l D κ a H.size ((-1)) uv1 r17 uv18 q19) (cwV 1 hts gX5_price_X5_refuse rfl rfl rfl (by decide +kernel) ⟨Nat.le_of_ble_eq_true rfl, Nat.le_of_ble_eq_true rfl⟩) 0 5 rfl rfl rfl rfl hl.1 rfl (Nat.le_of_ble_eq_true rfl) dX5_price_19 ⟨Nat.zero_le _, Nat.zero_le _⟩ (fun H locs hG => ?_)
    have hz := Option.some.inj hf
    have z0 := (Prod.mk.inj hz).1
    replace hz := (Prod.mk.inj hz).2
    have z1 := hz
    exact x_iret hx hb hr hlk hK hG z0 (by rw [z1]) dX5_price_22
set_option maxRecDepth 100000 in
set_option maxHeartbeats 4000000 in
theorem c_X5_isThere (l : Launch) (D : va_G) (κ : Nat → ClassId) (a : Nat → Nat) (sz : Nat) (p1 : Int32) (uv : MS) (r' : Int32) (uv' : MS) (hf : f_X5_isThere p1 uv = some (r', uv')) : Met l yX5_isThere wsX5_isThere ({ frames := 2, cells := 0, slots := 0, locals := 46 } : Room) (xPc D κ [.ref (a 0), .int p1] (WM κ a uv) sz) (xQi D κ r' (WM κ a uv') (va_A (WM κ a uv) sz)) 0 0 (va_A (WM κ a uv) sz) := by
  refine x_ofW (cc := cX5_isThere) (maxL := 2) (ret := (some .boolean)) (Qf := fun A => xQi D κ r' (WM κ a uv') A) (by decide) rfl (Nat.le_of_ble_eq_true rfl) ?_
  intro p e s m below meth c hx hb hr hlk hml hown hts hK A hA H locs hG ls hl
  have hown : s.vm.findClass RX5 = some m.cls := hown
  have hl : lv_has ls 2 [(0, .ref (a 0)), (1, .int p1)] := hl
  have iX5 : ∀ w ∈ u_ws RX5 TX5 27, w ∈ wsX5_isThere := fun _ h => List.mem_cons_of_mem _ (List.mem_append_right _ h)
  have k63 := hts (.fieldLink RX5 63 "SpineDesksModel" "thrown" "I") (List.mem_of_getElem? (i := 1) rfl)
  have L14 : ∀ (s1 : Int32) (uv : MS), f_X5_isThere_14 s1 uv = some (r', uv') → ∀ (H : Heap) (locs : List Loc) (ls : Array Slot), xG D A s.heap (WM κ a uv) H locs → lv_has ls 2 [(0, .ref (a 0))] → W p l e ({ frames := 2, cells := 0, slots := 0, locals := 46 } : Room) s m (([.ref (a 0), .int p1] : List Value).toArray) below meth c H locs 0 0 (MQ below (xQi D κ r' (WM κ a uv') A) (([.ref (a 0), .int p1] : List Value).toArray) s 0 0 A) (F0 m 14 ls [.int s1, .ref (a 0)]) := by
    intro  s1 uv hf H locs ls hG hl
    unfold f_X5_isThere_14 at hf
    obtain ⟨uv1, euv1, hf⟩ := bnd_e hf
    refine x_put (C := RX5) (T := TX5) (N := 27) (ci := 5) hx hb hts iX5 tyX5 tyX5_ok nmX5 hown hK hG 0 rfl rfl 0 (by decide) k63 rfl (ty := .int) (v := .int s1) rfl rfl rfl (Nat.le_of_ble_eq_true rfl) (w1 := WM κ a uv1) (by rw [euv1]; rfl) dX5_isThere_14 (fun H locs hG => ?_)
    refine lv_aload_n hx hb dX5_isThere_17 rfl (lv_at hl 0 rfl) ?_
    refine x_get (C := RX5) (T := TX5) (N := 27) (ci := 5) hx hb hts iX5 hown hK hG 0 rfl rfl 0 (by decide) k63 (v := .int (uv1.thrown)) rfl dX5_isThere_18 ?_
    refine lv_if_ne (tgt := 28) hx hb dX5_isThere_21 (by decide) (fun c2 => ?_) (fun c2 => ?_)
    · replace hf := if_f c2 hf
      refine lv_iconst (v := 0) hx hb dX5_isThere_28 (by decide) ?_
      have hz := Option.some.inj hf
      have z0 := (Prod.mk.inj hz).1
      replace hz := (Prod.mk.inj hz).2
      have z1 := hz
      exact x_zret hx hb hr hlk hK hG (by decide) z0 (by rw [z1]) dX5_isThere_29
    · replace hf := if_t c2 hf
      refine lv_iconst (v := 1) hx hb dX5_isThere_24 (by decide) ?_
      refine lv_goto (tgt := 29) hx hb dX5_isThere_25 (by decide) ?_
      have hz := Option.some.inj hf
      have z0 := (Prod.mk.inj hz).1
      replace hz := (Prod.mk.inj hz).2
      have z1 := hz
      exact x_zret hx hb hr hlk hK hG (by decide) z0 (by rw [z1]) dX5_isThere_29
  unfold f_X5_isThere at hf
  refine lv_aload_n hx hb dX5_isThere_0 rfl (lv_at hl 0 rfl) ?_
  refine lv_aload_n hx hb dX5_isThere_1 rfl (lv_at hl 0 rfl) ?_
  refine lv_iload_n hx hb dX5_isThere_2 rfl (lv_at hl 1 rfl) ?_
  obtain ⟨r3, q4, hf⟩ := cl1_e hf
  refine x_callVi (pre := ([] : va_W)) (wc := WM κ a uv) (wc1 := WM κ a uv) (post := ([] : va_W)) (As := [.int p1]) (rest := [.ref (a 0)]) (w1 := WM κ a uv) ⟨hx, hb, hml, hown, hts⟩ hK hG hA (by simp only [List.append_assoc, List.nil_append, List.append_nil]) (by simp only [List.append_assoc, List.nil_append, List.append_nil]) (c_X5_isItem l D κ a H.size p1 uv r3 q4) (cwV 1 hts gX5_isThere_X5_isItem rfl rfl rfl (by decide +kernel) ⟨Nat.le_of_ble_eq_true rfl, Nat.le_of_ble_eq_true rfl⟩) 0 5 rfl rfl rfl rfl hl.1 rfl (Nat.le_of_ble_eq_true rfl) dX5_isThere_3 ⟨Nat.zero_le _, Nat.zero_le _⟩ (fun H locs hG => ?_)
  refine lv_if_eq (tgt := 13) hx hb dX5_isThere_6 (by decide) (fun c5 => ?_) (fun c5 => ?_)
  · replace hf := if_t c5 hf
    refine lv_iconst (v := 1) hx hb dX5_isThere_13 (by decide) ?_
    exact L14   1 uv hf H locs ls hG (lv_sub hl [0] rfl)
  · replace hf := if_f c5 hf
    refine lv_iconst (v := 0) hx hb dX5_isThere_9 (by decide) ?_
    refine lv_goto (tgt := 14) hx hb dX5_isThere_10 (by decide) ?_
    exact L14   0 uv hf H locs ls hG (lv_sub hl [0] rfl)
set_option maxRecDepth 100000 in
set_option maxHeartbeats 4000000 in
theorem c_X5_key (l : Launch) (D : va_G) (κ : Nat → ClassId) (a : Nat → Nat) (sz : Nat) (p1 : Int32) (uv : MS) (r' : Int64) (uv' : MS) (hf : f_X5_key p1 uv = some (r', uv')) : Met l yX5_key wsX5_key ({ frames := 3, cells := 0, slots := 0, locals := 67 } : Room) (xPc D κ [.ref (a 0), .int p1] (WM κ a uv) sz) (xQl D κ r' (WM κ a uv') (va_A (WM κ a uv) sz)) 0 0 (va_A (WM κ a uv) sz) := by
  refine x_ofW (cc := cX5_key) (maxL := 2) (ret := (some .long)) (Qf := fun A => xQl D κ r' (WM κ a uv') A) (by decide) rfl (Nat.le_of_ble_eq_true rfl) ?_
  intro p e s m below meth c hx hb hr hlk hml hown hts hK A hA H locs hG ls hl
  have hown : s.vm.findClass RX5 = some m.cls := hown
  have hl : lv_has ls 2 [(0, .ref (a 0)), (1, .int p1)] := hl
  have iX5 : ∀ w ∈ u_ws RX5 TX5 27, w ∈ wsX5_key := fun _ h => List.mem_cons_of_mem _ (List.mem_append_right _ h)
  have k16 := hts (.fieldLink RX5 16 "SpineDesksModel" "keys" "[J") (List.mem_of_getElem? (i := 1) rfl)
  unfold f_X5_key at hf
  refine lv_aload_n hx hb dX5_key_0 rfl (lv_at hl 0 rfl) ?_
  refine lv_iload_n hx hb dX5_key_1 rfl (lv_at hl 1 rfl) ?_
  obtain ⟨r1, uv2, q3, hf⟩ := cl2_e hf
  refine x_callVi (pre := ([] : va_W)) (wc := WM κ a uv) (wc1 := WM κ a uv2) (post := ([] : va_W)) (As := [.int p1]) (rest := []) (w1 := WM κ a uv2) ⟨hx, hb, hml, hown, hts⟩ hK hG hA (by simp only [List.append_assoc, List.nil_append, List.append_nil]) (by simp only [List.append_assoc, List.nil_append, List.append_nil]) (c_X5_isThere l D κ a H.size p1 uv r1 uv2 q3) (cwV 1 hts gX5_key_X5_isThere rfl rfl rfl (by decide +kernel) ⟨Nat.le_of_ble_eq_true rfl, Nat.le_of_ble_eq_true rfl⟩) 0 5 rfl rfl rfl rfl hl.1 rfl (Nat.le_of_ble_eq_true rfl) dX5_key_2 ⟨Nat.zero_le _, Nat.zero_le _⟩ (fun H locs hG => ?_)
  refine lv_if_eq (tgt := 17) hx hb dX5_key_5 (by decide) (fun c4 => ?_) (fun c4 => ?_)
  · replace hf := if_t c4 hf
    refine lv_lconst (v := 0) hx hb dX5_key_17 (by decide) ?_
    have hz := Option.some.inj hf
    have z0 := (Prod.mk.inj hz).1
    replace hz := (Prod.mk.inj hz).2
    have z1 := hz
    exact x_lret hx hb hr hlk hK hG z0 (by rw [z1]) dX5_key_18
  · replace hf := if_f c4 hf
    refine lv_aload_n hx hb dX5_key_8 rfl (lv_at hl 0 rfl) ?_
    refine x_get (C := RX5) (T := TX5) (N := 27) (ci := 5) hx hb hts iX5 hown hK hG 0 rfl rfl 3 (by decide) k16 (v := .ref (a 3)) rfl dX5_key_9 ?_
    refine lv_iload_n hx hb dX5_key_12 rfl (lv_at hl 1 rfl) ?_
    obtain ⟨v5, ev5, hin, hf⟩ := ck_e hf
    refine x_lald hx hb hK hG 3 rfl ev5 hin dX5_key_13 ?_
    refine lv_goto (tgt := 18) hx hb dX5_key_14 (by decide) ?_
    have hz := Option.some.inj hf
    have z0 := (Prod.mk.inj hz).1
    replace hz := (Prod.mk.inj hz).2
    have z1 := hz
    exact x_lret hx hb hr hlk hK hG z0 (by rw [z1]) dX5_key_18
set_option maxRecDepth 100000 in
set_option maxHeartbeats 4000000 in
theorem c_X5_deep (l : Launch) (D : va_G) (κ : Nat → ClassId) (a : Nat → Nat) (sz : Nat) (p1 : Int32) (uv : MS) (r' : Int32)  (hf : f_X5_deep p1 uv = some (r')) : Met l yX5_deep wsX5_deep ({ frames := 1, cells := 0, slots := 0, locals := 20 } : Room) (xPc D κ [.ref (a 0), .int p1] (WM κ a uv) sz) (xQi D κ r' (WM κ a uv) (va_A (WM κ a uv) sz)) 0 0 (va_A (WM κ a uv) sz) := by
  refine x_ofW (cc := cX5_deep) (maxL := 4) (ret := (some .int)) (Qf := fun A => xQi D κ r' (WM κ a uv) A) (by decide) rfl (Nat.le_of_ble_eq_true rfl) ?_
  intro p e s m below meth c hx hb hr hlk hml hown hts hK A hA H locs hG ls hl
  have hown : s.vm.findClass RX5 = some m.cls := hown
  have hl : lv_has ls 4 [(0, .ref (a 0)), (1, .int p1)] := hl
  have iX5 : ∀ w ∈ u_ws RX5 TX5 27, w ∈ wsX5_deep := fun _ h => List.mem_cons_of_mem _ (List.mem_append_right _ h)
  have k13 := hts (.fieldLink RX5 13 "SpineDesksModel" "row" "[I") (List.mem_of_getElem? (i := 1) rfl)
  have L14 : ∀ (n : Nat), ∀ (x2 : Int32) (x3 : Int32), f_X5_deep_14 uv n x2 x3 = some (r') → ∀ (H : Heap) (locs : List Loc) (ls : Array Slot), xG D A s.heap (WM κ a uv) H locs → lv_has ls 4 [(0, .ref (a 0)), (2, .int x2), (3, .int x3)] → W p l e ({ frames := 1, cells := 0, slots := 0, locals := 20 } : Room) s m (([.ref (a 0), .int p1] : List Value).toArray) below meth c H locs 0 0 (MQ below (xQi D κ r' (WM κ a uv) A) (([.ref (a 0), .int p1] : List Value).toArray) s 0 0 A) (F0 m 14 ls []) := by
    intro  n
    induction n with
    | zero => intro x2 x3 hf; cases hf
    | succ n ih =>
      intro x2 x3 hf H locs ls hG hl
      replace hf : f_X5_deep_B14 uv (f_X5_deep_14 uv n) x2 x3 = some (r') := hf
      unfold f_X5_deep_B14 at hf
      refine lv_iload_n hx hb dX5_deep_14 rfl (lv_at hl 2 rfl) ?_
      refine lv_iconst (v := (-1)) hx hb dX5_deep_15 (by decide) ?_
      refine lv_icmp_eq (tgt := 37) hx hb dX5_deep_16 (by decide) (fun c1 => ?_) (fun c1 => ?_)
      · replace hf := if_t c1 hf
        refine lv_iload_n hx hb dX5_deep_37 rfl (lv_at hl 1 rfl) ?_
        have z0 := Option.some.inj hf
        exact x_iret hx hb hr hlk hK hG z0 rfl dX5_deep_38
      · replace hf := if_f c1 hf
        obtain ⟨y2, ey2, hf⟩ := bnd_e hf
        refine lv_iinc (v := y2) (lv' := [(2, .int y2), (0, .ref (a 0)), (3, .int x3)]) hx hb dX5_deep_19 hl (k := 1) rfl (by rw [ey2]; rfl) (by decide) rfl (fun ls hl => ?_)
        refine lv_aload_n hx hb dX5_deep_22 rfl (lv_at hl 1 rfl) ?_
        refine x_get (C := RX5) (T := TX5) (N := 27) (ci := 5) hx hb hts iX5 hown hK hG 0 rfl rfl 2 (by decide) k13 (v := .ref (a 2)) rfl dX5_deep_23 ?_
        refine lv_iload_n hx hb dX5_deep_26 rfl (lv_at hl 2 rfl) ?_
        obtain ⟨r3, q4, hf⟩ := cl1_e hf
        refine x_callSi (pre := ([] : va_W)) (wc := ([] : va_W)) (wc1 := ([] : va_W)) (post := WM κ a uv) (As := [.int x3]) (rest := [.ref (a 2)]) (w1 := WM κ a uv) ⟨hx, hb, hml, hown, hts⟩ hK hG hA (by simp only [List.append_assoc, List.nil_append, List.append_nil]) (by simp only [List.append_assoc, List.nil_append, List.append_nil]) (c_X5_at l D κ a H.size x3 r3 q4) (va_cwS 1 hts gX5_deep_X5_at rfl rfl rfl (by decide +kernel) ⟨Nat.le_of_ble_eq_true rfl, Nat.le_of_ble_eq_true rfl⟩) rfl hl.1 rfl (Nat.le_of_ble_eq_true rfl) dX5_deep_27 ⟨Nat.zero_le _, Nat.zero_le _⟩ (fun H locs hG => ?_)
        refine lv_iconst (v := 5) hx hb dX5_deep_30 (by decide) ?_
        refine lv_iadd hx hb dX5_deep_31 ?_
        obtain ⟨v5, ev5, hin, hf⟩ := ck_e hf
        refine x_iald hx hb hK hG 2 rfl ev5 hin dX5_deep_32 ?_
        refine lv_istore_n (lv' := [(3, .int v5), (2, .int y2), (0, .ref (a 0))]) hx hb dX5_deep_33 rfl hl (by decide) rfl (fun ls hl => ?_)
        refine lv_goto (tgt := 14) hx hb dX5_deep_34 (by decide) ?_
        exact ih y2 v5 hf H locs ls hG (lv_sub hl [2, 1, 0] rfl)
  unfold f_X5_deep at hf
  refine lv_iconst (v := 0) hx hb dX5_deep_0 (by decide) ?_
  refine lv_istore_n (lv' := [(2, .int 0), (0, .ref (a 0)), (1, .int p1)]) hx hb dX5_deep_1 rfl hl (by decide) rfl (fun ls hl => ?_)
  refine lv_aload_n hx hb dX5_deep_2 rfl (lv_at hl 1 rfl) ?_
  refine x_get (C := RX5) (T := TX5) (N := 27) (ci := 5) hx hb hts iX5 hown hK hG 0 rfl rfl 2 (by decide) k13 (v := .ref (a 2)) rfl dX5_deep_3 ?_
  refine lv_iload_n hx hb dX5_deep_6 rfl (lv_at hl 2 rfl) ?_
  obtain ⟨r6, q7, hf⟩ := cl1_e hf
  refine x_callSi (pre := ([] : va_W)) (wc := ([] : va_W)) (wc1 := ([] : va_W)) (post := WM κ a uv) (As := [.int p1]) (rest := [.ref (a 2)]) (w1 := WM κ a uv) ⟨hx, hb, hml, hown, hts⟩ hK hG hA (by simp only [List.append_assoc, List.nil_append, List.append_nil]) (by simp only [List.append_assoc, List.nil_append, List.append_nil]) (c_X5_at l D κ a H.size p1 r6 q7) (va_cwS 1 hts gX5_deep_X5_at rfl rfl rfl (by decide +kernel) ⟨Nat.le_of_ble_eq_true rfl, Nat.le_of_ble_eq_true rfl⟩) rfl hl.1 rfl (Nat.le_of_ble_eq_true rfl) dX5_deep_7 ⟨Nat.zero_le _, Nat.zero_le _⟩ (fun H locs hG => ?_)
  refine lv_iconst (v := 5) hx hb dX5_deep_10 (by decide) ?_
  refine lv_iadd hx hb dX5_deep_11 ?_
  obtain ⟨v8, ev8, hin, hf⟩ := ck_e hf
  refine x_iald hx hb hK hG 2 rfl ev8 hin dX5_deep_12 ?_
  refine lv_istore_n (lv' := [(3, .int v8), (2, .int 0), (0, .ref (a 0)), (1, .int p1)]) hx hb dX5_deep_13 rfl hl (by decide) rfl (fun ls hl => ?_)
  exact L14  FU 0 v8 hf H locs ls hG (lv_sub hl [2, 1, 0] rfl)
set_option maxRecDepth 100000 in
set_option maxHeartbeats 4000000 in
theorem c_X5_laySizes (l : Launch) (D : va_G) (κ : Nat → ClassId) (a : Nat → Nat) (sz : Nat)  (uv : MS)  (uv' : MS) (hf : f_X5_laySizes uv = some (uv')) : Met l yX5_laySizes wsX5_laySizes ({ frames := 2, cells := 0, slots := 0, locals := 46 } : Room) (xPc D κ [.ref (a 0)] (WM κ a uv) sz) (xQv D κ (WM κ a uv') (va_A (WM κ a uv) sz)) 0 0 (va_A (WM κ a uv) sz) := by
  refine x_ofW (cc := cX5_laySizes) (maxL := 3) (ret := none) (Qf := fun A => xQv D κ (WM κ a uv') A) (by decide) rfl (Nat.le_of_ble_eq_true rfl) ?_
  intro p e s m below meth c hx hb hr hlk hml hown hts hK A hA H locs hG ls hl
  have hown : s.vm.findClass RX5 = some m.cls := hown
  have hl : lv_has ls 3 [(0, .ref (a 0))] := hl
  have iX5 : ∀ w ∈ u_ws RX5 TX5 27, w ∈ wsX5_laySizes := fun _ h => List.mem_cons_of_mem _ (List.mem_append_right _ h)
  have k13 := hts (.fieldLink RX5 13 "SpineDesksModel" "row" "[I") (List.mem_of_getElem? (i := 1) rfl)
  have k48 := hts (.fieldLink RX5 48 "SpineDesksModel" "sizes" "[I") (List.mem_of_getElem? (i := 2) rfl)
  have L51 : ∀ (rec27 : Int32 → MS → Option (MS)) (hr27 : ∀ (y1 : Int32) (uv : MS), rec27 y1 uv = some (uv') → ∀ (H : Heap) (locs : List Loc) (ls : Array Slot), xG D A s.heap (WM κ a uv) H locs → lv_has ls 3 [(0, .ref (a 0)), (1, .int y1)] → W p l e ({ frames := 2, cells := 0, slots := 0, locals := 46 } : Room) s m (([.ref (a 0)] : List Value).toArray) below meth c H locs 0 0 (MQ below (xQv D κ (WM κ a uv') A) (([.ref (a 0)] : List Value).toArray) s 0 0 A) (F0 m 27 ls [])), ∀ (n : Nat), ∀ (x1 : Int32) (x2 : Int32) (uv : MS), f_X5_laySizes_51 rec27 n x1 x2 uv = some (uv') → ∀ (H : Heap) (locs : List Loc) (ls : Array Slot), xG D A s.heap (WM κ a uv) H locs → lv_has ls 3 [(0, .ref (a 0)), (1, .int x1), (2, .int x2)] → W p l e ({ frames := 2, cells := 0, slots := 0, locals := 46 } : Room) s m (([.ref (a 0)] : List Value).toArray) below meth c H locs 0 0 (MQ below (xQv D κ (WM κ a uv') A) (([.ref (a 0)] : List Value).toArray) s 0 0 A) (F0 m 51 ls []) := by
    intro rec27 hr27 n
    induction n with
    | zero => intro x1 x2 uv hf; cases hf
    | succ n ih =>
      intro x1 x2 uv hf H locs ls hG hl
      replace hf : f_X5_laySizes_B51 rec27 (f_X5_laySizes_51 rec27 n) x1 x2 uv = some (uv') := hf
      unfold f_X5_laySizes_B51 at hf
      refine lv_iload_n hx hb dX5_laySizes_51 rfl (lv_at hl 2 rfl) ?_
      refine lv_iconst (v := (-1)) hx hb dX5_laySizes_52 (by decide) ?_
      refine lv_icmp_eq (tgt := 81) hx hb dX5_laySizes_53 (by decide) (fun c1 => ?_) (fun c1 => ?_)
      · replace hf := if_t c1 hf
        obtain ⟨y2, ey2, hf⟩ := bnd_e hf
        refine lv_iinc (v := y2) (lv' := [(1, .int y2), (0, .ref (a 0)), (2, .int x2)]) hx hb dX5_laySizes_81 hl (k := 1) rfl (by rw [ey2]; rfl) (by decide) rfl (fun ls hl => ?_)
        refine lv_goto (tgt := 27) hx hb dX5_laySizes_84 (by decide) ?_
        exact hr27 y2 uv hf H locs ls hG (lv_sub hl [1, 0] rfl)
      · replace hf := if_f c1 hf
        refine lv_aload_n hx hb dX5_laySizes_56 rfl (lv_at hl 0 rfl) ?_
        refine x_get (C := RX5) (T := TX5) (N := 27) (ci := 5) hx hb hts iX5 hown hK hG 0 rfl rfl 16 (by decide) k48 (v := .ref (a 13)) rfl dX5_laySizes_57 ?_
        refine lv_iload_n hx hb dX5_laySizes_60 rfl (lv_at hl 2 rfl) ?_
        refine lv_dup2_11 hx hb dX5_laySizes_61 rfl rfl ?_
        obtain ⟨v3, ev3, hin, hf⟩ := ck_e hf
        refine x_iald hx hb hK hG 13 rfl ev3 hin dX5_laySizes_62 ?_
        refine lv_iconst (v := 1) hx hb dX5_laySizes_63 (by decide) ?_
        refine lv_iadd hx hb dX5_laySizes_64 ?_
        obtain ⟨uv4, euv4, hin, hf⟩ := ck_e hf
        refine x_iast hx hb hK hG 13 rfl (w1 := WM κ a uv4) (by rw [euv4]; rfl) hin dX5_laySizes_65 (fun H locs hG => ?_)
        refine lv_aload_n hx hb dX5_laySizes_66 rfl (lv_at hl 0 rfl) ?_
        refine x_get (C := RX5) (T := TX5) (N := 27) (ci := 5) hx hb hts iX5 hown hK hG 0 rfl rfl 2 (by decide) k13 (v := .ref (a 2)) rfl dX5_laySizes_67 ?_
        refine lv_iload_n hx hb dX5_laySizes_70 rfl (lv_at hl 2 rfl) ?_
        obtain ⟨r5, q6, hf⟩ := cl1_e hf
        refine x_callSi (pre := ([] : va_W)) (wc := ([] : va_W)) (wc1 := ([] : va_W)) (post := WM κ a uv4) (As := [.int x2]) (rest := [.ref (a 2)]) (w1 := WM κ a uv4) ⟨hx, hb, hml, hown, hts⟩ hK hG hA (by simp only [List.append_assoc, List.nil_append, List.append_nil]) (by simp only [List.append_assoc, List.nil_append, List.append_nil]) (c_X5_at l D κ a H.size x2 r5 q6) (va_cwS 1 hts gX5_laySizes_X5_at rfl rfl rfl (by decide +kernel) ⟨Nat.le_of_ble_eq_true rfl, Nat.le_of_ble_eq_true rfl⟩) rfl hl.1 rfl (Nat.le_of_ble_eq_true rfl) dX5_laySizes_71 ⟨Nat.zero_le _, Nat.zero_le _⟩ (fun H locs hG => ?_)
        refine lv_iconst (v := 5) hx hb dX5_laySizes_74 (by decide) ?_
        refine lv_iadd hx hb dX5_laySizes_75 ?_
        obtain ⟨v7, ev7, hin, hf⟩ := ck_e hf
        refine x_iald hx hb hK hG 2 rfl ev7 hin dX5_laySizes_76 ?_
        refine lv_istore_n (lv' := [(2, .int v7), (0, .ref (a 0)), (1, .int x1)]) hx hb dX5_laySizes_77 rfl hl (by decide) rfl (fun ls hl => ?_)
        refine lv_goto (tgt := 51) hx hb dX5_laySizes_78 (by decide) ?_
        exact ih x1 v7 uv4 hf H locs ls hG (lv_sub hl [1, 2, 0] rfl)
  have L50 : ∀ (rec27 : Int32 → MS → Option (MS)) (hr27 : ∀ (y1 : Int32) (uv : MS), rec27 y1 uv = some (uv') → ∀ (H : Heap) (locs : List Loc) (ls : Array Slot), xG D A s.heap (WM κ a uv) H locs → lv_has ls 3 [(0, .ref (a 0)), (1, .int y1)] → W p l e ({ frames := 2, cells := 0, slots := 0, locals := 46 } : Room) s m (([.ref (a 0)] : List Value).toArray) below meth c H locs 0 0 (MQ below (xQv D κ (WM κ a uv') A) (([.ref (a 0)] : List Value).toArray) s 0 0 A) (F0 m 27 ls [])), ∀ (x1 : Int32) (s0 : Int32) (uv : MS), f_X5_laySizes_50 rec27 x1 s0 uv = some (uv') → ∀ (H : Heap) (locs : List Loc) (ls : Array Slot), xG D A s.heap (WM κ a uv) H locs → lv_has ls 3 [(0, .ref (a 0)), (1, .int x1)] → W p l e ({ frames := 2, cells := 0, slots := 0, locals := 46 } : Room) s m (([.ref (a 0)] : List Value).toArray) below meth c H locs 0 0 (MQ below (xQv D κ (WM κ a uv') A) (([.ref (a 0)] : List Value).toArray) s 0 0 A) (F0 m 50 ls [.int s0]) := by
    intro rec27 hr27 x1 s0 uv hf H locs ls hG hl
    unfold f_X5_laySizes_50 at hf
    refine lv_istore_n (lv' := [(2, .int s0), (0, .ref (a 0)), (1, .int x1)]) hx hb dX5_laySizes_50 rfl hl (by decide) rfl (fun ls hl => ?_)
    exact L51 rec27 hr27 FU x1 s0 uv hf H locs ls hG (lv_sub hl [1, 2, 0] rfl)
  have L27 : ∀ (n : Nat), ∀ (x1 : Int32) (uv : MS), f_X5_laySizes_27 n x1 uv = some (uv') → ∀ (H : Heap) (locs : List Loc) (ls : Array Slot), xG D A s.heap (WM κ a uv) H locs → lv_has ls 3 [(0, .ref (a 0)), (1, .int x1)] → W p l e ({ frames := 2, cells := 0, slots := 0, locals := 46 } : Room) s m (([.ref (a 0)] : List Value).toArray) below meth c H locs 0 0 (MQ below (xQv D κ (WM κ a uv') A) (([.ref (a 0)] : List Value).toArray) s 0 0 A) (F0 m 27 ls []) := by
    intro  n
    induction n with
    | zero => intro x1 uv hf; cases hf
    | succ n ih =>
      intro x1 uv hf H locs ls hG hl
      replace hf : f_X5_laySizes_B27 (f_X5_laySizes_27 n) x1 uv = some (uv') := hf
      unfold f_X5_laySizes_B27 at hf
      refine lv_iload_n hx hb dX5_laySizes_27 rfl (lv_at hl 1 rfl) ?_
      refine lv_aload_n hx hb dX5_laySizes_28 rfl (lv_at hl 0 rfl) ?_
      refine x_get (C := RX5) (T := TX5) (N := 27) (ci := 5) hx hb hts iX5 hown hK hG 0 rfl rfl 2 (by decide) k13 (v := .ref (a 2)) rfl dX5_laySizes_29 ?_
      refine lv_iconst (v := 0) hx hb dX5_laySizes_32 (by decide) ?_
      obtain ⟨v8, ev8, hin, hf⟩ := ck_e hf
      refine x_iald hx hb hK hG 2 rfl ev8 hin dX5_laySizes_33 ?_
      refine lv_icmp_ge (tgt := 87) hx hb dX5_laySizes_34 (by decide) (fun c9 => ?_) (fun c9 => ?_)
      · replace hf := if_t c9 hf
        have z0 := Option.some.inj hf
        exact x_vret hx hb hr hlk hK hG (by rw [z0]) dX5_laySizes_87
      · replace hf := if_f c9 hf
        refine lv_aload_n hx hb dX5_laySizes_37 rfl (lv_at hl 0 rfl) ?_
        refine lv_iload_n hx hb dX5_laySizes_38 rfl (lv_at hl 1 rfl) ?_
        obtain ⟨r10, q11, hf⟩ := cl1_e hf
        refine x_callVi (pre := ([] : va_W)) (wc := WM κ a uv) (wc1 := WM κ a uv) (post := ([] : va_W)) (As := [.int x1]) (rest := []) (w1 := WM κ a uv) ⟨hx, hb, hml, hown, hts⟩ hK hG hA (by simp only [List.append_assoc, List.nil_append, List.append_nil]) (by simp only [List.append_assoc, List.nil_append, List.append_nil]) (c_X5_isItem l D κ a H.size x1 uv r10 q11) (cwV 1 hts gX5_laySizes_X5_isItem rfl rfl rfl (by decide +kernel) ⟨Nat.le_of_ble_eq_true rfl, Nat.le_of_ble_eq_true rfl⟩) 0 5 rfl rfl rfl rfl hl.1 rfl (Nat.le_of_ble_eq_true rfl) dX5_laySizes_39 ⟨Nat.zero_le _, Nat.zero_le _⟩ (fun H locs hG => ?_)
        refine lv_if_eq (tgt := 49) hx hb dX5_laySizes_42 (by decide) (fun c12 => ?_) (fun c12 => ?_)
        · replace hf := if_t c12 hf
          refine lv_iconst (v := (-1)) hx hb dX5_laySizes_49 (by decide) ?_
          exact L50 (f_X5_laySizes_27 n) ih  x1 ((-1)) uv hf H locs ls hG (lv_sub hl [0, 1] rfl)
        · replace hf := if_f c12 hf
          refine lv_iload_n hx hb dX5_laySizes_45 rfl (lv_at hl 1 rfl) ?_
          refine lv_goto (tgt := 50) hx hb dX5_laySizes_46 (by decide) ?_
          exact L50 (f_X5_laySizes_27 n) ih  x1 x1 uv hf H locs ls hG (lv_sub hl [0, 1] rfl)
  have L2 : ∀ (n : Nat), ∀ (x1 : Int32) (uv : MS), f_X5_laySizes_2 n x1 uv = some (uv') → ∀ (H : Heap) (locs : List Loc) (ls : Array Slot), xG D A s.heap (WM κ a uv) H locs → lv_has ls 3 [(0, .ref (a 0)), (1, .int x1)] → W p l e ({ frames := 2, cells := 0, slots := 0, locals := 46 } : Room) s m (([.ref (a 0)] : List Value).toArray) below meth c H locs 0 0 (MQ below (xQv D κ (WM κ a uv') A) (([.ref (a 0)] : List Value).toArray) s 0 0 A) (F0 m 2 ls []) := by
    intro  n
    induction n with
    | zero => intro x1 uv hf; cases hf
    | succ n ih =>
      intro x1 uv hf H locs ls hG hl
      replace hf : f_X5_laySizes_B2 (f_X5_laySizes_2 n) x1 uv = some (uv') := hf
      unfold f_X5_laySizes_B2 at hf
      refine lv_iload_n hx hb dX5_laySizes_2 rfl (lv_at hl 1 rfl) ?_
      refine lv_aload_n hx hb dX5_laySizes_3 rfl (lv_at hl 0 rfl) ?_
      refine x_get (C := RX5) (T := TX5) (N := 27) (ci := 5) hx hb hts iX5 hown hK hG 0 rfl rfl 2 (by decide) k13 (v := .ref (a 2)) rfl dX5_laySizes_4 ?_
      refine lv_iconst (v := 0) hx hb dX5_laySizes_7 (by decide) ?_
      obtain ⟨v13, ev13, hin, hf⟩ := ck_e hf
      refine x_iald hx hb hK hG 2 rfl ev13 hin dX5_laySizes_8 ?_
      refine lv_icmp_ge (tgt := 25) hx hb dX5_laySizes_9 (by decide) (fun c14 => ?_) (fun c14 => ?_)
      · replace hf := if_t c14 hf
        refine lv_iconst (v := 0) hx hb dX5_laySizes_25 (by decide) ?_
        refine lv_istore_n (lv' := [(1, .int 0), (0, .ref (a 0))]) hx hb dX5_laySizes_26 rfl hl (by decide) rfl (fun ls hl => ?_)
        exact L27  FU 0 uv hf H locs ls hG (lv_sub hl [1, 0] rfl)
      · replace hf := if_f c14 hf
        refine lv_aload_n hx hb dX5_laySizes_12 rfl (lv_at hl 0 rfl) ?_
        refine x_get (C := RX5) (T := TX5) (N := 27) (ci := 5) hx hb hts iX5 hown hK hG 0 rfl rfl 16 (by decide) k48 (v := .ref (a 13)) rfl dX5_laySizes_13 ?_
        refine lv_iload_n hx hb dX5_laySizes_16 rfl (lv_at hl 1 rfl) ?_
        refine lv_iconst (v := 0) hx hb dX5_laySizes_17 (by decide) ?_
        obtain ⟨uv15, euv15, hin, hf⟩ := ck_e hf
        refine x_iast hx hb hK hG 13 rfl (w1 := WM κ a uv15) (by rw [euv15]; rfl) hin dX5_laySizes_18 (fun H locs hG => ?_)
        obtain ⟨y16, ey16, hf⟩ := bnd_e hf
        refine lv_iinc (v := y16) (lv' := [(1, .int y16), (0, .ref (a 0))]) hx hb dX5_laySizes_19 hl (k := 1) rfl (by rw [ey16]; rfl) (by decide) rfl (fun ls hl => ?_)
        refine lv_goto (tgt := 2) hx hb dX5_laySizes_22 (by decide) ?_
        exact ih y16 uv15 hf H locs ls hG (lv_sub hl [1, 0] rfl)
  unfold f_X5_laySizes at hf
  refine lv_iconst (v := 0) hx hb dX5_laySizes_0 (by decide) ?_
  refine lv_istore_n (lv' := [(1, .int 0), (0, .ref (a 0))]) hx hb dX5_laySizes_1 rfl hl (by decide) rfl (fun ls hl => ?_)
  exact L2  FU 0 uv hf H locs ls hG (lv_sub hl [1, 0] rfl)
set_option maxRecDepth 100000 in
set_option maxHeartbeats 4000000 in
theorem c_X5_sizeOf (l : Launch) (D : va_G) (κ : Nat → ClassId) (a : Nat → Nat) (sz : Nat) (p1 : Int32) (uv : MS) (r' : Int32)  (hf : f_X5_sizeOf p1 uv = some (r')) : Met l yX5_sizeOf wsX5_sizeOf ({ frames := 0, cells := 0, slots := 0, locals := 0 } : Room) (xPc D κ [.ref (a 0), .int p1] (WM κ a uv) sz) (xQi D κ r' (WM κ a uv) (va_A (WM κ a uv) sz)) 0 0 (va_A (WM κ a uv) sz) := by
  refine x_ofW (cc := cX5_sizeOf) (maxL := 2) (ret := (some .int)) (Qf := fun A => xQi D κ r' (WM κ a uv) A) (by decide) rfl (Nat.le_of_ble_eq_true rfl) ?_
  intro p e s m below meth c hx hb hr hlk hml hown hts hK A hA H locs hG ls hl
  have hown : s.vm.findClass RX5 = some m.cls := hown
  have hl : lv_has ls 2 [(0, .ref (a 0)), (1, .int p1)] := hl
  have iX5 : ∀ w ∈ u_ws RX5 TX5 27, w ∈ wsX5_sizeOf := fun _ h => List.mem_cons_of_mem _ (List.mem_append_right _ h)
  have k48 := hts (.fieldLink RX5 48 "SpineDesksModel" "sizes" "[I") (List.mem_of_getElem? (i := 1) rfl)
  unfold f_X5_sizeOf at hf
  refine lv_iload_n hx hb dX5_sizeOf_0 rfl (lv_at hl 1 rfl) ?_
  refine lv_iconst (v := (-1)) hx hb dX5_sizeOf_1 (by decide) ?_
  refine lv_icmp_ne (tgt := 9) hx hb dX5_sizeOf_2 (by decide) (fun c1 => ?_) (fun c1 => ?_)
  · replace hf := if_f c1 hf
    refine lv_aload_n hx hb dX5_sizeOf_9 rfl (lv_at hl 0 rfl) ?_
    refine x_get (C := RX5) (T := TX5) (N := 27) (ci := 5) hx hb hts iX5 hown hK hG 0 rfl rfl 16 (by decide) k48 (v := .ref (a 13)) rfl dX5_sizeOf_10 ?_
    refine lv_iload_n hx hb dX5_sizeOf_13 rfl (lv_at hl 1 rfl) ?_
    obtain ⟨v2, ev2, hin, hf⟩ := ck_e hf
    refine x_iald hx hb hK hG 13 rfl ev2 hin dX5_sizeOf_14 ?_
    have z0 := Option.some.inj hf
    exact x_iret hx hb hr hlk hK hG z0 rfl dX5_sizeOf_15
  · replace hf := if_t c1 hf
    refine lv_iconst (v := 0) hx hb dX5_sizeOf_5 (by decide) ?_
    refine lv_goto (tgt := 15) hx hb dX5_sizeOf_6 (by decide) ?_
    have z0 := Option.some.inj hf
    exact x_iret hx hb hr hlk hK hG z0 rfl dX5_sizeOf_15
set_option maxRecDepth 100000 in
set_option maxHeartbeats 4000000 in
theorem c_X5_item (l : Launch) (D : va_G) (κ : Nat → ClassId) (a : Nat → Nat) (sz : Nat) (p1 : Int32) (p2 : Int32) (uv : MS) (r' : Int32) (uv' : MS) (hf : f_X5_item p1 p2 uv = some (r', uv')) : Met l yX5_item wsX5_item ({ frames := 3, cells := 0, slots := 0, locals := 68 } : Room) (xPc D κ [.ref (a 0), .int p1, .int p2] (WM κ a uv) sz) (xQi D κ r' (WM κ a uv') (va_A (WM κ a uv) sz)) 0 0 (va_A (WM κ a uv) sz) := by
  refine x_ofW (cc := cX5_item) (maxL := 4) (ret := (some .int)) (Qf := fun A => xQi D κ r' (WM κ a uv') A) (by decide) rfl (Nat.le_of_ble_eq_true rfl) ?_
  intro p e s m below meth c hx hb hr hlk hml hown hts hK A hA H locs hG ls hl
  have hown : s.vm.findClass RX5 = some m.cls := hown
  have hl : lv_has ls 4 [(0, .ref (a 0)), (1, .int p1), (2, .int p2)] := hl
  have iX5 : ∀ w ∈ u_ws RX5 TX5 27, w ∈ wsX5_item := fun _ h => List.mem_cons_of_mem _ (List.mem_append_right _ h)
  have k13 := hts (.fieldLink RX5 13 "SpineDesksModel" "row" "[I") (List.mem_of_getElem? (i := 1) rfl)
  have k48 := hts (.fieldLink RX5 48 "SpineDesksModel" "sizes" "[I") (List.mem_of_getElem? (i := 2) rfl)
  unfold f_X5_item at hf
  refine lv_aload_n hx hb dX5_item_0 rfl (lv_at hl 0 rfl) ?_
  refine lv_iload_n hx hb dX5_item_1 rfl (lv_at hl 1 rfl) ?_
  obtain ⟨r1, uv2, q3, hf⟩ := cl2_e hf
  refine x_callVi (pre := ([] : va_W)) (wc := WM κ a uv) (wc1 := WM κ a uv2) (post := ([] : va_W)) (As := [.int p1]) (rest := []) (w1 := WM κ a uv2) ⟨hx, hb, hml, hown, hts⟩ hK hG hA (by simp only [List.append_assoc, List.nil_append, List.append_nil]) (by simp only [List.append_assoc, List.nil_append, List.append_nil]) (c_X5_isThere l D κ a H.size p1 uv r1 uv2 q3) (cwV 1 hts gX5_item_X5_isThere rfl rfl rfl (by decide +kernel) ⟨Nat.le_of_ble_eq_true rfl, Nat.le_of_ble_eq_true rfl⟩) 0 5 rfl rfl rfl rfl hl.1 rfl (Nat.le_of_ble_eq_true rfl) dX5_item_2 ⟨Nat.zero_le _, Nat.zero_le _⟩ (fun H locs hG => ?_)
  refine lv_if_ne (tgt := 10) hx hb dX5_item_5 (by decide) (fun c4 => ?_) (fun c4 => ?_)
  · replace hf := if_f c4 hf
    refine lv_iload_n hx hb dX5_item_10 rfl (lv_at hl 1 rfl) ?_
    obtain ⟨r5, q6, hf⟩ := cl1_e hf
    refine x_callSi (pre := ([] : va_W)) (wc := ([] : va_W)) (wc1 := ([] : va_W)) (post := WM κ a uv2) (As := [.int p1]) (rest := []) (w1 := WM κ a uv2) ⟨hx, hb, hml, hown, hts⟩ hK hG hA (by simp only [List.append_assoc, List.nil_append, List.append_nil]) (by simp only [List.append_assoc, List.nil_append, List.append_nil]) (c_X5_at l D κ a H.size p1 r5 q6) (va_cwS 1 hts gX5_item_X5_at rfl rfl rfl (by decide +kernel) ⟨Nat.le_of_ble_eq_true rfl, Nat.le_of_ble_eq_true rfl⟩) rfl hl.1 rfl (Nat.le_of_ble_eq_true rfl) dX5_item_11 ⟨Nat.zero_le _, Nat.zero_le _⟩ (fun H locs hG => ?_)
    refine lv_istore_n (lv' := [(3, .int r5), (0, .ref (a 0)), (1, .int p1), (2, .int p2)]) hx hb dX5_item_14 rfl hl (by decide) rfl (fun ls hl => ?_)
    refine lv_iload_n hx hb dX5_item_15 rfl (lv_at hl 3 rfl) ?_
    by_cases c7 : p2 = 0
    · replace hf := if_t c7 hf
      refine lv_tableIn (tgt := 68) (off := 52) hx hb dX5_item_16 (by rw [c7]; decide) (by rw [c7]; decide) (by rw [c7]; rfl) (by decide) ?_
      refine lv_aload_n hx hb dX5_item_68 rfl (lv_at hl 1 rfl) ?_
      refine x_get (C := RX5) (T := TX5) (N := 27) (ci := 5) hx hb hts iX5 hown hK hG 0 rfl rfl 2 (by decide) k13 (v := .ref (a 2)) rfl dX5_item_69 ?_
      refine lv_iload_n hx hb dX5_item_72 rfl (lv_at hl 0 rfl) ?_
      refine lv_iconst (v := 0) hx hb dX5_item_73 (by decide) ?_
      refine lv_iadd hx hb dX5_item_74 ?_
      obtain ⟨v8, ev8, hin, hf⟩ := ck_e hf
      refine x_iald hx hb hK hG 2 rfl ev8 hin dX5_item_75 ?_
      have hz := Option.some.inj hf
      have z0 := (Prod.mk.inj hz).1
      replace hz := (Prod.mk.inj hz).2
      have z1 := hz
      exact x_iret hx hb hr hlk hK hG z0 (by rw [z1]) dX5_item_76
    replace hf := if_f c7 hf
    by_cases c9 : p2 = 1
    · replace hf := if_t c9 hf
      refine lv_tableIn (tgt := 77) (off := 61) hx hb dX5_item_16 (by rw [c9]; decide) (by rw [c9]; decide) (by rw [c9]; rfl) (by decide) ?_
      refine lv_aload_n hx hb dX5_item_77 rfl (lv_at hl 1 rfl) ?_
      refine x_get (C := RX5) (T := TX5) (N := 27) (ci := 5) hx hb hts iX5 hown hK hG 0 rfl rfl 2 (by decide) k13 (v := .ref (a 2)) rfl dX5_item_78 ?_
      refine lv_iload_n hx hb dX5_item_81 rfl (lv_at hl 0 rfl) ?_
      refine lv_iconst (v := 1) hx hb dX5_item_82 (by decide) ?_
      refine lv_iadd hx hb dX5_item_83 ?_
      obtain ⟨v10, ev10, hin, hf⟩ := ck_e hf
      refine x_iald hx hb hK hG 2 rfl ev10 hin dX5_item_84 ?_
      have hz := Option.some.inj hf
      have z0 := (Prod.mk.inj hz).1
      replace hz := (Prod.mk.inj hz).2
      have z1 := hz
      exact x_iret hx hb hr hlk hK hG z0 (by rw [z1]) dX5_item_85
    replace hf := if_f c9 hf
    by_cases c11 : p2 = 2
    · replace hf := if_t c11 hf
      refine lv_tableIn (tgt := 86) (off := 70) hx hb dX5_item_16 (by rw [c11]; decide) (by rw [c11]; decide) (by rw [c11]; rfl) (by decide) ?_
      refine lv_aload_n hx hb dX5_item_86 rfl (lv_at hl 1 rfl) ?_
      refine x_get (C := RX5) (T := TX5) (N := 27) (ci := 5) hx hb hts iX5 hown hK hG 0 rfl rfl 2 (by decide) k13 (v := .ref (a 2)) rfl dX5_item_87 ?_
      refine lv_iload_n hx hb dX5_item_90 rfl (lv_at hl 0 rfl) ?_
      refine lv_iconst (v := 2) hx hb dX5_item_91 (by decide) ?_
      refine lv_iadd hx hb dX5_item_92 ?_
      obtain ⟨v12, ev12, hin, hf⟩ := ck_e hf
      refine x_iald hx hb hK hG 2 rfl ev12 hin dX5_item_93 ?_
      have hz := Option.some.inj hf
      have z0 := (Prod.mk.inj hz).1
      replace hz := (Prod.mk.inj hz).2
      have z1 := hz
      exact x_iret hx hb hr hlk hK hG z0 (by rw [z1]) dX5_item_94
    replace hf := if_f c11 hf
    by_cases c13 : p2 = 3
    · replace hf := if_t c13 hf
      refine lv_tableIn (tgt := 95) (off := 79) hx hb dX5_item_16 (by rw [c13]; decide) (by rw [c13]; decide) (by rw [c13]; rfl) (by decide) ?_
      refine lv_aload_n hx hb dX5_item_95 rfl (lv_at hl 1 rfl) ?_
      refine x_get (C := RX5) (T := TX5) (N := 27) (ci := 5) hx hb hts iX5 hown hK hG 0 rfl rfl 2 (by decide) k13 (v := .ref (a 2)) rfl dX5_item_96 ?_
      refine lv_iload_n hx hb dX5_item_99 rfl (lv_at hl 0 rfl) ?_
      refine lv_bipush (v := 6) hx hb dX5_item_100 (by decide) ?_
      refine lv_iadd hx hb dX5_item_102 ?_
      obtain ⟨v14, ev14, hin, hf⟩ := ck_e hf
      refine x_iald hx hb hK hG 2 rfl ev14 hin dX5_item_103 ?_
      have hz := Option.some.inj hf
      have z0 := (Prod.mk.inj hz).1
      replace hz := (Prod.mk.inj hz).2
      have z1 := hz
      exact x_iret hx hb hr hlk hK hG z0 (by rw [z1]) dX5_item_104
    replace hf := if_f c13 hf
    by_cases c15 : p2 = 4
    · replace hf := if_t c15 hf
      refine lv_tableIn (tgt := 105) (off := 89) hx hb dX5_item_16 (by rw [c15]; decide) (by rw [c15]; decide) (by rw [c15]; rfl) (by decide) ?_
      refine lv_aload_n hx hb dX5_item_105 rfl (lv_at hl 1 rfl) ?_
      refine x_get (C := RX5) (T := TX5) (N := 27) (ci := 5) hx hb hts iX5 hown hK hG 0 rfl rfl 2 (by decide) k13 (v := .ref (a 2)) rfl dX5_item_106 ?_
      refine lv_iload_n hx hb dX5_item_109 rfl (lv_at hl 0 rfl) ?_
      refine lv_iconst (v := 3) hx hb dX5_item_110 (by decide) ?_
      refine lv_iadd hx hb dX5_item_111 ?_
      obtain ⟨v16, ev16, hin, hf⟩ := ck_e hf
      refine x_iald hx hb hK hG 2 rfl ev16 hin dX5_item_112 ?_
      have hz := Option.some.inj hf
      have z0 := (Prod.mk.inj hz).1
      replace hz := (Prod.mk.inj hz).2
      have z1 := hz
      exact x_iret hx hb hr hlk hK hG z0 (by rw [z1]) dX5_item_113
    replace hf := if_f c15 hf
    by_cases c17 : p2 = 5
    · replace hf := if_t c17 hf
      refine lv_tableIn (tgt := 114) (off := 98) hx hb dX5_item_16 (by rw [c17]; decide) (by rw [c17]; decide) (by rw [c17]; rfl) (by decide) ?_
      refine lv_aload_n hx hb dX5_item_114 rfl (lv_at hl 1 rfl) ?_
      refine x_get (C := RX5) (T := TX5) (N := 27) (ci := 5) hx hb hts iX5 hown hK hG 0 rfl rfl 2 (by decide) k13 (v := .ref (a 2)) rfl dX5_item_115 ?_
      refine lv_iload_n hx hb dX5_item_118 rfl (lv_at hl 0 rfl) ?_
      refine lv_iconst (v := 4) hx hb dX5_item_119 (by decide) ?_
      refine lv_iadd hx hb dX5_item_120 ?_
      obtain ⟨v18, ev18, hin, hf⟩ := ck_e hf
      refine x_iald hx hb hK hG 2 rfl ev18 hin dX5_item_121 ?_
      have hz := Option.some.inj hf
      have z0 := (Prod.mk.inj hz).1
      replace hz := (Prod.mk.inj hz).2
      have z1 := hz
      exact x_iret hx hb hr hlk hK hG z0 (by rw [z1]) dX5_item_122
    replace hf := if_f c17 hf
    by_cases c19 : p2 = 6
    · replace hf := if_t c19 hf
      refine lv_tableIn (tgt := 123) (off := 107) hx hb dX5_item_16 (by rw [c19]; decide) (by rw [c19]; decide) (by rw [c19]; rfl) (by decide) ?_
      refine lv_aload_n hx hb dX5_item_123 rfl (lv_at hl 1 rfl) ?_
      refine x_get (C := RX5) (T := TX5) (N := 27) (ci := 5) hx hb hts iX5 hown hK hG 0 rfl rfl 2 (by decide) k13 (v := .ref (a 2)) rfl dX5_item_124 ?_
      refine lv_iload_n hx hb dX5_item_127 rfl (lv_at hl 0 rfl) ?_
      refine lv_iconst (v := 5) hx hb dX5_item_128 (by decide) ?_
      refine lv_iadd hx hb dX5_item_129 ?_
      obtain ⟨v20, ev20, hin, hf⟩ := ck_e hf
      refine x_iald hx hb hK hG 2 rfl ev20 hin dX5_item_130 ?_
      have hz := Option.some.inj hf
      have z0 := (Prod.mk.inj hz).1
      replace hz := (Prod.mk.inj hz).2
      have z1 := hz
      exact x_iret hx hb hr hlk hK hG z0 (by rw [z1]) dX5_item_131
    replace hf := if_f c19 hf
    by_cases c21 : p2 = 7
    · replace hf := if_t c21 hf
      refine lv_tableIn (tgt := 132) (off := 116) hx hb dX5_item_16 (by rw [c21]; decide) (by rw [c21]; decide) (by rw [c21]; rfl) (by decide) ?_
      refine lv_aload_n hx hb dX5_item_132 rfl (lv_at hl 1 rfl) ?_
      refine lv_iload_n hx hb dX5_item_133 rfl (lv_at hl 2 rfl) ?_
      obtain ⟨r22, q23, hf⟩ := cl1_e hf
      refine x_callVi (pre := ([] : va_W)) (wc := WM κ a uv2) (wc1 := WM κ a uv2) (post := ([] : va_W)) (As := [.int p1]) (rest := []) (w1 := WM κ a uv2) ⟨hx, hb, hml, hown, hts⟩ hK hG hA (by simp only [List.append_assoc, List.nil_append, List.append_nil]) (by simp only [List.append_assoc, List.nil_append, List.append_nil]) (c_X5_deep l D κ a H.size p1 uv2 r22 q23) (cwV 1 hts gX5_item_X5_deep rfl rfl rfl (by decide +kernel) ⟨Nat.le_of_ble_eq_true rfl, Nat.le_of_ble_eq_true rfl⟩) 0 5 rfl rfl rfl rfl hl.1 rfl (Nat.le_of_ble_eq_true rfl) dX5_item_134 ⟨Nat.zero_le _, Nat.zero_le _⟩ (fun H locs hG => ?_)
      have hz := Option.some.inj hf
      have z0 := (Prod.mk.inj hz).1
      replace hz := (Prod.mk.inj hz).2
      have z1 := hz
      exact x_iret hx hb hr hlk hK hG z0 (by rw [z1]) dX5_item_137
    replace hf := if_f c21 hf
    by_cases c24 : p2 = 8
    · replace hf := if_t c24 hf
      refine lv_tableIn (tgt := 138) (off := 122) hx hb dX5_item_16 (by rw [c24]; decide) (by rw [c24]; decide) (by rw [c24]; rfl) (by decide) ?_
      refine lv_aload_n hx hb dX5_item_138 rfl (lv_at hl 1 rfl) ?_
      obtain ⟨uv25, q26, hf⟩ := cl1_e hf
      refine x_callVv (pre := ([] : va_W)) (wc := WM κ a uv2) (wc1 := WM κ a uv25) (post := ([] : va_W)) (As := []) (rest := []) (w1 := WM κ a uv25) ⟨hx, hb, hml, hown, hts⟩ hK hG hA (by simp only [List.append_assoc, List.nil_append, List.append_nil]) (by simp only [List.append_assoc, List.nil_append, List.append_nil]) (c_X5_laySizes l D κ a H.size uv2 uv25 q26) (cwV 0 hts gX5_item_X5_laySizes rfl rfl rfl (by decide +kernel) ⟨Nat.le_of_ble_eq_true rfl, Nat.le_of_ble_eq_true rfl⟩) 0 5 rfl rfl rfl rfl hl.1 rfl (Nat.le_of_ble_eq_true rfl) dX5_item_139 ⟨Nat.zero_le _, Nat.zero_le _⟩ (fun H locs hG => ?_)
      refine lv_aload_n hx hb dX5_item_142 rfl (lv_at hl 1 rfl) ?_
      refine x_get (C := RX5) (T := TX5) (N := 27) (ci := 5) hx hb hts iX5 hown hK hG 0 rfl rfl 16 (by decide) k48 (v := .ref (a 13)) rfl dX5_item_143 ?_
      refine lv_iload_n hx hb dX5_item_146 rfl (lv_at hl 2 rfl) ?_
      obtain ⟨v27, ev27, hin, hf⟩ := ck_e hf
      refine x_iald hx hb hK hG 13 rfl ev27 hin dX5_item_147 ?_
      have hz := Option.some.inj hf
      have z0 := (Prod.mk.inj hz).1
      replace hz := (Prod.mk.inj hz).2
      have z1 := hz
      exact x_iret hx hb hr hlk hK hG z0 (by rw [z1]) dX5_item_148
    replace hf := if_f c24 hf
    refine lv_tableOut (tgt := 149) hx hb dX5_item_16 (x_sw (k := 8) (by decide) (fun j hj => ?_)) (by decide) ?_
    · match j, hj with
      | 0, _ => exact c7
      | 1, _ => exact c9
      | 2, _ => exact c11
      | 3, _ => exact c13
      | 4, _ => exact c15
      | 5, _ => exact c17
      | 6, _ => exact c19
      | 7, _ => exact c21
      | 8, _ => exact c24
      | j + 9, hj => exact absurd hj (by omega)
    · refine lv_iconst (v := (-1)) hx hb dX5_item_149 (by decide) ?_
      have hz := Option.some.inj hf
      have z0 := (Prod.mk.inj hz).1
      replace hz := (Prod.mk.inj hz).2
      have z1 := hz
      exact x_iret hx hb hr hlk hK hG z0 (by rw [z1]) dX5_item_150
  · replace hf := if_t c4 hf
    refine lv_iconst (v := 0) hx hb dX5_item_8 (by decide) ?_
    have hz := Option.some.inj hf
    have z0 := (Prod.mk.inj hz).1
    replace hz := (Prod.mk.inj hz).2
    have z1 := hz
    exact x_iret hx hb hr hlk hK hG z0 (by rw [z1]) dX5_item_9
set_option maxRecDepth 100000 in
set_option maxHeartbeats 4000000 in
theorem c_X5_isOf (l : Launch) (D : va_G) (κ : Nat → ClassId) (a : Nat → Nat) (sz : Nat) (p1 : Int32) (p2 : Int32) (p3 : Int32) (uv : MS) (r' : Int32)  (hf : f_X5_isOf p1 p2 p3 uv = some (r')) : Met l yX5_isOf wsX5_isOf ({ frames := 2, cells := 0, slots := 0, locals := 41 } : Room) (xPc D κ [.ref (a 0), .int p1, .int p2, .int p3] (WM κ a uv) sz) (xQi D κ r' (WM κ a uv) (va_A (WM κ a uv) sz)) 0 0 (va_A (WM κ a uv) sz) := by
  refine x_ofW (cc := cX5_isOf) (maxL := 6) (ret := (some .boolean)) (Qf := fun A => xQi D κ r' (WM κ a uv) A) (by decide) rfl (Nat.le_of_ble_eq_true rfl) ?_
  intro p e s m below meth c hx hb hr hlk hml hown hts hK A hA H locs hG ls hl
  have hown : s.vm.findClass RX5 = some m.cls := hown
  have hl : lv_has ls 6 [(0, .ref (a 0)), (1, .int p1), (2, .int p2), (3, .int p3)] := hl
  have iX5 : ∀ w ∈ u_ws RX5 TX5 27, w ∈ wsX5_isOf := fun _ h => List.mem_cons_of_mem _ (List.mem_append_right _ h)
  have k13 := hts (.fieldLink RX5 13 "SpineDesksModel" "row" "[I") (List.mem_of_getElem? (i := 1) rfl)
  unfold f_X5_isOf at hf
  refine lv_aload_n hx hb dX5_isOf_0 rfl (lv_at hl 0 rfl) ?_
  refine lv_iload_n hx hb dX5_isOf_1 rfl (lv_at hl 1 rfl) ?_
  obtain ⟨r1, q2, hf⟩ := cl1_e hf
  refine x_callVi (pre := ([] : va_W)) (wc := WM κ a uv) (wc1 := WM κ a uv) (post := ([] : va_W)) (As := [.int p1]) (rest := []) (w1 := WM κ a uv) ⟨hx, hb, hml, hown, hts⟩ hK hG hA (by simp only [List.append_assoc, List.nil_append, List.append_nil]) (by simp only [List.append_assoc, List.nil_append, List.append_nil]) (c_X5_left l D κ a H.size p1 uv r1 q2) (cwV 1 hts gX5_isOf_X5_left rfl rfl rfl (by decide +kernel) ⟨Nat.le_of_ble_eq_true rfl, Nat.le_of_ble_eq_true rfl⟩) 0 5 rfl rfl rfl rfl hl.1 rfl (Nat.le_of_ble_eq_true rfl) dX5_isOf_2 ⟨Nat.zero_le _, Nat.zero_le _⟩ (fun H locs hG => ?_)
  refine lv_istore (lv' := [(4, .int r1), (0, .ref (a 0)), (1, .int p1), (2, .int p2), (3, .int p3)]) hx hb dX5_isOf_5 hl (by decide) rfl (fun ls hl => ?_)
  refine lv_aload_n hx hb dX5_isOf_7 rfl (lv_at hl 1 rfl) ?_
  refine lv_iload_n hx hb dX5_isOf_8 rfl (lv_at hl 2 rfl) ?_
  obtain ⟨r3, q4, hf⟩ := cl1_e hf
  refine x_callVi (pre := ([] : va_W)) (wc := WM κ a uv) (wc1 := WM κ a uv) (post := ([] : va_W)) (As := [.int p1]) (rest := []) (w1 := WM κ a uv) ⟨hx, hb, hml, hown, hts⟩ hK hG hA (by simp only [List.append_assoc, List.nil_append, List.append_nil]) (by simp only [List.append_assoc, List.nil_append, List.append_nil]) (c_X5_right l D κ a H.size p1 uv r3 q4) (cwV 1 hts gX5_isOf_X5_right rfl rfl rfl (by decide +kernel) ⟨Nat.le_of_ble_eq_true rfl, Nat.le_of_ble_eq_true rfl⟩) 0 5 rfl rfl rfl rfl hl.1 rfl (Nat.le_of_ble_eq_true rfl) dX5_isOf_9 ⟨Nat.zero_le _, Nat.zero_le _⟩ (fun H locs hG => ?_)
  refine lv_istore (lv' := [(5, .int r3), (4, .int r1), (0, .ref (a 0)), (1, .int p1), (2, .int p2), (3, .int p3)]) hx hb dX5_isOf_12 hl (by decide) rfl (fun ls hl => ?_)
  refine lv_aload_n hx hb dX5_isOf_14 rfl (lv_at hl 2 rfl) ?_
  refine x_get (C := RX5) (T := TX5) (N := 27) (ci := 5) hx hb hts iX5 hown hK hG 0 rfl rfl 2 (by decide) k13 (v := .ref (a 2)) rfl dX5_isOf_15 ?_
  refine lv_iload_n hx hb dX5_isOf_18 rfl (lv_at hl 3 rfl) ?_
  obtain ⟨r5, q6, hf⟩ := cl1_e hf
  refine x_callSi (pre := ([] : va_W)) (wc := ([] : va_W)) (wc1 := ([] : va_W)) (post := WM κ a uv) (As := [.int p1]) (rest := [.ref (a 2)]) (w1 := WM κ a uv) ⟨hx, hb, hml, hown, hts⟩ hK hG hA (by simp only [List.append_assoc, List.nil_append, List.append_nil]) (by simp only [List.append_assoc, List.nil_append, List.append_nil]) (c_X5_at l D κ a H.size p1 r5 q6) (va_cwS 1 hts gX5_isOf_X5_at rfl rfl rfl (by decide +kernel) ⟨Nat.le_of_ble_eq_true rfl, Nat.le_of_ble_eq_true rfl⟩) rfl hl.1 rfl (Nat.le_of_ble_eq_true rfl) dX5_isOf_19 ⟨Nat.zero_le _, Nat.zero_le _⟩ (fun H locs hG => ?_)
  refine lv_iconst (v := 1) hx hb dX5_isOf_22 (by decide) ?_
  refine lv_iadd hx hb dX5_isOf_23 ?_
  obtain ⟨v7, ev7, hin, hf⟩ := ck_e hf
  refine x_iald hx hb hK hG 2 rfl ev7 hin dX5_isOf_24 ?_
  refine lv_iload_n hx hb dX5_isOf_25 rfl (lv_at hl 4 rfl) ?_
  refine lv_icmp_ne (tgt := 93) hx hb dX5_isOf_26 (by decide) (fun c8 => ?_) (fun c8 => ?_)
  · replace hf := if_f c8 hf
    refine lv_iconst (v := 0) hx hb dX5_isOf_93 (by decide) ?_
    have z0 := Option.some.inj hf
    exact x_zret hx hb hr hlk hK hG (by decide) z0 rfl dX5_isOf_94
  · replace hf := if_t c8 hf
    refine lv_iload_n hx hb dX5_isOf_29 rfl (lv_at hl 5 rfl) ?_
    refine lv_bipush (v := 6) hx hb dX5_isOf_30 (by decide) ?_
    refine lv_icmp_ne (tgt := 53) hx hb dX5_isOf_32 (by decide) (fun c9 => ?_) (fun c9 => ?_)
    · replace hf := if_f c9 hf
      refine lv_iload_n hx hb dX5_isOf_53 rfl (lv_at hl 5 rfl) ?_
      refine lv_bipush (v := 7) hx hb dX5_isOf_54 (by decide) ?_
      refine lv_icmp_ne (tgt := 74) hx hb dX5_isOf_56 (by decide) (fun c10 => ?_) (fun c10 => ?_)
      · replace hf := if_f c10 hf
        refine lv_aload_n hx hb dX5_isOf_74 rfl (lv_at hl 2 rfl) ?_
        refine lv_iload hx hb dX5_isOf_75 (lv_at hl 0 rfl) ?_
        obtain ⟨r11, q12, hf⟩ := cl1_e hf
        refine x_callVi (pre := ([] : va_W)) (wc := WM κ a uv) (wc1 := WM κ a uv) (post := ([] : va_W)) (As := [.int r3]) (rest := []) (w1 := WM κ a uv) ⟨hx, hb, hml, hown, hts⟩ hK hG hA (by simp only [List.append_assoc, List.nil_append, List.append_nil]) (by simp only [List.append_assoc, List.nil_append, List.append_nil]) (c_X5_sizeOf l D κ a H.size r3 uv r11 q12) (cwV 1 hts gX5_isOf_X5_sizeOf rfl rfl rfl (by decide +kernel) ⟨Nat.le_of_ble_eq_true rfl, Nat.le_of_ble_eq_true rfl⟩) 0 5 rfl rfl rfl rfl hl.1 rfl (Nat.le_of_ble_eq_true rfl) dX5_isOf_77 ⟨Nat.zero_le _, Nat.zero_le _⟩ (fun H locs hG => ?_)
        refine lv_aload_n hx hb dX5_isOf_80 rfl (lv_at hl 2 rfl) ?_
        refine lv_iload hx hb dX5_isOf_81 (lv_at hl 1 rfl) ?_
        obtain ⟨r13, q14, hf⟩ := cl1_e hf
        refine x_callVi (pre := ([] : va_W)) (wc := WM κ a uv) (wc1 := WM κ a uv) (post := ([] : va_W)) (As := [.int r1]) (rest := [.int r11]) (w1 := WM κ a uv) ⟨hx, hb, hml, hown, hts⟩ hK hG hA (by simp only [List.append_assoc, List.nil_append, List.append_nil]) (by simp only [List.append_assoc, List.nil_append, List.append_nil]) (c_X5_sizeOf l D κ a H.size r1 uv r13 q14) (cwV 1 hts gX5_isOf_X5_sizeOf rfl rfl rfl (by decide +kernel) ⟨Nat.le_of_ble_eq_true rfl, Nat.le_of_ble_eq_true rfl⟩) 0 5 rfl rfl rfl rfl hl.1 rfl (Nat.le_of_ble_eq_true rfl) dX5_isOf_83 ⟨Nat.zero_le _, Nat.zero_le _⟩ (fun H locs hG => ?_)
        refine lv_icmp_le (tgt := 93) hx hb dX5_isOf_86 (by decide) (fun c15 => ?_) (fun c15 => ?_)
        · replace hf := if_t c15 hf
          refine lv_iconst (v := 0) hx hb dX5_isOf_93 (by decide) ?_
          have z0 := Option.some.inj hf
          exact x_zret hx hb hr hlk hK hG (by decide) z0 rfl dX5_isOf_94
        · replace hf := if_f c15 hf
          refine lv_iconst (v := 1) hx hb dX5_isOf_89 (by decide) ?_
          refine lv_goto (tgt := 94) hx hb dX5_isOf_90 (by decide) ?_
          have z0 := Option.some.inj hf
          exact x_zret hx hb hr hlk hK hG (by decide) z0 rfl dX5_isOf_94
      · replace hf := if_t c10 hf
        refine lv_iload hx hb dX5_isOf_59 (lv_at hl 1 rfl) ?_
        refine lv_iconst (v := (-1)) hx hb dX5_isOf_61 (by decide) ?_
        refine lv_icmp_ne (tgt := 93) hx hb dX5_isOf_62 (by decide) (fun c16 => ?_) (fun c16 => ?_)
        · replace hf := if_f c16 hf
          refine lv_iconst (v := 0) hx hb dX5_isOf_93 (by decide) ?_
          have z0 := Option.some.inj hf
          exact x_zret hx hb hr hlk hK hG (by decide) z0 rfl dX5_isOf_94
        · replace hf := if_t c16 hf
          refine lv_iload hx hb dX5_isOf_65 (lv_at hl 0 rfl) ?_
          refine lv_iconst (v := (-1)) hx hb dX5_isOf_67 (by decide) ?_
          refine lv_icmp_ne (tgt := 93) hx hb dX5_isOf_68 (by decide) (fun c17 => ?_) (fun c17 => ?_)
          · replace hf := if_f c17 hf
            refine lv_iconst (v := 0) hx hb dX5_isOf_93 (by decide) ?_
            have z0 := Option.some.inj hf
            exact x_zret hx hb hr hlk hK hG (by decide) z0 rfl dX5_isOf_94
          · replace hf := if_t c17 hf
            refine lv_goto (tgt := 89) hx hb dX5_isOf_71 (by decide) ?_
            refine lv_iconst (v := 1) hx hb dX5_isOf_89 (by decide) ?_
            refine lv_goto (tgt := 94) hx hb dX5_isOf_90 (by decide) ?_
            have z0 := Option.some.inj hf
            exact x_zret hx hb hr hlk hK hG (by decide) z0 rfl dX5_isOf_94
    · replace hf := if_t c9 hf
      refine lv_aload_n hx hb dX5_isOf_35 rfl (lv_at hl 2 rfl) ?_
      refine lv_iload hx hb dX5_isOf_36 (lv_at hl 1 rfl) ?_
      obtain ⟨r18, q19, hf⟩ := cl1_e hf
      refine x_callVi (pre := ([] : va_W)) (wc := WM κ a uv) (wc1 := WM κ a uv) (post := ([] : va_W)) (As := [.int r1]) (rest := []) (w1 := WM κ a uv) ⟨hx, hb, hml, hown, hts⟩ hK hG hA (by simp only [List.append_assoc, List.nil_append, List.append_nil]) (by simp only [List.append_assoc, List.nil_append, List.append_nil]) (c_X5_rank l D κ a H.size r1 uv r18 q19) (cwV 1 hts gX5_isOf_X5_rank rfl rfl rfl (by decide +kernel) ⟨Nat.le_of_ble_eq_true rfl, Nat.le_of_ble_eq_true rfl⟩) 0 5 rfl rfl rfl rfl hl.1 rfl (Nat.le_of_ble_eq_true rfl) dX5_isOf_38 ⟨Nat.zero_le _, Nat.zero_le _⟩ (fun H locs hG => ?_)
      refine lv_aload_n hx hb dX5_isOf_41 rfl (lv_at hl 2 rfl) ?_
      refine lv_iload hx hb dX5_isOf_42 (lv_at hl 0 rfl) ?_
      obtain ⟨r20, q21, hf⟩ := cl1_e hf
      refine x_callVi (pre := ([] : va_W)) (wc := WM κ a uv) (wc1 := WM κ a uv) (post := ([] : va_W)) (As := [.int r3]) (rest := [.int r18]) (w1 := WM κ a uv) ⟨hx, hb, hml, hown, hts⟩ hK hG hA (by simp only [List.append_assoc, List.nil_append, List.append_nil]) (by simp only [List.append_assoc, List.nil_append, List.append_nil]) (c_X5_rank l D κ a H.size r3 uv r20 q21) (cwV 1 hts gX5_isOf_X5_rank rfl rfl rfl (by decide +kernel) ⟨Nat.le_of_ble_eq_true rfl, Nat.le_of_ble_eq_true rfl⟩) 0 5 rfl rfl rfl rfl hl.1 rfl (Nat.le_of_ble_eq_true rfl) dX5_isOf_44 ⟨Nat.zero_le _, Nat.zero_le _⟩ (fun H locs hG => ?_)
      refine lv_icmp_ne (tgt := 93) hx hb dX5_isOf_47 (by decide) (fun c22 => ?_) (fun c22 => ?_)
      · replace hf := if_f c22 hf
        refine lv_iconst (v := 0) hx hb dX5_isOf_93 (by decide) ?_
        have z0 := Option.some.inj hf
        exact x_zret hx hb hr hlk hK hG (by decide) z0 rfl dX5_isOf_94
      · replace hf := if_t c22 hf
        refine lv_goto (tgt := 89) hx hb dX5_isOf_50 (by decide) ?_
        refine lv_iconst (v := 1) hx hb dX5_isOf_89 (by decide) ?_
        refine lv_goto (tgt := 94) hx hb dX5_isOf_90 (by decide) ?_
        have z0 := Option.some.inj hf
        exact x_zret hx hb hr hlk hK hG (by decide) z0 rfl dX5_isOf_94
set_option maxRecDepth 100000 in
set_option maxHeartbeats 4000000 in
theorem c_X5_ofItems (l : Launch) (D : va_G) (κ : Nat → ClassId) (a : Nat → Nat) (sz : Nat) (p1 : Int32) (p2 : Int32) (uv : MS) (r' : Int32) (uv' : MS) (hf : f_X5_ofItems p1 p2 uv = some (r', uv')) : Met l yX5_ofItems wsX5_ofItems ({ frames := 3, cells := 0, slots := 0, locals := 68 } : Room) (xPc D κ [.ref (a 0), .int p1, .int p2] (WM κ a uv) sz) (xQi D κ r' (WM κ a uv') (va_A (WM κ a uv) sz)) 0 0 (va_A (WM κ a uv) sz) := by
  refine x_ofW (cc := cX5_ofItems) (maxL := 5) (ret := (some .int)) (Qf := fun A => xQi D κ r' (WM κ a uv') A) (by decide) rfl (Nat.le_of_ble_eq_true rfl) ?_
  intro p e s m below meth c hx hb hr hlk hml hown hts hK A hA H locs hG ls hl
  have hown : s.vm.findClass RX5 = some m.cls := hown
  have hl : lv_has ls 5 [(0, .ref (a 0)), (1, .int p1), (2, .int p2)] := hl
  have iX5 : ∀ w ∈ u_ws RX5 TX5 27, w ∈ wsX5_ofItems := fun _ h => List.mem_cons_of_mem _ (List.mem_append_right _ h)
  have k13 := hts (.fieldLink RX5 13 "SpineDesksModel" "row" "[I") (List.mem_of_getElem? (i := 1) rfl)
  have L46 : ∀ (rec9 : Int32 → Int32 → Int32 → Int32 → MS → Option (Int32 × MS)) (hr9 : ∀ (y1 : Int32) (y2 : Int32) (y3 : Int32) (y4 : Int32) (uv : MS), rec9 y1 y2 y3 y4 uv = some (r', uv') → ∀ (H : Heap) (locs : List Loc) (ls : Array Slot), xG D A s.heap (WM κ a uv) H locs → lv_has ls 5 [(0, .ref (a 0)), (1, .int y1), (2, .int y2), (3, .int y3), (4, .int y4)] → W p l e ({ frames := 3, cells := 0, slots := 0, locals := 68 } : Room) s m (([.ref (a 0), .int p1, .int p2] : List Value).toArray) below meth c H locs 0 0 (MQ below (xQi D κ r' (WM κ a uv') A) (([.ref (a 0), .int p1, .int p2] : List Value).toArray) s 0 0 A) (F0 m 9 ls [])), ∀ (x1 : Int32) (x2 : Int32) (x4 : Int32) (s0 : Int32) (s1 : Int32) (uv : MS), f_X5_ofItems_46 rec9 x1 x2 x4 s0 s1 uv = some (r', uv') → ∀ (H : Heap) (locs : List Loc) (ls : Array Slot), xG D A s.heap (WM κ a uv) H locs → lv_has ls 5 [(0, .ref (a 0)), (1, .int x1), (2, .int x2), (4, .int x4)] → W p l e ({ frames := 3, cells := 0, slots := 0, locals := 68 } : Room) s m (([.ref (a 0), .int p1, .int p2] : List Value).toArray) below meth c H locs 0 0 (MQ below (xQi D κ r' (WM κ a uv') A) (([.ref (a 0), .int p1, .int p2] : List Value).toArray) s 0 0 A) (F0 m 46 ls [.int s1, .int s0]) := by
    intro rec9 hr9 x1 x2 x4 s0 s1 uv hf H locs ls hG hl
    unfold f_X5_ofItems_46 at hf
    refine lv_iadd hx hb dX5_ofItems_46 ?_
    refine lv_topi (fun y1 ey1 => ?_)
    replace hf := bnd_at ey1 hf
    refine lv_istore_n (lv' := [(3, .int y1), (0, .ref (a 0)), (1, .int x1), (2, .int x2), (4, .int x4)]) hx hb dX5_ofItems_47 rfl hl (by decide) rfl (fun ls hl => ?_)
    obtain ⟨y2, ey2, hf⟩ := bnd_e hf
    refine lv_iinc (v := y2) (lv' := [(4, .int y2), (3, .int y1), (0, .ref (a 0)), (1, .int x1), (2, .int x2)]) hx hb dX5_ofItems_48 hl (k := 4) rfl (by rw [ey2]; rfl) (by decide) rfl (fun ls hl => ?_)
    refine lv_goto (tgt := 9) hx hb dX5_ofItems_51 (by decide) ?_
    exact hr9 x1 x2 y1 y2 uv hf H locs ls hG (lv_sub hl [2, 3, 4, 1, 0] rfl)
  have L45 : ∀ (rec9 : Int32 → Int32 → Int32 → Int32 → MS → Option (Int32 × MS)) (hr9 : ∀ (y1 : Int32) (y2 : Int32) (y3 : Int32) (y4 : Int32) (uv : MS), rec9 y1 y2 y3 y4 uv = some (r', uv') → ∀ (H : Heap) (locs : List Loc) (ls : Array Slot), xG D A s.heap (WM κ a uv) H locs → lv_has ls 5 [(0, .ref (a 0)), (1, .int y1), (2, .int y2), (3, .int y3), (4, .int y4)] → W p l e ({ frames := 3, cells := 0, slots := 0, locals := 68 } : Room) s m (([.ref (a 0), .int p1, .int p2] : List Value).toArray) below meth c H locs 0 0 (MQ below (xQi D κ r' (WM κ a uv') A) (([.ref (a 0), .int p1, .int p2] : List Value).toArray) s 0 0 A) (F0 m 9 ls [])), ∀ (x1 : Int32) (x2 : Int32) (x4 : Int32) (s0 : Int32) (uv : MS), f_X5_ofItems_45 rec9 x1 x2 x4 s0 uv = some (r', uv') → ∀ (H : Heap) (locs : List Loc) (ls : Array Slot), xG D A s.heap (WM κ a uv) H locs → lv_has ls 5 [(0, .ref (a 0)), (1, .int x1), (2, .int x2), (4, .int x4)] → W p l e ({ frames := 3, cells := 0, slots := 0, locals := 68 } : Room) s m (([.ref (a 0), .int p1, .int p2] : List Value).toArray) below meth c H locs 0 0 (MQ below (xQi D κ r' (WM κ a uv') A) (([.ref (a 0), .int p1, .int p2] : List Value).toArray) s 0 0 A) (F0 m 45 ls [.int s0]) := by
    intro rec9 hr9 x1 x2 x4 s0 uv hf H locs ls hG hl
    unfold f_X5_ofItems_45 at hf
    refine lv_iconst (v := 0) hx hb dX5_ofItems_45 (by decide) ?_
    exact L46 rec9 hr9  x1 x2 x4 s0 0 uv hf H locs ls hG (lv_sub hl [0, 1, 2, 3] rfl)
  have L9 : ∀ (n : Nat), ∀ (x1 : Int32) (x2 : Int32) (x3 : Int32) (x4 : Int32) (uv : MS), f_X5_ofItems_9 n x1 x2 x3 x4 uv = some (r', uv') → ∀ (H : Heap) (locs : List Loc) (ls : Array Slot), xG D A s.heap (WM κ a uv) H locs → lv_has ls 5 [(0, .ref (a 0)), (1, .int x1), (2, .int x2), (3, .int x3), (4, .int x4)] → W p l e ({ frames := 3, cells := 0, slots := 0, locals := 68 } : Room) s m (([.ref (a 0), .int p1, .int p2] : List Value).toArray) below meth c H locs 0 0 (MQ below (xQi D κ r' (WM κ a uv') A) (([.ref (a 0), .int p1, .int p2] : List Value).toArray) s 0 0 A) (F0 m 9 ls []) := by
    intro  n
    induction n with
    | zero => intro x1 x2 x3 x4 uv hf; cases hf
    | succ n ih =>
      intro x1 x2 x3 x4 uv hf H locs ls hG hl
      replace hf : f_X5_ofItems_B9 (f_X5_ofItems_9 n) x1 x2 x3 x4 uv = some (r', uv') := hf
      unfold f_X5_ofItems_B9 at hf
      refine lv_iload hx hb dX5_ofItems_9 (lv_at hl 4 rfl) ?_
      refine lv_aload_n hx hb dX5_ofItems_11 rfl (lv_at hl 0 rfl) ?_
      refine x_get (C := RX5) (T := TX5) (N := 27) (ci := 5) hx hb hts iX5 hown hK hG 0 rfl rfl 2 (by decide) k13 (v := .ref (a 2)) rfl dX5_ofItems_12 ?_
      refine lv_iconst (v := 0) hx hb dX5_ofItems_15 (by decide) ?_
      obtain ⟨v3, ev3, hin, hf⟩ := ck_e hf
      refine x_iald hx hb hK hG 2 rfl ev3 hin dX5_ofItems_16 ?_
      refine lv_icmp_ge (tgt := 54) hx hb dX5_ofItems_17 (by decide) (fun c4 => ?_) (fun c4 => ?_)
      · replace hf := if_t c4 hf
        refine lv_iload_n hx hb dX5_ofItems_54 rfl (lv_at hl 3 rfl) ?_
        have hz := Option.some.inj hf
        have z0 := (Prod.mk.inj hz).1
        replace hz := (Prod.mk.inj hz).2
        have z1 := hz
        exact x_iret hx hb hr hlk hK hG z0 (by rw [z1]) dX5_ofItems_55
      · replace hf := if_f c4 hf
        refine lv_iload_n hx hb dX5_ofItems_20 rfl (lv_at hl 3 rfl) ?_
        refine lv_aload_n hx hb dX5_ofItems_21 rfl (lv_at hl 0 rfl) ?_
        refine lv_iload hx hb dX5_ofItems_22 (lv_at hl 4 rfl) ?_
        obtain ⟨r5, q6, hf⟩ := cl1_e hf
        refine x_callVi (pre := ([] : va_W)) (wc := WM κ a uv) (wc1 := WM κ a uv) (post := ([] : va_W)) (As := [.int x4]) (rest := [.int x3]) (w1 := WM κ a uv) ⟨hx, hb, hml, hown, hts⟩ hK hG hA (by simp only [List.append_assoc, List.nil_append, List.append_nil]) (by simp only [List.append_assoc, List.nil_append, List.append_nil]) (c_X5_isItem l D κ a H.size x4 uv r5 q6) (cwV 1 hts gX5_ofItems_X5_isItem rfl rfl rfl (by decide +kernel) ⟨Nat.le_of_ble_eq_true rfl, Nat.le_of_ble_eq_true rfl⟩) 0 5 rfl rfl rfl rfl hl.1 rfl (Nat.le_of_ble_eq_true rfl) dX5_ofItems_24 ⟨Nat.zero_le _, Nat.zero_le _⟩ (fun H locs hG => ?_)
        refine lv_if_eq (tgt := 45) hx hb dX5_ofItems_27 (by decide) (fun c7 => ?_) (fun c7 => ?_)
        · replace hf := if_t c7 hf
          exact L45 (f_X5_ofItems_9 n) ih  x1 x2 x4 x3 uv hf H locs ls hG (lv_sub hl [0, 1, 2, 4] rfl)
        · replace hf := if_f c7 hf
          refine lv_aload_n hx hb dX5_ofItems_30 rfl (lv_at hl 0 rfl) ?_
          refine lv_iload hx hb dX5_ofItems_31 (lv_at hl 4 rfl) ?_
          refine lv_iload_n hx hb dX5_ofItems_33 rfl (lv_at hl 1 rfl) ?_
          refine lv_iload_n hx hb dX5_ofItems_34 rfl (lv_at hl 2 rfl) ?_
          obtain ⟨r8, q9, hf⟩ := cl1_e hf
          refine x_callVi (pre := ([] : va_W)) (wc := WM κ a uv) (wc1 := WM κ a uv) (post := ([] : va_W)) (As := [.int x4, .int x1, .int x2]) (rest := [.int x3]) (w1 := WM κ a uv) ⟨hx, hb, hml, hown, hts⟩ hK hG hA (by simp only [List.append_assoc, List.nil_append, List.append_nil]) (by simp only [List.append_assoc, List.nil_append, List.append_nil]) (c_X5_isOf l D κ a H.size x4 x1 x2 uv r8 q9) (cwV 3 hts gX5_ofItems_X5_isOf rfl rfl rfl (by decide +kernel) ⟨Nat.le_of_ble_eq_true rfl, Nat.le_of_ble_eq_true rfl⟩) 0 5 rfl rfl rfl rfl hl.1 rfl (Nat.le_of_ble_eq_true rfl) dX5_ofItems_35 ⟨Nat.zero_le _, Nat.zero_le _⟩ (fun H locs hG => ?_)
          refine lv_if_eq (tgt := 45) hx hb dX5_ofItems_38 (by decide) (fun c10 => ?_) (fun c10 => ?_)
          · replace hf := if_t c10 hf
            exact L45 (f_X5_ofItems_9 n) ih  x1 x2 x4 x3 uv hf H locs ls hG (lv_sub hl [0, 1, 2, 4] rfl)
          · replace hf := if_f c10 hf
            refine lv_iconst (v := 1) hx hb dX5_ofItems_41 (by decide) ?_
            refine lv_goto (tgt := 46) hx hb dX5_ofItems_42 (by decide) ?_
            exact L46 (f_X5_ofItems_9 n) ih  x1 x2 x4 x3 1 uv hf H locs ls hG (lv_sub hl [0, 1, 2, 4] rfl)
  unfold f_X5_ofItems at hf
  refine lv_aload_n hx hb dX5_ofItems_0 rfl (lv_at hl 0 rfl) ?_
  obtain ⟨uv11, q12, hf⟩ := cl1_e hf
  refine x_callVv (pre := ([] : va_W)) (wc := WM κ a uv) (wc1 := WM κ a uv11) (post := ([] : va_W)) (As := []) (rest := []) (w1 := WM κ a uv11) ⟨hx, hb, hml, hown, hts⟩ hK hG hA (by simp only [List.append_assoc, List.nil_append, List.append_nil]) (by simp only [List.append_assoc, List.nil_append, List.append_nil]) (c_X5_laySizes l D κ a H.size uv uv11 q12) (cwV 0 hts gX5_ofItems_X5_laySizes rfl rfl rfl (by decide +kernel) ⟨Nat.le_of_ble_eq_true rfl, Nat.le_of_ble_eq_true rfl⟩) 0 5 rfl rfl rfl rfl hl.1 rfl (Nat.le_of_ble_eq_true rfl) dX5_ofItems_1 ⟨Nat.zero_le _, Nat.zero_le _⟩ (fun H locs hG => ?_)
  refine lv_iconst (v := 0) hx hb dX5_ofItems_4 (by decide) ?_
  refine lv_istore_n (lv' := [(3, .int 0), (0, .ref (a 0)), (1, .int p1), (2, .int p2)]) hx hb dX5_ofItems_5 rfl hl (by decide) rfl (fun ls hl => ?_)
  refine lv_iconst (v := 0) hx hb dX5_ofItems_6 (by decide) ?_
  refine lv_istore (lv' := [(4, .int 0), (3, .int 0), (0, .ref (a 0)), (1, .int p1), (2, .int p2)]) hx hb dX5_ofItems_7 hl (by decide) rfl (fun ls hl => ?_)
  exact L9  FU p1 p2 0 0 uv11 hf H locs ls hG (lv_sub hl [2, 3, 4, 1, 0] rfl)
set_option maxRecDepth 100000 in
set_option maxHeartbeats 4000000 in
theorem c_X5_highest (l : Launch) (D : va_G) (κ : Nat → ClassId) (a : Nat → Nat) (sz : Nat) (p1 : Int32) (uv : MS) (r' : Int32)  (hf : f_X5_highest p1 uv = some (r')) : Met l yX5_highest wsX5_highest ({ frames := 2, cells := 0, slots := 0, locals := 43 } : Room) (xPc D κ [.ref (a 0), .int p1] (WM κ a uv) sz) (xQi D κ r' (WM κ a uv) (va_A (WM κ a uv) sz)) 0 0 (va_A (WM κ a uv) sz) := by
  refine x_ofW (cc := cX5_highest) (maxL := 5) (ret := (some .int)) (Qf := fun A => xQi D κ r' (WM κ a uv) A) (by decide) rfl (Nat.le_of_ble_eq_true rfl) ?_
  intro p e s m below meth c hx hb hr hlk hml hown hts hK A hA H locs hG ls hl
  have hown : s.vm.findClass RX5 = some m.cls := hown
  have hl : lv_has ls 5 [(0, .ref (a 0)), (1, .int p1)] := hl
  have iX5 : ∀ w ∈ u_ws RX5 TX5 27, w ∈ wsX5_highest := fun _ h => List.mem_cons_of_mem _ (List.mem_append_right _ h)
  have k13 := hts (.fieldLink RX5 13 "SpineDesksModel" "row" "[I") (List.mem_of_getElem? (i := 1) rfl)
  have L54 : ∀ (rec4 : Int32 → Int32 → Int32 → Option (Int32)) (hr4 : ∀ (y1 : Int32) (y2 : Int32) (y3 : Int32), rec4 y1 y2 y3 = some (r') → ∀ (H : Heap) (locs : List Loc) (ls : Array Slot), xG D A s.heap (WM κ a uv) H locs → lv_has ls 5 [(0, .ref (a 0)), (1, .int y1), (2, .int y2), (3, .int y3)] → W p l e ({ frames := 2, cells := 0, slots := 0, locals := 43 } : Room) s m (([.ref (a 0), .int p1] : List Value).toArray) below meth c H locs 0 0 (MQ below (xQi D κ r' (WM κ a uv) A) (([.ref (a 0), .int p1] : List Value).toArray) s 0 0 A) (F0 m 4 ls [])), ∀ (x1 : Int32) (x3 : Int32) (s0 : Int32), f_X5_highest_54 uv rec4 x1 x3 s0 = some (r') → ∀ (H : Heap) (locs : List Loc) (ls : Array Slot), xG D A s.heap (WM κ a uv) H locs → lv_has ls 5 [(0, .ref (a 0)), (1, .int x1), (3, .int x3)] → W p l e ({ frames := 2, cells := 0, slots := 0, locals := 43 } : Room) s m (([.ref (a 0), .int p1] : List Value).toArray) below meth c H locs 0 0 (MQ below (xQi D κ r' (WM κ a uv) A) (([.ref (a 0), .int p1] : List Value).toArray) s 0 0 A) (F0 m 54 ls [.int s0]) := by
    intro rec4 hr4 x1 x3 s0 hf H locs ls hG hl
    unfold f_X5_highest_54 at hf
    refine lv_istore_n (lv' := [(2, .int s0), (0, .ref (a 0)), (1, .int x1), (3, .int x3)]) hx hb dX5_highest_54 rfl hl (by decide) rfl (fun ls hl => ?_)
    obtain ⟨y1, ey1, hf⟩ := bnd_e hf
    refine lv_iinc (v := y1) (lv' := [(3, .int y1), (2, .int s0), (0, .ref (a 0)), (1, .int x1)]) hx hb dX5_highest_55 hl (k := 3) rfl (by rw [ey1]; rfl) (by decide) rfl (fun ls hl => ?_)
    refine lv_goto (tgt := 4) hx hb dX5_highest_58 (by decide) ?_
    exact hr4 x1 s0 y1 hf H locs ls hG (lv_sub hl [2, 3, 1, 0] rfl)
  have L40 : ∀ (rec4 : Int32 → Int32 → Int32 → Option (Int32)) (hr4 : ∀ (y1 : Int32) (y2 : Int32) (y3 : Int32), rec4 y1 y2 y3 = some (r') → ∀ (H : Heap) (locs : List Loc) (ls : Array Slot), xG D A s.heap (WM κ a uv) H locs → lv_has ls 5 [(0, .ref (a 0)), (1, .int y1), (2, .int y2), (3, .int y3)] → W p l e ({ frames := 2, cells := 0, slots := 0, locals := 43 } : Room) s m (([.ref (a 0), .int p1] : List Value).toArray) below meth c H locs 0 0 (MQ below (xQi D κ r' (WM κ a uv) A) (([.ref (a 0), .int p1] : List Value).toArray) s 0 0 A) (F0 m 4 ls [])), ∀ (x1 : Int32) (x2 : Int32) (x3 : Int32) (s0 : Int32), f_X5_highest_40 uv rec4 x1 x2 x3 s0 = some (r') → ∀ (H : Heap) (locs : List Loc) (ls : Array Slot), xG D A s.heap (WM κ a uv) H locs → lv_has ls 5 [(0, .ref (a 0)), (1, .int x1), (2, .int x2), (3, .int x3)] → W p l e ({ frames := 2, cells := 0, slots := 0, locals := 43 } : Room) s m (([.ref (a 0), .int p1] : List Value).toArray) below meth c H locs 0 0 (MQ below (xQi D κ r' (WM κ a uv) A) (([.ref (a 0), .int p1] : List Value).toArray) s 0 0 A) (F0 m 40 ls [.int s0]) := by
    intro rec4 hr4 x1 x2 x3 s0 hf H locs ls hG hl
    unfold f_X5_highest_40 at hf
    refine lv_istore (lv' := [(4, .int s0), (0, .ref (a 0)), (1, .int x1), (2, .int x2), (3, .int x3)]) hx hb dX5_highest_40 hl (by decide) rfl (fun ls hl => ?_)
    refine lv_iload hx hb dX5_highest_42 (lv_at hl 0 rfl) ?_
    refine lv_iload_n hx hb dX5_highest_44 rfl (lv_at hl 3 rfl) ?_
    refine lv_icmp_le (tgt := 53) hx hb dX5_highest_45 (by decide) (fun c2 => ?_) (fun c2 => ?_)
    · replace hf := if_t c2 hf
      refine lv_iload_n hx hb dX5_highest_53 rfl (lv_at hl 3 rfl) ?_
      exact L54 rec4 hr4  x1 x3 x2 hf H locs ls hG (lv_sub hl [1, 2, 4] rfl)
    · replace hf := if_f c2 hf
      refine lv_iload hx hb dX5_highest_48 (lv_at hl 0 rfl) ?_
      refine lv_goto (tgt := 54) hx hb dX5_highest_50 (by decide) ?_
      exact L54 rec4 hr4  x1 x3 s0 hf H locs ls hG (lv_sub hl [1, 2, 4] rfl)
  have L4 : ∀ (n : Nat), ∀ (x1 : Int32) (x2 : Int32) (x3 : Int32), f_X5_highest_4 uv n x1 x2 x3 = some (r') → ∀ (H : Heap) (locs : List Loc) (ls : Array Slot), xG D A s.heap (WM κ a uv) H locs → lv_has ls 5 [(0, .ref (a 0)), (1, .int x1), (2, .int x2), (3, .int x3)] → W p l e ({ frames := 2, cells := 0, slots := 0, locals := 43 } : Room) s m (([.ref (a 0), .int p1] : List Value).toArray) below meth c H locs 0 0 (MQ below (xQi D κ r' (WM κ a uv) A) (([.ref (a 0), .int p1] : List Value).toArray) s 0 0 A) (F0 m 4 ls []) := by
    intro  n
    induction n with
    | zero => intro x1 x2 x3 hf; cases hf
    | succ n ih =>
      intro x1 x2 x3 hf H locs ls hG hl
      replace hf : f_X5_highest_B4 uv (f_X5_highest_4 uv n) x1 x2 x3 = some (r') := hf
      unfold f_X5_highest_B4 at hf
      refine lv_iload_n hx hb dX5_highest_4 rfl (lv_at hl 3 rfl) ?_
      refine lv_aload_n hx hb dX5_highest_5 rfl (lv_at hl 0 rfl) ?_
      refine x_get (C := RX5) (T := TX5) (N := 27) (ci := 5) hx hb hts iX5 hown hK hG 0 rfl rfl 2 (by decide) k13 (v := .ref (a 2)) rfl dX5_highest_6 ?_
      refine lv_iconst (v := 0) hx hb dX5_highest_9 (by decide) ?_
      obtain ⟨v3, ev3, hin, hf⟩ := ck_e hf
      refine x_iald hx hb hK hG 2 rfl ev3 hin dX5_highest_10 ?_
      refine lv_icmp_ge (tgt := 61) hx hb dX5_highest_11 (by decide) (fun c4 => ?_) (fun c4 => ?_)
      · replace hf := if_t c4 hf
        refine lv_iload_n hx hb dX5_highest_61 rfl (lv_at hl 2 rfl) ?_
        have z0 := Option.some.inj hf
        exact x_iret hx hb hr hlk hK hG z0 rfl dX5_highest_62
      · replace hf := if_f c4 hf
        refine lv_aload_n hx hb dX5_highest_14 rfl (lv_at hl 0 rfl) ?_
        refine x_get (C := RX5) (T := TX5) (N := 27) (ci := 5) hx hb hts iX5 hown hK hG 0 rfl rfl 2 (by decide) k13 (v := .ref (a 2)) rfl dX5_highest_15 ?_
        refine lv_iload_n hx hb dX5_highest_18 rfl (lv_at hl 3 rfl) ?_
        obtain ⟨r5, q6, hf⟩ := cl1_e hf
        refine x_callSi (pre := ([] : va_W)) (wc := ([] : va_W)) (wc1 := ([] : va_W)) (post := WM κ a uv) (As := [.int x3]) (rest := [.ref (a 2)]) (w1 := WM κ a uv) ⟨hx, hb, hml, hown, hts⟩ hK hG hA (by simp only [List.append_assoc, List.nil_append, List.append_nil]) (by simp only [List.append_assoc, List.nil_append, List.append_nil]) (c_X5_at l D κ a H.size x3 r5 q6) (va_cwS 1 hts gX5_highest_X5_at rfl rfl rfl (by decide +kernel) ⟨Nat.le_of_ble_eq_true rfl, Nat.le_of_ble_eq_true rfl⟩) rfl hl.1 rfl (Nat.le_of_ble_eq_true rfl) dX5_highest_19 ⟨Nat.zero_le _, Nat.zero_le _⟩ (fun H locs hG => ?_)
        refine lv_iconst (v := 1) hx hb dX5_highest_22 (by decide) ?_
        refine lv_iadd hx hb dX5_highest_23 ?_
        obtain ⟨v7, ev7, hin, hf⟩ := ck_e hf
        refine x_iald hx hb hK hG 2 rfl ev7 hin dX5_highest_24 ?_
        refine lv_iload_n hx hb dX5_highest_25 rfl (lv_at hl 1 rfl) ?_
        refine lv_icmp_ne (tgt := 39) hx hb dX5_highest_26 (by decide) (fun c8 => ?_) (fun c8 => ?_)
        · replace hf := if_f c8 hf
          refine lv_iconst (v := 0) hx hb dX5_highest_39 (by decide) ?_
          exact L40 (f_X5_highest_4 uv n) ih  x1 x2 x3 0 hf H locs ls hG (lv_sub hl [0, 1, 2, 3] rfl)
        · replace hf := if_t c8 hf
          refine lv_aload_n hx hb dX5_highest_29 rfl (lv_at hl 0 rfl) ?_
          refine lv_iload_n hx hb dX5_highest_30 rfl (lv_at hl 3 rfl) ?_
          obtain ⟨r9, q10, hf⟩ := cl1_e hf
          refine x_callVi (pre := ([] : va_W)) (wc := WM κ a uv) (wc1 := WM κ a uv) (post := ([] : va_W)) (As := [.int x3]) (rest := []) (w1 := WM κ a uv) ⟨hx, hb, hml, hown, hts⟩ hK hG hA (by simp only [List.append_assoc, List.nil_append, List.append_nil]) (by simp only [List.append_assoc, List.nil_append, List.append_nil]) (c_X5_deep l D κ a H.size x3 uv r9 q10) (cwV 1 hts gX5_highest_X5_deep rfl rfl rfl (by decide +kernel) ⟨Nat.le_of_ble_eq_true rfl, Nat.le_of_ble_eq_true rfl⟩) 0 5 rfl rfl rfl rfl hl.1 rfl (Nat.le_of_ble_eq_true rfl) dX5_highest_31 ⟨Nat.zero_le _, Nat.zero_le _⟩ (fun H locs hG => ?_)
          refine lv_iconst (v := 1) hx hb dX5_highest_34 (by decide) ?_
          refine lv_iadd hx hb dX5_highest_35 ?_
          refine lv_goto (tgt := 40) hx hb dX5_highest_36 (by decide) ?_
          exact L40 (f_X5_highest_4 uv n) ih  x1 x2 x3 (r9 + 1) hf H locs ls hG (lv_sub hl [0, 1, 2, 3] rfl)
  unfold f_X5_highest at hf
  refine lv_iconst (v := 0) hx hb dX5_highest_0 (by decide) ?_
  refine lv_istore_n (lv' := [(2, .int 0), (0, .ref (a 0)), (1, .int p1)]) hx hb dX5_highest_1 rfl hl (by decide) rfl (fun ls hl => ?_)
  refine lv_iconst (v := 0) hx hb dX5_highest_2 (by decide) ?_
  refine lv_istore_n (lv' := [(3, .int 0), (2, .int 0), (0, .ref (a 0)), (1, .int p1)]) hx hb dX5_highest_3 rfl hl (by decide) rfl (fun ls hl => ?_)
  exact L4  FU p1 0 0 hf H locs ls hG (lv_sub hl [2, 3, 1, 0] rfl)
set_option maxRecDepth 100000 in
set_option maxHeartbeats 4000000 in
theorem c_X5_desk (l : Launch) (D : va_G) (κ : Nat → ClassId) (a : Nat → Nat) (sz : Nat) (p1 : Int32) (p2 : Int32) (uv : MS) (r' : Int32) (uv' : MS) (hf : f_X5_desk p1 p2 uv = some (r', uv')) : Met l yX5_desk wsX5_desk ({ frames := 4, cells := 0, slots := 0, locals := 92 } : Room) (xPc D κ [.ref (a 0), .int p1, .int p2] (WM κ a uv) sz) (xQi D κ r' (WM κ a uv') (va_A (WM κ a uv) sz)) 0 0 (va_A (WM κ a uv) sz) := by
  refine x_ofW (cc := cX5_desk) (maxL := 6) (ret := (some .int)) (Qf := fun A => xQi D κ r' (WM κ a uv') A) (by decide) rfl (Nat.le_of_ble_eq_true rfl) ?_
  intro p e s m below meth c hx hb hr hlk hml hown hts hK A hA H locs hG ls hl
  have hown : s.vm.findClass RX5 = some m.cls := hown
  have hl : lv_has ls 6 [(0, .ref (a 0)), (1, .int p1), (2, .int p2)] := hl
  have iX5 : ∀ w ∈ u_ws RX5 TX5 27, w ∈ wsX5_desk := fun _ h => List.mem_cons_of_mem _ (List.mem_append_right _ h)
  have k13 := hts (.fieldLink RX5 13 "SpineDesksModel" "row" "[I") (List.mem_of_getElem? (i := 3) rfl)
  have k219 := hts (.constantLong RX5 219 (8)) (List.mem_of_getElem? (i := 2) rfl)
  have k63 := hts (.fieldLink RX5 63 "SpineDesksModel" "thrown" "I") (List.mem_of_getElem? (i := 1) rfl)
  have L117 : ∀ (n : Nat), ∀ (x4 : Int32) (x5 : Int32) (uv : MS), f_X5_desk_117 n x4 x5 uv = some (r', uv') → ∀ (H : Heap) (locs : List Loc) (ls : Array Slot), xG D A s.heap (WM κ a uv) H locs → lv_has ls 6 [(0, .ref (a 0)), (4, .int x4), (5, .int x5)] → W p l e ({ frames := 4, cells := 0, slots := 0, locals := 92 } : Room) s m (([.ref (a 0), .int p1, .int p2] : List Value).toArray) below meth c H locs 0 0 (MQ below (xQi D κ r' (WM κ a uv') A) (([.ref (a 0), .int p1, .int p2] : List Value).toArray) s 0 0 A) (F0 m 117 ls []) := by
    intro  n
    induction n with
    | zero => intro x4 x5 uv hf; cases hf
    | succ n ih =>
      intro x4 x5 uv hf H locs ls hG hl
      replace hf : f_X5_desk_B117 (f_X5_desk_117 n) x4 x5 uv = some (r', uv') := hf
      unfold f_X5_desk_B117 at hf
      refine lv_iload hx hb dX5_desk_117 (lv_at hl 2 rfl) ?_
      refine lv_iconst (v := (-1)) hx hb dX5_desk_119 (by decide) ?_
      refine lv_icmp_eq (tgt := 137) hx hb dX5_desk_120 (by decide) (fun c1 => ?_) (fun c1 => ?_)
      · replace hf := if_t c1 hf
        refine lv_iload hx hb dX5_desk_137 (lv_at hl 1 rfl) ?_
        have hz := Option.some.inj hf
        have z0 := (Prod.mk.inj hz).1
        replace hz := (Prod.mk.inj hz).2
        have z1 := hz
        exact x_iret hx hb hr hlk hK hG z0 (by rw [z1]) dX5_desk_139
      · replace hf := if_f c1 hf
        obtain ⟨y2, ey2, hf⟩ := bnd_e hf
        refine lv_iinc (v := y2) (lv' := [(4, .int y2), (0, .ref (a 0)), (5, .int x5)]) hx hb dX5_desk_123 hl (k := 1) rfl (by rw [ey2]; rfl) (by decide) rfl (fun ls hl => ?_)
        refine lv_aload_n hx hb dX5_desk_126 rfl (lv_at hl 1 rfl) ?_
        refine lv_iload hx hb dX5_desk_127 (lv_at hl 2 rfl) ?_
        obtain ⟨r3, q4, hf⟩ := cl1_e hf
        refine x_callVi (pre := ([] : va_W)) (wc := WM κ a uv) (wc1 := WM κ a uv) (post := ([] : va_W)) (As := [.int x5]) (rest := []) (w1 := WM κ a uv) ⟨hx, hb, hml, hown, hts⟩ hK hG hA (by simp only [List.append_assoc, List.nil_append, List.append_nil]) (by simp only [List.append_assoc, List.nil_append, List.append_nil]) (c_X5_right l D κ a H.size x5 uv r3 q4) (cwV 1 hts gX5_desk_X5_right rfl rfl rfl (by decide +kernel) ⟨Nat.le_of_ble_eq_true rfl, Nat.le_of_ble_eq_true rfl⟩) 0 5 rfl rfl rfl rfl hl.1 rfl (Nat.le_of_ble_eq_true rfl) dX5_desk_129 ⟨Nat.zero_le _, Nat.zero_le _⟩ (fun H locs hG => ?_)
        refine lv_istore (lv' := [(5, .int r3), (4, .int y2), (0, .ref (a 0))]) hx hb dX5_desk_132 hl (by decide) rfl (fun ls hl => ?_)
        refine lv_goto (tgt := 117) hx hb dX5_desk_134 (by decide) ?_
        exact ih y2 r3 uv hf H locs ls hG (lv_sub hl [2, 1, 0] rfl)
  unfold f_X5_desk at hf
  refine lv_aload_n hx hb dX5_desk_0 rfl (lv_at hl 0 rfl) ?_
  refine lv_iconst (v := 0) hx hb dX5_desk_1 (by decide) ?_
  obtain ⟨uv5, euv5, hf⟩ := bnd_e hf
  refine x_put (C := RX5) (T := TX5) (N := 27) (ci := 5) hx hb hts iX5 tyX5 tyX5_ok nmX5 hown hK hG 0 rfl rfl 0 (by decide) k63 rfl (ty := .int) (v := .int 0) rfl rfl rfl (Nat.le_of_ble_eq_true rfl) (w1 := WM κ a uv5) (by rw [euv5]; rfl) dX5_desk_2 (fun H locs hG => ?_)
  refine lv_iload_n hx hb dX5_desk_5 rfl (lv_at hl 1 rfl) ?_
  obtain ⟨r6, q7, hf⟩ := cl1_e hf
  refine x_callSi (pre := ([] : va_W)) (wc := ([] : va_W)) (wc1 := ([] : va_W)) (post := WM κ a uv5) (As := [.int p1]) (rest := []) (w1 := WM κ a uv5) ⟨hx, hb, hml, hown, hts⟩ hK hG hA (by simp only [List.append_assoc, List.nil_append, List.append_nil]) (by simp only [List.append_assoc, List.nil_append, List.append_nil]) (c_X5_isDesk l D κ a H.size p1 r6 q7) (va_cwS 1 hts gX5_desk_X5_isDesk rfl rfl rfl (by decide +kernel) ⟨Nat.le_of_ble_eq_true rfl, Nat.le_of_ble_eq_true rfl⟩) rfl hl.1 rfl (Nat.le_of_ble_eq_true rfl) dX5_desk_6 ⟨Nat.zero_le _, Nat.zero_le _⟩ (fun H locs hG => ?_)
  refine lv_if_eq (tgt := 24) hx hb dX5_desk_9 (by decide) (fun c8 => ?_) (fun c8 => ?_)
  · replace hf := if_t c8 hf
    refine lv_iconst (v := (-1)) hx hb dX5_desk_24 (by decide) ?_
    have hz := Option.some.inj hf
    have z0 := (Prod.mk.inj hz).1
    replace hz := (Prod.mk.inj hz).2
    have z1 := hz
    exact x_iret hx hb hr hlk hK hG z0 (by rw [z1]) dX5_desk_25
  · replace hf := if_f c8 hf
    refine lv_iload_n hx hb dX5_desk_12 rfl (lv_at hl 2 rfl) ?_
    refine lv_i2l hx hb dX5_desk_13 rfl ?_
    refine lv_lconst (v := 0) hx hb dX5_desk_14 (by decide) ?_
    refine lv_ldc2 (v := 8) hx hb hown k219 dX5_desk_15 ?_
    obtain ⟨r9, q10, hf⟩ := cl1_e hf
    refine x_callSi (pre := ([] : va_W)) (wc := ([] : va_W)) (wc1 := ([] : va_W)) (post := WM κ a uv5) (As := [.long (p2.toInt64), .long 0, .long 8]) (rest := []) (w1 := WM κ a uv5) ⟨hx, hb, hml, hown, hts⟩ hK hG hA (by simp only [List.append_assoc, List.nil_append, List.append_nil]) (by simp only [List.append_assoc, List.nil_append, List.append_nil]) (c_X5_in l D κ a H.size (p2.toInt64) 0 8 r9 q10) (va_cwS 3 hts gX5_desk_X5_in rfl rfl rfl (by decide +kernel) ⟨Nat.le_of_ble_eq_true rfl, Nat.le_of_ble_eq_true rfl⟩) rfl hl.1 rfl (Nat.le_of_ble_eq_true rfl) dX5_desk_18 ⟨Nat.zero_le _, Nat.zero_le _⟩ (fun H locs hG => ?_)
    refine lv_if_ne (tgt := 26) hx hb dX5_desk_21 (by decide) (fun c11 => ?_) (fun c11 => ?_)
    · replace hf := if_f c11 hf
      refine lv_aload_n hx hb dX5_desk_26 rfl (lv_at hl 0 rfl) ?_
      refine x_get (C := RX5) (T := TX5) (N := 27) (ci := 5) hx hb hts iX5 hown hK hG 0 rfl rfl 2 (by decide) k13 (v := .ref (a 2)) rfl dX5_desk_27 ?_
      refine lv_iconst (v := 4) hx hb dX5_desk_30 (by decide) ?_
      refine lv_iload_n hx hb dX5_desk_31 rfl (lv_at hl 1 rfl) ?_
      refine lv_iadd hx hb dX5_desk_32 ?_
      obtain ⟨v12, ev12, hin, hf⟩ := ck_e hf
      refine x_iald hx hb hK hG 2 rfl ev12 hin dX5_desk_33 ?_
      refine lv_istore_n (lv' := [(3, .int v12), (0, .ref (a 0)), (1, .int p1), (2, .int p2)]) hx hb dX5_desk_34 rfl hl (by decide) rfl (fun ls hl => ?_)
      refine lv_iload_n hx hb dX5_desk_35 rfl (lv_at hl 3 rfl) ?_
      by_cases c13 : p2 = 0
      · replace hf := if_t c13 hf
        refine lv_tableIn (tgt := 76) (off := 40) hx hb dX5_desk_36 (by rw [c13]; decide) (by rw [c13]; decide) (by rw [c13]; rfl) (by decide) ?_
        refine lv_iload_n hx hb dX5_desk_76 rfl (lv_at hl 0 rfl) ?_
        have hz := Option.some.inj hf
        have z0 := (Prod.mk.inj hz).1
        replace hz := (Prod.mk.inj hz).2
        have z1 := hz
        exact x_iret hx hb hr hlk hK hG z0 (by rw [z1]) dX5_desk_77
      replace hf := if_f c13 hf
      by_cases c14 : p2 = 1
      · replace hf := if_t c14 hf
        refine lv_tableIn (tgt := 78) (off := 42) hx hb dX5_desk_36 (by rw [c14]; decide) (by rw [c14]; decide) (by rw [c14]; rfl) (by decide) ?_
        refine lv_aload_n hx hb dX5_desk_78 rfl (lv_at hl 1 rfl) ?_
        refine lv_iload_n hx hb dX5_desk_79 rfl (lv_at hl 2 rfl) ?_
        refine lv_iconst (v := 0) hx hb dX5_desk_80 (by decide) ?_
        obtain ⟨r15, q16, hf⟩ := cl1_e hf
        refine x_callVi (pre := ([] : va_W)) (wc := WM κ a uv5) (wc1 := WM κ a uv5) (post := ([] : va_W)) (As := [.int p1, .int 0]) (rest := []) (w1 := WM κ a uv5) ⟨hx, hb, hml, hown, hts⟩ hK hG hA (by simp only [List.append_assoc, List.nil_append, List.append_nil]) (by simp only [List.append_assoc, List.nil_append, List.append_nil]) (c_X5_many l D κ a H.size p1 0 uv5 r15 q16) (cwV 2 hts gX5_desk_X5_many rfl rfl rfl (by decide +kernel) ⟨Nat.le_of_ble_eq_true rfl, Nat.le_of_ble_eq_true rfl⟩) 0 5 rfl rfl rfl rfl hl.1 rfl (Nat.le_of_ble_eq_true rfl) dX5_desk_81 ⟨Nat.zero_le _, Nat.zero_le _⟩ (fun H locs hG => ?_)
        have hz := Option.some.inj hf
        have z0 := (Prod.mk.inj hz).1
        replace hz := (Prod.mk.inj hz).2
        have z1 := hz
        exact x_iret hx hb hr hlk hK hG z0 (by rw [z1]) dX5_desk_84
      replace hf := if_f c14 hf
      by_cases c17 : p2 = 2
      · replace hf := if_t c17 hf
        refine lv_tableIn (tgt := 85) (off := 49) hx hb dX5_desk_36 (by rw [c17]; decide) (by rw [c17]; decide) (by rw [c17]; rfl) (by decide) ?_
        refine lv_aload_n hx hb dX5_desk_85 rfl (lv_at hl 1 rfl) ?_
        refine lv_iload_n hx hb dX5_desk_86 rfl (lv_at hl 2 rfl) ?_
        refine lv_iconst (v := 1) hx hb dX5_desk_87 (by decide) ?_
        obtain ⟨r18, q19, hf⟩ := cl1_e hf
        refine x_callVi (pre := ([] : va_W)) (wc := WM κ a uv5) (wc1 := WM κ a uv5) (post := ([] : va_W)) (As := [.int p1, .int 1]) (rest := []) (w1 := WM κ a uv5) ⟨hx, hb, hml, hown, hts⟩ hK hG hA (by simp only [List.append_assoc, List.nil_append, List.append_nil]) (by simp only [List.append_assoc, List.nil_append, List.append_nil]) (c_X5_many l D κ a H.size p1 1 uv5 r18 q19) (cwV 2 hts gX5_desk_X5_many rfl rfl rfl (by decide +kernel) ⟨Nat.le_of_ble_eq_true rfl, Nat.le_of_ble_eq_true rfl⟩) 0 5 rfl rfl rfl rfl hl.1 rfl (Nat.le_of_ble_eq_true rfl) dX5_desk_88 ⟨Nat.zero_le _, Nat.zero_le _⟩ (fun H locs hG => ?_)
        refine lv_aload_n hx hb dX5_desk_91 rfl (lv_at hl 1 rfl) ?_
        refine lv_iload_n hx hb dX5_desk_92 rfl (lv_at hl 2 rfl) ?_
        refine lv_iconst (v := 0) hx hb dX5_desk_93 (by decide) ?_
        obtain ⟨r20, q21, hf⟩ := cl1_e hf
        refine x_callVi (pre := ([] : va_W)) (wc := WM κ a uv5) (wc1 := WM κ a uv5) (post := ([] : va_W)) (As := [.int p1, .int 0]) (rest := [.int r18]) (w1 := WM κ a uv5) ⟨hx, hb, hml, hown, hts⟩ hK hG hA (by simp only [List.append_assoc, List.nil_append, List.append_nil]) (by simp only [List.append_assoc, List.nil_append, List.append_nil]) (c_X5_many l D κ a H.size p1 0 uv5 r20 q21) (cwV 2 hts gX5_desk_X5_many rfl rfl rfl (by decide +kernel) ⟨Nat.le_of_ble_eq_true rfl, Nat.le_of_ble_eq_true rfl⟩) 0 5 rfl rfl rfl rfl hl.1 rfl (Nat.le_of_ble_eq_true rfl) dX5_desk_94 ⟨Nat.zero_le _, Nat.zero_le _⟩ (fun H locs hG => ?_)
        refine lv_isub hx hb dX5_desk_97 ?_
        have hz := Option.some.inj hf
        have z0 := (Prod.mk.inj hz).1
        replace hz := (Prod.mk.inj hz).2
        have z1 := hz
        exact x_iret hx hb hr hlk hK hG z0 (by rw [z1]) dX5_desk_98
      replace hf := if_f c17 hf
      by_cases c22 : p2 = 3
      · replace hf := if_t c22 hf
        refine lv_tableIn (tgt := 99) (off := 63) hx hb dX5_desk_36 (by rw [c22]; decide) (by rw [c22]; decide) (by rw [c22]; rfl) (by decide) ?_
        refine lv_aload_n hx hb dX5_desk_99 rfl (lv_at hl 1 rfl) ?_
        refine lv_iload_n hx hb dX5_desk_100 rfl (lv_at hl 0 rfl) ?_
        obtain ⟨r23, q24, hf⟩ := cl1_e hf
        refine x_callVi (pre := ([] : va_W)) (wc := WM κ a uv5) (wc1 := WM κ a uv5) (post := ([] : va_W)) (As := [.int v12]) (rest := []) (w1 := WM κ a uv5) ⟨hx, hb, hml, hown, hts⟩ hK hG hA (by simp only [List.append_assoc, List.nil_append, List.append_nil]) (by simp only [List.append_assoc, List.nil_append, List.append_nil]) (c_X5_rank l D κ a H.size v12 uv5 r23 q24) (cwV 1 hts gX5_desk_X5_rank rfl rfl rfl (by decide +kernel) ⟨Nat.le_of_ble_eq_true rfl, Nat.le_of_ble_eq_true rfl⟩) 0 5 rfl rfl rfl rfl hl.1 rfl (Nat.le_of_ble_eq_true rfl) dX5_desk_101 ⟨Nat.zero_le _, Nat.zero_le _⟩ (fun H locs hG => ?_)
        have hz := Option.some.inj hf
        have z0 := (Prod.mk.inj hz).1
        replace hz := (Prod.mk.inj hz).2
        have z1 := hz
        exact x_iret hx hb hr hlk hK hG z0 (by rw [z1]) dX5_desk_104
      replace hf := if_f c22 hf
      by_cases c25 : p2 = 4
      · replace hf := if_t c25 hf
        refine lv_tableIn (tgt := 105) (off := 69) hx hb dX5_desk_36 (by rw [c25]; decide) (by rw [c25]; decide) (by rw [c25]; rfl) (by decide) ?_
        refine lv_aload_n hx hb dX5_desk_105 rfl (lv_at hl 1 rfl) ?_
        refine lv_iload_n hx hb dX5_desk_106 rfl (lv_at hl 2 rfl) ?_
        obtain ⟨r26, q27, hf⟩ := cl1_e hf
        refine x_callVi (pre := ([] : va_W)) (wc := WM κ a uv5) (wc1 := WM κ a uv5) (post := ([] : va_W)) (As := [.int p1]) (rest := []) (w1 := WM κ a uv5) ⟨hx, hb, hml, hown, hts⟩ hK hG hA (by simp only [List.append_assoc, List.nil_append, List.append_nil]) (by simp only [List.append_assoc, List.nil_append, List.append_nil]) (c_X5_highest l D κ a H.size p1 uv5 r26 q27) (cwV 1 hts gX5_desk_X5_highest rfl rfl rfl (by decide +kernel) ⟨Nat.le_of_ble_eq_true rfl, Nat.le_of_ble_eq_true rfl⟩) 0 5 rfl rfl rfl rfl hl.1 rfl (Nat.le_of_ble_eq_true rfl) dX5_desk_107 ⟨Nat.zero_le _, Nat.zero_le _⟩ (fun H locs hG => ?_)
        have hz := Option.some.inj hf
        have z0 := (Prod.mk.inj hz).1
        replace hz := (Prod.mk.inj hz).2
        have z1 := hz
        exact x_iret hx hb hr hlk hK hG z0 (by rw [z1]) dX5_desk_110
      replace hf := if_f c25 hf
      by_cases c28 : p2 = 5
      · replace hf := if_t c28 hf
        refine lv_tableIn (tgt := 111) (off := 75) hx hb dX5_desk_36 (by rw [c28]; decide) (by rw [c28]; decide) (by rw [c28]; rfl) (by decide) ?_
        refine lv_iconst (v := 0) hx hb dX5_desk_111 (by decide) ?_
        refine lv_istore (lv' := [(4, .int 0), (3, .int v12), (0, .ref (a 0)), (1, .int p1), (2, .int p2)]) hx hb dX5_desk_112 hl (by decide) rfl (fun ls hl => ?_)
        refine lv_iload_n hx hb dX5_desk_114 rfl (lv_at hl 1 rfl) ?_
        refine lv_istore (lv' := [(5, .int v12), (4, .int 0), (3, .int v12), (0, .ref (a 0)), (1, .int p1), (2, .int p2)]) hx hb dX5_desk_115 hl (by decide) rfl (fun ls hl => ?_)
        exact L117  FU 0 v12 uv5 hf H locs ls hG (lv_sub hl [3, 1, 0] rfl)
      replace hf := if_f c28 hf
      refine lv_tableOut (tgt := 140) hx hb dX5_desk_36 (x_sw (k := 5) (by decide) (fun j hj => ?_)) (by decide) ?_
      · match j, hj with
        | 0, _ => exact c13
        | 1, _ => exact c14
        | 2, _ => exact c17
        | 3, _ => exact c22
        | 4, _ => exact c25
        | 5, _ => exact c28
        | j + 6, hj => exact absurd hj (by omega)
      · refine lv_aload_n hx hb dX5_desk_140 rfl (lv_at hl 1 rfl) ?_
        refine lv_iload_n hx hb dX5_desk_141 rfl (lv_at hl 2 rfl) ?_
        refine lv_iload_n hx hb dX5_desk_142 rfl (lv_at hl 3 rfl) ?_
        obtain ⟨r29, uv30, q31, hf⟩ := cl2_e hf
        refine x_callVi (pre := ([] : va_W)) (wc := WM κ a uv5) (wc1 := WM κ a uv30) (post := ([] : va_W)) (As := [.int p1, .int p2]) (rest := []) (w1 := WM κ a uv30) ⟨hx, hb, hml, hown, hts⟩ hK hG hA (by simp only [List.append_assoc, List.nil_append, List.append_nil]) (by simp only [List.append_assoc, List.nil_append, List.append_nil]) (c_X5_ofItems l D κ a H.size p1 p2 uv5 r29 uv30 q31) (cwV 2 hts gX5_desk_X5_ofItems rfl rfl rfl (by decide +kernel) ⟨Nat.le_of_ble_eq_true rfl, Nat.le_of_ble_eq_true rfl⟩) 0 5 rfl rfl rfl rfl hl.1 rfl (Nat.le_of_ble_eq_true rfl) dX5_desk_143 ⟨Nat.zero_le _, Nat.zero_le _⟩ (fun H locs hG => ?_)
        have hz := Option.some.inj hf
        have z0 := (Prod.mk.inj hz).1
        replace hz := (Prod.mk.inj hz).2
        have z1 := hz
        exact x_iret hx hb hr hlk hK hG z0 (by rw [z1]) dX5_desk_146
    · replace hf := if_t c11 hf
      refine lv_iconst (v := (-1)) hx hb dX5_desk_24 (by decide) ?_
      have hz := Option.some.inj hf
      have z0 := (Prod.mk.inj hz).1
      replace hz := (Prod.mk.inj hz).2
      have z1 := hz
      exact x_iret hx hb hr hlk hK hG z0 (by rw [z1]) dX5_desk_25
set_option maxRecDepth 100000 in
set_option maxHeartbeats 4000000 in
theorem c_X5_along (l : Launch) (D : va_G) (κ : Nat → ClassId) (a : Nat → Nat) (sz : Nat) (p1 : Int32) (p2 : Int32) (p3 : Int32) (uv : MS) (r' : Int32) (uv' : MS) (hf : f_X5_along p1 p2 p3 uv = some (r', uv')) : Met l yX5_along wsX5_along ({ frames := 2, cells := 0, slots := 0, locals := 45 } : Room) (xPc D κ [.ref (a 0), .int p1, .int p2, .int p3] (WM κ a uv) sz) (xQi D κ r' (WM κ a uv') (va_A (WM κ a uv) sz)) 0 0 (va_A (WM κ a uv) sz) := by
  refine x_ofW (cc := cX5_along) (maxL := 6) (ret := (some .int)) (Qf := fun A => xQi D κ r' (WM κ a uv') A) (by decide) rfl (Nat.le_of_ble_eq_true rfl) ?_
  intro p e s m below meth c hx hb hr hlk hml hown hts hK A hA H locs hG ls hl
  have hown : s.vm.findClass RX5 = some m.cls := hown
  have hl : lv_has ls 6 [(0, .ref (a 0)), (1, .int p1), (2, .int p2), (3, .int p3)] := hl
  have iX5 : ∀ w ∈ u_ws RX5 TX5 27, w ∈ wsX5_along := fun _ h => List.mem_cons_of_mem _ (List.mem_append_right _ h)
  have k13 := hts (.fieldLink RX5 13 "SpineDesksModel" "row" "[I") (List.mem_of_getElem? (i := 2) rfl)
  have k63 := hts (.fieldLink RX5 63 "SpineDesksModel" "thrown" "I") (List.mem_of_getElem? (i := 1) rfl)
  have L72 : ∀ (rec41 : Int32 → Int32 → Int32 → Int32 → MS → Option (Int32 × MS)) (hr41 : ∀ (y2 : Int32) (y3 : Int32) (y4 : Int32) (y5 : Int32) (uv : MS), rec41 y2 y3 y4 y5 uv = some (r', uv') → ∀ (H : Heap) (locs : List Loc) (ls : Array Slot), xG D A s.heap (WM κ a uv) H locs → lv_has ls 6 [(0, .ref (a 0)), (2, .int y2), (3, .int y3), (4, .int y4), (5, .int y5)] → W p l e ({ frames := 2, cells := 0, slots := 0, locals := 45 } : Room) s m (([.ref (a 0), .int p1, .int p2, .int p3] : List Value).toArray) below meth c H locs 0 0 (MQ below (xQi D κ r' (WM κ a uv') A) (([.ref (a 0), .int p1, .int p2, .int p3] : List Value).toArray) s 0 0 A) (F0 m 41 ls [])), ∀ (x2 : Int32) (x3 : Int32) (x5 : Int32) (s0 : Int32) (uv : MS), f_X5_along_72 rec41 x2 x3 x5 s0 uv = some (r', uv') → ∀ (H : Heap) (locs : List Loc) (ls : Array Slot), xG D A s.heap (WM κ a uv) H locs → lv_has ls 6 [(0, .ref (a 0)), (2, .int x2), (3, .int x3), (5, .int x5)] → W p l e ({ frames := 2, cells := 0, slots := 0, locals := 45 } : Room) s m (([.ref (a 0), .int p1, .int p2, .int p3] : List Value).toArray) below meth c H locs 0 0 (MQ below (xQi D κ r' (WM κ a uv') A) (([.ref (a 0), .int p1, .int p2, .int p3] : List Value).toArray) s 0 0 A) (F0 m 72 ls [.int s0]) := by
    intro rec41 hr41 x2 x3 x5 s0 uv hf H locs ls hG hl
    unfold f_X5_along_72 at hf
    refine lv_istore (lv' := [(4, .int s0), (0, .ref (a 0)), (2, .int x2), (3, .int x3), (5, .int x5)]) hx hb dX5_along_72 hl (by decide) rfl (fun ls hl => ?_)
    obtain ⟨y1, ey1, hf⟩ := bnd_e hf
    refine lv_iinc (v := y1) (lv' := [(5, .int y1), (4, .int s0), (0, .ref (a 0)), (2, .int x2), (3, .int x3)]) hx hb dX5_along_74 hl (k := 4) rfl (by rw [ey1]; rfl) (by decide) rfl (fun ls hl => ?_)
    refine lv_goto (tgt := 41) hx hb dX5_along_77 (by decide) ?_
    exact hr41 x2 x3 s0 y1 uv hf H locs ls hG (lv_sub hl [2, 3, 4, 1, 0] rfl)
  have L41 : ∀ (n : Nat), ∀ (x2 : Int32) (x3 : Int32) (x4 : Int32) (x5 : Int32) (uv : MS), f_X5_along_41 n x2 x3 x4 x5 uv = some (r', uv') → ∀ (H : Heap) (locs : List Loc) (ls : Array Slot), xG D A s.heap (WM κ a uv) H locs → lv_has ls 6 [(0, .ref (a 0)), (2, .int x2), (3, .int x3), (4, .int x4), (5, .int x5)] → W p l e ({ frames := 2, cells := 0, slots := 0, locals := 45 } : Room) s m (([.ref (a 0), .int p1, .int p2, .int p3] : List Value).toArray) below meth c H locs 0 0 (MQ below (xQi D κ r' (WM κ a uv') A) (([.ref (a 0), .int p1, .int p2, .int p3] : List Value).toArray) s 0 0 A) (F0 m 41 ls []) := by
    intro  n
    induction n with
    | zero => intro x2 x3 x4 x5 uv hf; cases hf
    | succ n ih =>
      intro x2 x3 x4 x5 uv hf H locs ls hG hl
      replace hf : f_X5_along_B41 (f_X5_along_41 n) x2 x3 x4 x5 uv = some (r', uv') := hf
      unfold f_X5_along_B41 at hf
      refine lv_iload hx hb dX5_along_41 (lv_at hl 4 rfl) ?_
      refine lv_iload_n hx hb dX5_along_43 rfl (lv_at hl 1 rfl) ?_
      refine lv_icmp_ge (tgt := 80) hx hb dX5_along_44 (by decide) (fun c2 => ?_) (fun c2 => ?_)
      · replace hf := if_t c2 hf
        refine lv_iload hx hb dX5_along_80 (lv_at hl 3 rfl) ?_
        have hz := Option.some.inj hf
        have z0 := (Prod.mk.inj hz).1
        replace hz := (Prod.mk.inj hz).2
        have z1 := hz
        exact x_iret hx hb hr hlk hK hG z0 (by rw [z1]) dX5_along_82
      · replace hf := if_f c2 hf
        refine lv_iload hx hb dX5_along_47 (lv_at hl 3 rfl) ?_
        refine lv_iconst (v := (-1)) hx hb dX5_along_49 (by decide) ?_
        refine lv_icmp_eq (tgt := 80) hx hb dX5_along_50 (by decide) (fun c3 => ?_) (fun c3 => ?_)
        · replace hf := if_t c3 hf
          refine lv_iload hx hb dX5_along_80 (lv_at hl 3 rfl) ?_
          have hz := Option.some.inj hf
          have z0 := (Prod.mk.inj hz).1
          replace hz := (Prod.mk.inj hz).2
          have z1 := hz
          exact x_iret hx hb hr hlk hK hG z0 (by rw [z1]) dX5_along_82
        · replace hf := if_f c3 hf
          refine lv_iload_n hx hb dX5_along_53 rfl (lv_at hl 2 rfl) ?_
          refine lv_if_ne (tgt := 66) hx hb dX5_along_54 (by decide) (fun c4 => ?_) (fun c4 => ?_)
          · replace hf := if_f c4 hf
            refine lv_aload_n hx hb dX5_along_66 rfl (lv_at hl 0 rfl) ?_
            refine lv_iload hx hb dX5_along_67 (lv_at hl 3 rfl) ?_
            obtain ⟨r5, q6, hf⟩ := cl1_e hf
            refine x_callVi (pre := ([] : va_W)) (wc := WM κ a uv) (wc1 := WM κ a uv) (post := ([] : va_W)) (As := [.int x4]) (rest := []) (w1 := WM κ a uv) ⟨hx, hb, hml, hown, hts⟩ hK hG hA (by simp only [List.append_assoc, List.nil_append, List.append_nil]) (by simp only [List.append_assoc, List.nil_append, List.append_nil]) (c_X5_left l D κ a H.size x4 uv r5 q6) (cwV 1 hts gX5_along_X5_left rfl rfl rfl (by decide +kernel) ⟨Nat.le_of_ble_eq_true rfl, Nat.le_of_ble_eq_true rfl⟩) 0 5 rfl rfl rfl rfl hl.1 rfl (Nat.le_of_ble_eq_true rfl) dX5_along_69 ⟨Nat.zero_le _, Nat.zero_le _⟩ (fun H locs hG => ?_)
            exact L72 (f_X5_along_41 n) ih  x2 x3 x5 r5 uv hf H locs ls hG (lv_sub hl [0, 1, 2, 4] rfl)
          · replace hf := if_t c4 hf
            refine lv_aload_n hx hb dX5_along_57 rfl (lv_at hl 0 rfl) ?_
            refine lv_iload hx hb dX5_along_58 (lv_at hl 3 rfl) ?_
            obtain ⟨r7, q8, hf⟩ := cl1_e hf
            refine x_callVi (pre := ([] : va_W)) (wc := WM κ a uv) (wc1 := WM κ a uv) (post := ([] : va_W)) (As := [.int x4]) (rest := []) (w1 := WM κ a uv) ⟨hx, hb, hml, hown, hts⟩ hK hG hA (by simp only [List.append_assoc, List.nil_append, List.append_nil]) (by simp only [List.append_assoc, List.nil_append, List.append_nil]) (c_X5_right l D κ a H.size x4 uv r7 q8) (cwV 1 hts gX5_along_X5_right rfl rfl rfl (by decide +kernel) ⟨Nat.le_of_ble_eq_true rfl, Nat.le_of_ble_eq_true rfl⟩) 0 5 rfl rfl rfl rfl hl.1 rfl (Nat.le_of_ble_eq_true rfl) dX5_along_60 ⟨Nat.zero_le _, Nat.zero_le _⟩ (fun H locs hG => ?_)
            refine lv_goto (tgt := 72) hx hb dX5_along_63 (by decide) ?_
            exact L72 (f_X5_along_41 n) ih  x2 x3 x5 r7 uv hf H locs ls hG (lv_sub hl [0, 1, 2, 4] rfl)
  unfold f_X5_along at hf
  refine lv_aload_n hx hb dX5_along_0 rfl (lv_at hl 0 rfl) ?_
  refine lv_iconst (v := 0) hx hb dX5_along_1 (by decide) ?_
  obtain ⟨uv9, euv9, hf⟩ := bnd_e hf
  refine x_put (C := RX5) (T := TX5) (N := 27) (ci := 5) hx hb hts iX5 tyX5 tyX5_ok nmX5 hown hK hG 0 rfl rfl 0 (by decide) k63 rfl (ty := .int) (v := .int 0) rfl rfl rfl (Nat.le_of_ble_eq_true rfl) (w1 := WM κ a uv9) (by rw [euv9]; rfl) dX5_along_2 (fun H locs hG => ?_)
  refine lv_iload_n hx hb dX5_along_5 rfl (lv_at hl 1 rfl) ?_
  obtain ⟨r10, q11, hf⟩ := cl1_e hf
  refine x_callSi (pre := ([] : va_W)) (wc := ([] : va_W)) (wc1 := ([] : va_W)) (post := WM κ a uv9) (As := [.int p1]) (rest := []) (w1 := WM κ a uv9) ⟨hx, hb, hml, hown, hts⟩ hK hG hA (by simp only [List.append_assoc, List.nil_append, List.append_nil]) (by simp only [List.append_assoc, List.nil_append, List.append_nil]) (c_X5_isDesk l D κ a H.size p1 r10 q11) (va_cwS 1 hts gX5_along_X5_isDesk rfl rfl rfl (by decide +kernel) ⟨Nat.le_of_ble_eq_true rfl, Nat.le_of_ble_eq_true rfl⟩) rfl hl.1 rfl (Nat.le_of_ble_eq_true rfl) dX5_along_6 ⟨Nat.zero_le _, Nat.zero_le _⟩ (fun H locs hG => ?_)
  refine lv_if_eq (tgt := 26) hx hb dX5_along_9 (by decide) (fun c12 => ?_) (fun c12 => ?_)
  · replace hf := if_t c12 hf
    refine lv_iconst (v := (-1)) hx hb dX5_along_26 (by decide) ?_
    have hz := Option.some.inj hf
    have z0 := (Prod.mk.inj hz).1
    replace hz := (Prod.mk.inj hz).2
    have z1 := hz
    exact x_iret hx hb hr hlk hK hG z0 (by rw [z1]) dX5_along_27
  · replace hf := if_f c12 hf
    refine lv_iload_n hx hb dX5_along_12 rfl (lv_at hl 2 rfl) ?_
    refine lv_if_lt (tgt := 26) hx hb dX5_along_13 (by decide) (fun c13 => ?_) (fun c13 => ?_)
    · replace hf := if_t c13 hf
      refine lv_iconst (v := (-1)) hx hb dX5_along_26 (by decide) ?_
      have hz := Option.some.inj hf
      have z0 := (Prod.mk.inj hz).1
      replace hz := (Prod.mk.inj hz).2
      have z1 := hz
      exact x_iret hx hb hr hlk hK hG z0 (by rw [z1]) dX5_along_27
    · replace hf := if_f c13 hf
      refine lv_iload_n hx hb dX5_along_16 rfl (lv_at hl 3 rfl) ?_
      refine lv_i2l hx hb dX5_along_17 rfl ?_
      refine lv_lconst (v := 0) hx hb dX5_along_18 (by decide) ?_
      refine lv_lconst (v := 1) hx hb dX5_along_19 (by decide) ?_
      obtain ⟨r14, q15, hf⟩ := cl1_e hf
      refine x_callSi (pre := ([] : va_W)) (wc := ([] : va_W)) (wc1 := ([] : va_W)) (post := WM κ a uv9) (As := [.long (p3.toInt64), .long 0, .long 1]) (rest := []) (w1 := WM κ a uv9) ⟨hx, hb, hml, hown, hts⟩ hK hG hA (by simp only [List.append_assoc, List.nil_append, List.append_nil]) (by simp only [List.append_assoc, List.nil_append, List.append_nil]) (c_X5_in l D κ a H.size (p3.toInt64) 0 1 r14 q15) (va_cwS 3 hts gX5_along_X5_in rfl rfl rfl (by decide +kernel) ⟨Nat.le_of_ble_eq_true rfl, Nat.le_of_ble_eq_true rfl⟩) rfl hl.1 rfl (Nat.le_of_ble_eq_true rfl) dX5_along_20 ⟨Nat.zero_le _, Nat.zero_le _⟩ (fun H locs hG => ?_)
      refine lv_if_ne (tgt := 28) hx hb dX5_along_23 (by decide) (fun c16 => ?_) (fun c16 => ?_)
      · replace hf := if_f c16 hf
        refine lv_aload_n hx hb dX5_along_28 rfl (lv_at hl 0 rfl) ?_
        refine x_get (C := RX5) (T := TX5) (N := 27) (ci := 5) hx hb hts iX5 hown hK hG 0 rfl rfl 2 (by decide) k13 (v := .ref (a 2)) rfl dX5_along_29 ?_
        refine lv_iconst (v := 4) hx hb dX5_along_32 (by decide) ?_
        refine lv_iload_n hx hb dX5_along_33 rfl (lv_at hl 1 rfl) ?_
        refine lv_iadd hx hb dX5_along_34 ?_
        obtain ⟨v17, ev17, hin, hf⟩ := ck_e hf
        refine x_iald hx hb hK hG 2 rfl ev17 hin dX5_along_35 ?_
        refine lv_istore (lv' := [(4, .int v17), (0, .ref (a 0)), (1, .int p1), (2, .int p2), (3, .int p3)]) hx hb dX5_along_36 hl (by decide) rfl (fun ls hl => ?_)
        refine lv_iconst (v := 0) hx hb dX5_along_38 (by decide) ?_
        refine lv_istore (lv' := [(5, .int 0), (4, .int v17), (0, .ref (a 0)), (1, .int p1), (2, .int p2), (3, .int p3)]) hx hb dX5_along_39 hl (by decide) rfl (fun ls hl => ?_)
        exact L41  FU p2 p3 v17 0 uv9 hf H locs ls hG (lv_sub hl [2, 4, 5, 1, 0] rfl)
      · replace hf := if_t c16 hf
        refine lv_iconst (v := (-1)) hx hb dX5_along_26 (by decide) ?_
        have hz := Option.some.inj hf
        have z0 := (Prod.mk.inj hz).1
        replace hz := (Prod.mk.inj hz).2
        have z1 := hz
        exact x_iret hx hb hr hlk hK hG z0 (by rw [z1]) dX5_along_27
set_option maxRecDepth 100000 in
set_option maxHeartbeats 4000000 in
theorem c_X5_ranked (l : Launch) (D : va_G) (κ : Nat → ClassId) (a : Nat → Nat) (sz : Nat) (p1 : Int32) (p2 : Int32) (uv : MS) (r' : Int32) (uv' : MS) (hf : f_X5_ranked p1 p2 uv = some (r', uv')) : Met l yX5_ranked wsX5_ranked ({ frames := 2, cells := 0, slots := 0, locals := 45 } : Room) (xPc D κ [.ref (a 0), .int p1, .int p2] (WM κ a uv) sz) (xQi D κ r' (WM κ a uv') (va_A (WM κ a uv) sz)) 0 0 (va_A (WM κ a uv) sz) := by
  refine x_ofW (cc := cX5_ranked) (maxL := 5) (ret := (some .int)) (Qf := fun A => xQi D κ r' (WM κ a uv') A) (by decide) rfl (Nat.le_of_ble_eq_true rfl) ?_
  intro p e s m below meth c hx hb hr hlk hml hown hts hK A hA H locs hG ls hl
  have hown : s.vm.findClass RX5 = some m.cls := hown
  have hl : lv_has ls 5 [(0, .ref (a 0)), (1, .int p1), (2, .int p2)] := hl
  have iX5 : ∀ w ∈ u_ws RX5 TX5 27, w ∈ wsX5_ranked := fun _ h => List.mem_cons_of_mem _ (List.mem_append_right _ h)
  have k13 := hts (.fieldLink RX5 13 "SpineDesksModel" "row" "[I") (List.mem_of_getElem? (i := 2) rfl)
  have k63 := hts (.fieldLink RX5 63 "SpineDesksModel" "thrown" "I") (List.mem_of_getElem? (i := 1) rfl)
  have L67 : ∀ (rec24 : Int32 → Int32 → Int32 → Int32 → MS → Option (Int32 × MS)) (hr24 : ∀ (y1 : Int32) (y2 : Int32) (y3 : Int32) (y4 : Int32) (uv : MS), rec24 y1 y2 y3 y4 uv = some (r', uv') → ∀ (H : Heap) (locs : List Loc) (ls : Array Slot), xG D A s.heap (WM κ a uv) H locs → lv_has ls 5 [(0, .ref (a 0)), (1, .int y1), (2, .int y2), (3, .int y3), (4, .int y4)] → W p l e ({ frames := 2, cells := 0, slots := 0, locals := 45 } : Room) s m (([.ref (a 0), .int p1, .int p2] : List Value).toArray) below meth c H locs 0 0 (MQ below (xQi D κ r' (WM κ a uv') A) (([.ref (a 0), .int p1, .int p2] : List Value).toArray) s 0 0 A) (F0 m 24 ls [])), ∀ (x1 : Int32) (x2 : Int32) (x4 : Int32) (s0 : Int32) (s1 : Int32) (uv : MS), f_X5_ranked_67 rec24 x1 x2 x4 s0 s1 uv = some (r', uv') → ∀ (H : Heap) (locs : List Loc) (ls : Array Slot), xG D A s.heap (WM κ a uv) H locs → lv_has ls 5 [(0, .ref (a 0)), (1, .int x1), (2, .int x2), (4, .int x4)] → W p l e ({ frames := 2, cells := 0, slots := 0, locals := 45 } : Room) s m (([.ref (a 0), .int p1, .int p2] : List Value).toArray) below meth c H locs 0 0 (MQ below (xQi D κ r' (WM κ a uv') A) (([.ref (a 0), .int p1, .int p2] : List Value).toArray) s 0 0 A) (F0 m 67 ls [.int s1, .int s0]) := by
    intro rec24 hr24 x1 x2 x4 s0 s1 uv hf H locs ls hG hl
    unfold f_X5_ranked_67 at hf
    refine lv_iadd hx hb dX5_ranked_67 ?_
    refine lv_topi (fun y1 ey1 => ?_)
    replace hf := bnd_at ey1 hf
    refine lv_istore_n (lv' := [(3, .int y1), (0, .ref (a 0)), (1, .int x1), (2, .int x2), (4, .int x4)]) hx hb dX5_ranked_68 rfl hl (by decide) rfl (fun ls hl => ?_)
    obtain ⟨y2, ey2, hf⟩ := bnd_e hf
    refine lv_iinc (v := y2) (lv' := [(4, .int y2), (3, .int y1), (0, .ref (a 0)), (1, .int x1), (2, .int x2)]) hx hb dX5_ranked_69 hl (k := 4) rfl (by rw [ey2]; rfl) (by decide) rfl (fun ls hl => ?_)
    refine lv_goto (tgt := 24) hx hb dX5_ranked_72 (by decide) ?_
    exact hr24 x1 x2 y1 y2 uv hf H locs ls hG (lv_sub hl [2, 3, 4, 1, 0] rfl)
  have L66 : ∀ (rec24 : Int32 → Int32 → Int32 → Int32 → MS → Option (Int32 × MS)) (hr24 : ∀ (y1 : Int32) (y2 : Int32) (y3 : Int32) (y4 : Int32) (uv : MS), rec24 y1 y2 y3 y4 uv = some (r', uv') → ∀ (H : Heap) (locs : List Loc) (ls : Array Slot), xG D A s.heap (WM κ a uv) H locs → lv_has ls 5 [(0, .ref (a 0)), (1, .int y1), (2, .int y2), (3, .int y3), (4, .int y4)] → W p l e ({ frames := 2, cells := 0, slots := 0, locals := 45 } : Room) s m (([.ref (a 0), .int p1, .int p2] : List Value).toArray) below meth c H locs 0 0 (MQ below (xQi D κ r' (WM κ a uv') A) (([.ref (a 0), .int p1, .int p2] : List Value).toArray) s 0 0 A) (F0 m 24 ls [])), ∀ (x1 : Int32) (x2 : Int32) (x4 : Int32) (s0 : Int32) (uv : MS), f_X5_ranked_66 rec24 x1 x2 x4 s0 uv = some (r', uv') → ∀ (H : Heap) (locs : List Loc) (ls : Array Slot), xG D A s.heap (WM κ a uv) H locs → lv_has ls 5 [(0, .ref (a 0)), (1, .int x1), (2, .int x2), (4, .int x4)] → W p l e ({ frames := 2, cells := 0, slots := 0, locals := 45 } : Room) s m (([.ref (a 0), .int p1, .int p2] : List Value).toArray) below meth c H locs 0 0 (MQ below (xQi D κ r' (WM κ a uv') A) (([.ref (a 0), .int p1, .int p2] : List Value).toArray) s 0 0 A) (F0 m 66 ls [.int s0]) := by
    intro rec24 hr24 x1 x2 x4 s0 uv hf H locs ls hG hl
    unfold f_X5_ranked_66 at hf
    refine lv_iconst (v := 0) hx hb dX5_ranked_66 (by decide) ?_
    exact L67 rec24 hr24  x1 x2 x4 s0 0 uv hf H locs ls hG (lv_sub hl [0, 1, 2, 3] rfl)
  have L24 : ∀ (n : Nat), ∀ (x1 : Int32) (x2 : Int32) (x3 : Int32) (x4 : Int32) (uv : MS), f_X5_ranked_24 n x1 x2 x3 x4 uv = some (r', uv') → ∀ (H : Heap) (locs : List Loc) (ls : Array Slot), xG D A s.heap (WM κ a uv) H locs → lv_has ls 5 [(0, .ref (a 0)), (1, .int x1), (2, .int x2), (3, .int x3), (4, .int x4)] → W p l e ({ frames := 2, cells := 0, slots := 0, locals := 45 } : Room) s m (([.ref (a 0), .int p1, .int p2] : List Value).toArray) below meth c H locs 0 0 (MQ below (xQi D κ r' (WM κ a uv') A) (([.ref (a 0), .int p1, .int p2] : List Value).toArray) s 0 0 A) (F0 m 24 ls []) := by
    intro  n
    induction n with
    | zero => intro x1 x2 x3 x4 uv hf; cases hf
    | succ n ih =>
      intro x1 x2 x3 x4 uv hf H locs ls hG hl
      replace hf : f_X5_ranked_B24 (f_X5_ranked_24 n) x1 x2 x3 x4 uv = some (r', uv') := hf
      unfold f_X5_ranked_B24 at hf
      refine lv_iload hx hb dX5_ranked_24 (lv_at hl 4 rfl) ?_
      refine lv_aload_n hx hb dX5_ranked_26 rfl (lv_at hl 0 rfl) ?_
      refine x_get (C := RX5) (T := TX5) (N := 27) (ci := 5) hx hb hts iX5 hown hK hG 0 rfl rfl 2 (by decide) k13 (v := .ref (a 2)) rfl dX5_ranked_27 ?_
      refine lv_iconst (v := 0) hx hb dX5_ranked_30 (by decide) ?_
      obtain ⟨v3, ev3, hin, hf⟩ := ck_e hf
      refine x_iald hx hb hK hG 2 rfl ev3 hin dX5_ranked_31 ?_
      refine lv_icmp_ge (tgt := 75) hx hb dX5_ranked_32 (by decide) (fun c4 => ?_) (fun c4 => ?_)
      · replace hf := if_t c4 hf
        refine lv_iload_n hx hb dX5_ranked_75 rfl (lv_at hl 3 rfl) ?_
        have hz := Option.some.inj hf
        have z0 := (Prod.mk.inj hz).1
        replace hz := (Prod.mk.inj hz).2
        have z1 := hz
        exact x_iret hx hb hr hlk hK hG z0 (by rw [z1]) dX5_ranked_76
      · replace hf := if_f c4 hf
        refine lv_iload_n hx hb dX5_ranked_35 rfl (lv_at hl 3 rfl) ?_
        refine lv_aload_n hx hb dX5_ranked_36 rfl (lv_at hl 0 rfl) ?_
        refine x_get (C := RX5) (T := TX5) (N := 27) (ci := 5) hx hb hts iX5 hown hK hG 0 rfl rfl 2 (by decide) k13 (v := .ref (a 2)) rfl dX5_ranked_37 ?_
        refine lv_iload hx hb dX5_ranked_40 (lv_at hl 4 rfl) ?_
        obtain ⟨r5, q6, hf⟩ := cl1_e hf
        refine x_callSi (pre := ([] : va_W)) (wc := ([] : va_W)) (wc1 := ([] : va_W)) (post := WM κ a uv) (As := [.int x4]) (rest := [.ref (a 2), .int x3]) (w1 := WM κ a uv) ⟨hx, hb, hml, hown, hts⟩ hK hG hA (by simp only [List.append_assoc, List.nil_append, List.append_nil]) (by simp only [List.append_assoc, List.nil_append, List.append_nil]) (c_X5_at l D κ a H.size x4 r5 q6) (va_cwS 1 hts gX5_ranked_X5_at rfl rfl rfl (by decide +kernel) ⟨Nat.le_of_ble_eq_true rfl, Nat.le_of_ble_eq_true rfl⟩) rfl hl.1 rfl (Nat.le_of_ble_eq_true rfl) dX5_ranked_42 ⟨Nat.zero_le _, Nat.zero_le _⟩ (fun H locs hG => ?_)
        refine lv_iconst (v := 1) hx hb dX5_ranked_45 (by decide) ?_
        refine lv_iadd hx hb dX5_ranked_46 ?_
        obtain ⟨v7, ev7, hin, hf⟩ := ck_e hf
        refine x_iald hx hb hK hG 2 rfl ev7 hin dX5_ranked_47 ?_
        refine lv_iload_n hx hb dX5_ranked_48 rfl (lv_at hl 1 rfl) ?_
        refine lv_icmp_ne (tgt := 66) hx hb dX5_ranked_49 (by decide) (fun c8 => ?_) (fun c8 => ?_)
        · replace hf := if_f c8 hf
          exact L66 (f_X5_ranked_24 n) ih  x1 x2 x4 x3 uv hf H locs ls hG (lv_sub hl [0, 1, 2, 4] rfl)
        · replace hf := if_t c8 hf
          refine lv_aload_n hx hb dX5_ranked_52 rfl (lv_at hl 0 rfl) ?_
          refine lv_iload hx hb dX5_ranked_53 (lv_at hl 4 rfl) ?_
          obtain ⟨r9, q10, hf⟩ := cl1_e hf
          refine x_callVi (pre := ([] : va_W)) (wc := WM κ a uv) (wc1 := WM κ a uv) (post := ([] : va_W)) (As := [.int x4]) (rest := [.int x3]) (w1 := WM κ a uv) ⟨hx, hb, hml, hown, hts⟩ hK hG hA (by simp only [List.append_assoc, List.nil_append, List.append_nil]) (by simp only [List.append_assoc, List.nil_append, List.append_nil]) (c_X5_rank l D κ a H.size x4 uv r9 q10) (cwV 1 hts gX5_ranked_X5_rank rfl rfl rfl (by decide +kernel) ⟨Nat.le_of_ble_eq_true rfl, Nat.le_of_ble_eq_true rfl⟩) 0 5 rfl rfl rfl rfl hl.1 rfl (Nat.le_of_ble_eq_true rfl) dX5_ranked_55 ⟨Nat.zero_le _, Nat.zero_le _⟩ (fun H locs hG => ?_)
          refine lv_iload_n hx hb dX5_ranked_58 rfl (lv_at hl 2 rfl) ?_
          refine lv_icmp_ne (tgt := 66) hx hb dX5_ranked_59 (by decide) (fun c11 => ?_) (fun c11 => ?_)
          · replace hf := if_f c11 hf
            exact L66 (f_X5_ranked_24 n) ih  x1 x2 x4 x3 uv hf H locs ls hG (lv_sub hl [0, 1, 2, 4] rfl)
          · replace hf := if_t c11 hf
            refine lv_iconst (v := 1) hx hb dX5_ranked_62 (by decide) ?_
            refine lv_goto (tgt := 67) hx hb dX5_ranked_63 (by decide) ?_
            exact L67 (f_X5_ranked_24 n) ih  x1 x2 x4 x3 1 uv hf H locs ls hG (lv_sub hl [0, 1, 2, 4] rfl)
  unfold f_X5_ranked at hf
  refine lv_aload_n hx hb dX5_ranked_0 rfl (lv_at hl 0 rfl) ?_
  refine lv_iconst (v := 0) hx hb dX5_ranked_1 (by decide) ?_
  obtain ⟨uv12, euv12, hf⟩ := bnd_e hf
  refine x_put (C := RX5) (T := TX5) (N := 27) (ci := 5) hx hb hts iX5 tyX5 tyX5_ok nmX5 hown hK hG 0 rfl rfl 0 (by decide) k63 rfl (ty := .int) (v := .int 0) rfl rfl rfl (Nat.le_of_ble_eq_true rfl) (w1 := WM κ a uv12) (by rw [euv12]; rfl) dX5_ranked_2 (fun H locs hG => ?_)
  refine lv_iload_n hx hb dX5_ranked_5 rfl (lv_at hl 1 rfl) ?_
  obtain ⟨r13, q14, hf⟩ := cl1_e hf
  refine x_callSi (pre := ([] : va_W)) (wc := ([] : va_W)) (wc1 := ([] : va_W)) (post := WM κ a uv12) (As := [.int p1]) (rest := []) (w1 := WM κ a uv12) ⟨hx, hb, hml, hown, hts⟩ hK hG hA (by simp only [List.append_assoc, List.nil_append, List.append_nil]) (by simp only [List.append_assoc, List.nil_append, List.append_nil]) (c_X5_isDesk l D κ a H.size p1 r13 q14) (va_cwS 1 hts gX5_ranked_X5_isDesk rfl rfl rfl (by decide +kernel) ⟨Nat.le_of_ble_eq_true rfl, Nat.le_of_ble_eq_true rfl⟩) rfl hl.1 rfl (Nat.le_of_ble_eq_true rfl) dX5_ranked_6 ⟨Nat.zero_le _, Nat.zero_le _⟩ (fun H locs hG => ?_)
  refine lv_if_eq (tgt := 17) hx hb dX5_ranked_9 (by decide) (fun c15 => ?_) (fun c15 => ?_)
  · replace hf := if_t c15 hf
    refine lv_iconst (v := (-1)) hx hb dX5_ranked_17 (by decide) ?_
    have hz := Option.some.inj hf
    have z0 := (Prod.mk.inj hz).1
    replace hz := (Prod.mk.inj hz).2
    have z1 := hz
    exact x_iret hx hb hr hlk hK hG z0 (by rw [z1]) dX5_ranked_18
  · replace hf := if_f c15 hf
    refine lv_iload_n hx hb dX5_ranked_12 rfl (lv_at hl 2 rfl) ?_
    refine lv_iconst (v := 1) hx hb dX5_ranked_13 (by decide) ?_
    refine lv_icmp_ge (tgt := 19) hx hb dX5_ranked_14 (by decide) (fun c16 => ?_) (fun c16 => ?_)
    · replace hf := if_t c16 hf
      refine lv_iconst (v := 0) hx hb dX5_ranked_19 (by decide) ?_
      refine lv_istore_n (lv' := [(3, .int 0), (0, .ref (a 0)), (1, .int p1), (2, .int p2)]) hx hb dX5_ranked_20 rfl hl (by decide) rfl (fun ls hl => ?_)
      refine lv_iconst (v := 0) hx hb dX5_ranked_21 (by decide) ?_
      refine lv_istore (lv' := [(4, .int 0), (3, .int 0), (0, .ref (a 0)), (1, .int p1), (2, .int p2)]) hx hb dX5_ranked_22 hl (by decide) rfl (fun ls hl => ?_)
      exact L24  FU p1 p2 0 0 uv12 hf H locs ls hG (lv_sub hl [2, 3, 4, 1, 0] rfl)
    · replace hf := if_f c16 hf
      refine lv_iconst (v := (-1)) hx hb dX5_ranked_17 (by decide) ?_
      have hz := Option.some.inj hf
      have z0 := (Prod.mk.inj hz).1
      replace hz := (Prod.mk.inj hz).2
      have z1 := hz
      exact x_iret hx hb hr hlk hK hG z0 (by rw [z1]) dX5_ranked_18
set_option maxRecDepth 100000 in
set_option maxHeartbeats 4000000 in
theorem c_X5_layRising (l : Launch) (D : va_G) (κ : Nat → ClassId) (a : Nat → Nat) (sz : Nat) (p1 : Int32) (p2 : Int32) (uv : MS)  (uv' : MS) (hf : f_X5_layRising p1 p2 uv = some (uv')) : Met l yX5_layRising wsX5_layRising ({ frames := 1, cells := 0, slots := 0, locals := 22 } : Room) (xPc D κ [.ref (a 0), .int p1, .int p2] (WM κ a uv) sz) (xQv D κ (WM κ a uv') (va_A (WM κ a uv) sz)) 0 0 (va_A (WM κ a uv) sz) := by
  refine x_ofW (cc := cX5_layRising) (maxL := 6) (ret := none) (Qf := fun A => xQv D κ (WM κ a uv') A) (by decide) rfl (Nat.le_of_ble_eq_true rfl) ?_
  intro p e s m below meth c hx hb hr hlk hml hown hts hK A hA H locs hG ls hl
  have hown : s.vm.findClass RX5 = some m.cls := hown
  have hl : lv_has ls 6 [(0, .ref (a 0)), (1, .int p1), (2, .int p2)] := hl
  have iX5 : ∀ w ∈ u_ws RX5 TX5 27, w ∈ wsX5_layRising := fun _ h => List.mem_cons_of_mem _ (List.mem_append_right _ h)
  have k13 := hts (.fieldLink RX5 13 "SpineDesksModel" "row" "[I") (List.mem_of_getElem? (i := 1) rfl)
  have k51 := hts (.fieldLink RX5 51 "SpineDesksModel" "rising" "[I") (List.mem_of_getElem? (i := 2) rfl)
  have k54 := hts (.fieldLink RX5 54 "SpineDesksModel" "risingMany" "[I") (List.mem_of_getElem? (i := 3) rfl)
  have L131 : ∀ (rec5 : Int32 → Int32 → Int32 → Int32 → MS → Option (MS)) (hr5 : ∀ (y1 : Int32) (y2 : Int32) (y3 : Int32) (y4 : Int32) (uv : MS), rec5 y1 y2 y3 y4 uv = some (uv') → ∀ (H : Heap) (locs : List Loc) (ls : Array Slot), xG D A s.heap (WM κ a uv) H locs → lv_has ls 6 [(0, .ref (a 0)), (1, .int y1), (2, .int y2), (3, .int y3), (4, .int y4)] → W p l e ({ frames := 1, cells := 0, slots := 0, locals := 22 } : Room) s m (([.ref (a 0), .int p1, .int p2] : List Value).toArray) below meth c H locs 0 0 (MQ below (xQv D κ (WM κ a uv') A) (([.ref (a 0), .int p1, .int p2] : List Value).toArray) s 0 0 A) (F0 m 5 ls [])), ∀ (x1 : Int32) (x2 : Int32) (x3 : Int32) (x4 : Int32) (uv : MS), f_X5_layRising_131 rec5 x1 x2 x3 x4 uv = some (uv') → ∀ (H : Heap) (locs : List Loc) (ls : Array Slot), xG D A s.heap (WM κ a uv) H locs → lv_has ls 6 [(0, .ref (a 0)), (1, .int x1), (2, .int x2), (3, .int x3), (4, .int x4)] → W p l e ({ frames := 1, cells := 0, slots := 0, locals := 22 } : Room) s m (([.ref (a 0), .int p1, .int p2] : List Value).toArray) below meth c H locs 0 0 (MQ below (xQv D κ (WM κ a uv') A) (([.ref (a 0), .int p1, .int p2] : List Value).toArray) s 0 0 A) (F0 m 131 ls []) := by
    intro rec5 hr5 x1 x2 x3 x4 uv hf H locs ls hG hl
    unfold f_X5_layRising_131 at hf
    obtain ⟨y1, ey1, hf⟩ := bnd_e hf
    refine lv_iinc (v := y1) (lv' := [(4, .int y1), (0, .ref (a 0)), (1, .int x1), (2, .int x2), (3, .int x3)]) hx hb dX5_layRising_131 hl (k := 4) rfl (by rw [ey1]; rfl) (by decide) rfl (fun ls hl => ?_)
    refine lv_goto (tgt := 5) hx hb dX5_layRising_134 (by decide) ?_
    exact hr5 x1 x2 x3 y1 uv hf H locs ls hG (lv_sub hl [1, 2, 3, 4, 0] rfl)
  have L113 : ∀ (rec5 : Int32 → Int32 → Int32 → Int32 → MS → Option (MS)) (hr5 : ∀ (y1 : Int32) (y2 : Int32) (y3 : Int32) (y4 : Int32) (uv : MS), rec5 y1 y2 y3 y4 uv = some (uv') → ∀ (H : Heap) (locs : List Loc) (ls : Array Slot), xG D A s.heap (WM κ a uv) H locs → lv_has ls 6 [(0, .ref (a 0)), (1, .int y1), (2, .int y2), (3, .int y3), (4, .int y4)] → W p l e ({ frames := 1, cells := 0, slots := 0, locals := 22 } : Room) s m (([.ref (a 0), .int p1, .int p2] : List Value).toArray) below meth c H locs 0 0 (MQ below (xQv D κ (WM κ a uv') A) (([.ref (a 0), .int p1, .int p2] : List Value).toArray) s 0 0 A) (F0 m 5 ls [])), ∀ (x1 : Int32) (x2 : Int32) (x3 : Int32) (x4 : Int32) (x5 : Int32) (uv : MS), f_X5_layRising_113 rec5 x1 x2 x3 x4 x5 uv = some (uv') → ∀ (H : Heap) (locs : List Loc) (ls : Array Slot), xG D A s.heap (WM κ a uv) H locs → lv_has ls 6 [(0, .ref (a 0)), (1, .int x1), (2, .int x2), (3, .int x3), (4, .int x4), (5, .int x5)] → W p l e ({ frames := 1, cells := 0, slots := 0, locals := 22 } : Room) s m (([.ref (a 0), .int p1, .int p2] : List Value).toArray) below meth c H locs 0 0 (MQ below (xQv D κ (WM κ a uv') A) (([.ref (a 0), .int p1, .int p2] : List Value).toArray) s 0 0 A) (F0 m 113 ls []) := by
    intro rec5 hr5 x1 x2 x3 x4 x5 uv hf H locs ls hG hl
    unfold f_X5_layRising_113 at hf
    refine lv_aload_n hx hb dX5_layRising_113 rfl (lv_at hl 0 rfl) ?_
    refine x_get (C := RX5) (T := TX5) (N := 27) (ci := 5) hx hb hts iX5 hown hK hG 0 rfl rfl 17 (by decide) k51 (v := .ref (a 14)) rfl dX5_layRising_114 ?_
    refine lv_sipush (v := 300) hx hb dX5_layRising_117 (by decide) ?_
    refine lv_iload_n hx hb dX5_layRising_120 rfl (lv_at hl 2 rfl) ?_
    refine lv_imul hx hb dX5_layRising_121 ?_
    refine lv_iload hx hb dX5_layRising_122 (lv_at hl 5 rfl) ?_
    refine lv_iadd hx hb dX5_layRising_124 ?_
    refine lv_iload hx hb dX5_layRising_125 (lv_at hl 4 rfl) ?_
    obtain ⟨uv2, euv2, hin, hf⟩ := ck_e hf
    refine x_iast hx hb hK hG 14 rfl (w1 := WM κ a uv2) (by rw [euv2]; rfl) hin dX5_layRising_127 (fun H locs hG => ?_)
    obtain ⟨y3, ey3, hf⟩ := bnd_e hf
    refine lv_iinc (v := y3) (lv' := [(3, .int y3), (0, .ref (a 0)), (1, .int x1), (2, .int x2), (4, .int x4), (5, .int x5)]) hx hb dX5_layRising_128 hl (k := 3) rfl (by rw [ey3]; rfl) (by decide) rfl (fun ls hl => ?_)
    exact L131 rec5 hr5  x1 x2 y3 x4 uv2 hf H locs ls hG (lv_sub hl [1, 2, 3, 0, 4] rfl)
  have L50 : ∀ (rec5 : Int32 → Int32 → Int32 → Int32 → MS → Option (MS)) (hr5 : ∀ (y1 : Int32) (y2 : Int32) (y3 : Int32) (y4 : Int32) (uv : MS), rec5 y1 y2 y3 y4 uv = some (uv') → ∀ (H : Heap) (locs : List Loc) (ls : Array Slot), xG D A s.heap (WM κ a uv) H locs → lv_has ls 6 [(0, .ref (a 0)), (1, .int y1), (2, .int y2), (3, .int y3), (4, .int y4)] → W p l e ({ frames := 1, cells := 0, slots := 0, locals := 22 } : Room) s m (([.ref (a 0), .int p1, .int p2] : List Value).toArray) below meth c H locs 0 0 (MQ below (xQv D κ (WM κ a uv') A) (([.ref (a 0), .int p1, .int p2] : List Value).toArray) s 0 0 A) (F0 m 5 ls [])), ∀ (n : Nat), ∀ (x1 : Int32) (x2 : Int32) (x3 : Int32) (x4 : Int32) (x5 : Int32) (uv : MS), f_X5_layRising_50 rec5 n x1 x2 x3 x4 x5 uv = some (uv') → ∀ (H : Heap) (locs : List Loc) (ls : Array Slot), xG D A s.heap (WM κ a uv) H locs → lv_has ls 6 [(0, .ref (a 0)), (1, .int x1), (2, .int x2), (3, .int x3), (4, .int x4), (5, .int x5)] → W p l e ({ frames := 1, cells := 0, slots := 0, locals := 22 } : Room) s m (([.ref (a 0), .int p1, .int p2] : List Value).toArray) below meth c H locs 0 0 (MQ below (xQv D κ (WM κ a uv') A) (([.ref (a 0), .int p1, .int p2] : List Value).toArray) s 0 0 A) (F0 m 50 ls []) := by
    intro rec5 hr5 n
    induction n with
    | zero => intro x1 x2 x3 x4 x5 uv hf; cases hf
    | succ n ih =>
      intro x1 x2 x3 x4 x5 uv hf H locs ls hG hl
      replace hf : f_X5_layRising_B50 rec5 (f_X5_layRising_50 rec5 n) x1 x2 x3 x4 x5 uv = some (uv') := hf
      unfold f_X5_layRising_B50 at hf
      refine lv_iload hx hb dX5_layRising_50 (lv_at hl 5 rfl) ?_
      refine lv_if_le (tgt := 113) hx hb dX5_layRising_52 (by decide) (fun c4 => ?_) (fun c4 => ?_)
      · replace hf := if_t c4 hf
        exact L113 rec5 hr5  x1 x2 x3 x4 x5 uv hf H locs ls hG (lv_sub hl [0, 1, 2, 3, 4, 5] rfl)
      · replace hf := if_f c4 hf
        refine lv_aload_n hx hb dX5_layRising_55 rfl (lv_at hl 0 rfl) ?_
        refine lv_iload hx hb dX5_layRising_56 (lv_at hl 4 rfl) ?_
        refine lv_aload_n hx hb dX5_layRising_58 rfl (lv_at hl 0 rfl) ?_
        refine x_get (C := RX5) (T := TX5) (N := 27) (ci := 5) hx hb hts iX5 hown hK hG 0 rfl rfl 17 (by decide) k51 (v := .ref (a 14)) rfl dX5_layRising_59 ?_
        refine lv_sipush (v := 300) hx hb dX5_layRising_62 (by decide) ?_
        refine lv_iload_n hx hb dX5_layRising_65 rfl (lv_at hl 2 rfl) ?_
        refine lv_imul hx hb dX5_layRising_66 ?_
        refine lv_iload hx hb dX5_layRising_67 (lv_at hl 5 rfl) ?_
        refine lv_iadd hx hb dX5_layRising_69 ?_
        refine lv_iconst (v := 1) hx hb dX5_layRising_70 (by decide) ?_
        refine lv_isub hx hb dX5_layRising_71 ?_
        obtain ⟨v5, ev5, hin, hf⟩ := ck_e hf
        refine x_iald hx hb hK hG 14 rfl ev5 hin dX5_layRising_72 ?_
        obtain ⟨r6, q7, hf⟩ := cl1_e hf
        refine x_callVi (pre := ([] : va_W)) (wc := WM κ a uv) (wc1 := WM κ a uv) (post := ([] : va_W)) (As := [.int x4, .int v5]) (rest := []) (w1 := WM κ a uv) ⟨hx, hb, hml, hown, hts⟩ hK hG hA (by simp only [List.append_assoc, List.nil_append, List.append_nil]) (by simp only [List.append_assoc, List.nil_append, List.append_nil]) (c_X5_isLess l D κ a H.size x4 v5 uv r6 q7) (cwV 2 hts gX5_layRising_X5_isLess rfl rfl rfl (by decide +kernel) ⟨Nat.le_of_ble_eq_true rfl, Nat.le_of_ble_eq_true rfl⟩) 0 5 rfl rfl rfl rfl hl.1 rfl (Nat.le_of_ble_eq_true rfl) dX5_layRising_73 ⟨Nat.zero_le _, Nat.zero_le _⟩ (fun H locs hG => ?_)
        refine lv_if_eq (tgt := 113) hx hb dX5_layRising_76 (by decide) (fun c8 => ?_) (fun c8 => ?_)
        · replace hf := if_t c8 hf
          exact L113 rec5 hr5  x1 x2 x3 x4 x5 uv hf H locs ls hG (lv_sub hl [0, 1, 2, 3, 4, 5] rfl)
        · replace hf := if_f c8 hf
          refine lv_aload_n hx hb dX5_layRising_79 rfl (lv_at hl 0 rfl) ?_
          refine x_get (C := RX5) (T := TX5) (N := 27) (ci := 5) hx hb hts iX5 hown hK hG 0 rfl rfl 17 (by decide) k51 (v := .ref (a 14)) rfl dX5_layRising_80 ?_
          refine lv_sipush (v := 300) hx hb dX5_layRising_83 (by decide) ?_
          refine lv_iload_n hx hb dX5_layRising_86 rfl (lv_at hl 2 rfl) ?_
          refine lv_imul hx hb dX5_layRising_87 ?_
          refine lv_iload hx hb dX5_layRising_88 (lv_at hl 5 rfl) ?_
          refine lv_iadd hx hb dX5_layRising_90 ?_
          refine lv_aload_n hx hb dX5_layRising_91 rfl (lv_at hl 0 rfl) ?_
          refine x_get (C := RX5) (T := TX5) (N := 27) (ci := 5) hx hb hts iX5 hown hK hG 0 rfl rfl 17 (by decide) k51 (v := .ref (a 14)) rfl dX5_layRising_92 ?_
          refine lv_sipush (v := 300) hx hb dX5_layRising_95 (by decide) ?_
          refine lv_iload_n hx hb dX5_layRising_98 rfl (lv_at hl 2 rfl) ?_
          refine lv_imul hx hb dX5_layRising_99 ?_
          refine lv_iload hx hb dX5_layRising_100 (lv_at hl 5 rfl) ?_
          refine lv_iadd hx hb dX5_layRising_102 ?_
          refine lv_iconst (v := 1) hx hb dX5_layRising_103 (by decide) ?_
          refine lv_isub hx hb dX5_layRising_104 ?_
          obtain ⟨v9, ev9, hin, hf⟩ := ck_e hf
          refine x_iald hx hb hK hG 14 rfl ev9 hin dX5_layRising_105 ?_
          obtain ⟨uv10, euv10, hin, hf⟩ := ck_e hf
          refine x_iast hx hb hK hG 14 rfl (w1 := WM κ a uv10) (by rw [euv10]; rfl) hin dX5_layRising_106 (fun H locs hG => ?_)
          obtain ⟨y11, ey11, hf⟩ := bnd_e hf
          refine lv_iinc (v := y11) (lv' := [(5, .int y11), (0, .ref (a 0)), (1, .int x1), (2, .int x2), (3, .int x3), (4, .int x4)]) hx hb dX5_layRising_107 hl (k := 5) rfl (by rw [ey11]; rfl) (by decide) rfl (fun ls hl => ?_)
          refine lv_goto (tgt := 50) hx hb dX5_layRising_110 (by decide) ?_
          exact ih x1 x2 x3 x4 y11 uv10 hf H locs ls hG (lv_sub hl [1, 2, 3, 4, 5, 0] rfl)
  have L5 : ∀ (n : Nat), ∀ (x1 : Int32) (x2 : Int32) (x3 : Int32) (x4 : Int32) (uv : MS), f_X5_layRising_5 n x1 x2 x3 x4 uv = some (uv') → ∀ (H : Heap) (locs : List Loc) (ls : Array Slot), xG D A s.heap (WM κ a uv) H locs → lv_has ls 6 [(0, .ref (a 0)), (1, .int x1), (2, .int x2), (3, .int x3), (4, .int x4)] → W p l e ({ frames := 1, cells := 0, slots := 0, locals := 22 } : Room) s m (([.ref (a 0), .int p1, .int p2] : List Value).toArray) below meth c H locs 0 0 (MQ below (xQv D κ (WM κ a uv') A) (([.ref (a 0), .int p1, .int p2] : List Value).toArray) s 0 0 A) (F0 m 5 ls []) := by
    intro  n
    induction n with
    | zero => intro x1 x2 x3 x4 uv hf; cases hf
    | succ n ih =>
      intro x1 x2 x3 x4 uv hf H locs ls hG hl
      replace hf : f_X5_layRising_B5 (f_X5_layRising_5 n) x1 x2 x3 x4 uv = some (uv') := hf
      unfold f_X5_layRising_B5 at hf
      refine lv_iload hx hb dX5_layRising_5 (lv_at hl 4 rfl) ?_
      refine lv_aload_n hx hb dX5_layRising_7 rfl (lv_at hl 0 rfl) ?_
      refine x_get (C := RX5) (T := TX5) (N := 27) (ci := 5) hx hb hts iX5 hown hK hG 0 rfl rfl 2 (by decide) k13 (v := .ref (a 2)) rfl dX5_layRising_8 ?_
      refine lv_iconst (v := 0) hx hb dX5_layRising_11 (by decide) ?_
      obtain ⟨v12, ev12, hin, hf⟩ := ck_e hf
      refine x_iald hx hb hK hG 2 rfl ev12 hin dX5_layRising_12 ?_
      refine lv_icmp_ge (tgt := 137) hx hb dX5_layRising_13 (by decide) (fun c13 => ?_) (fun c13 => ?_)
      · replace hf := if_t c13 hf
        refine lv_aload_n hx hb dX5_layRising_137 rfl (lv_at hl 0 rfl) ?_
        refine x_get (C := RX5) (T := TX5) (N := 27) (ci := 5) hx hb hts iX5 hown hK hG 0 rfl rfl 18 (by decide) k54 (v := .ref (a 15)) rfl dX5_layRising_138 ?_
        refine lv_iload_n hx hb dX5_layRising_141 rfl (lv_at hl 2 rfl) ?_
        refine lv_iload_n hx hb dX5_layRising_142 rfl (lv_at hl 3 rfl) ?_
        obtain ⟨uv14, euv14, hin, hf⟩ := ck_e hf
        refine x_iast hx hb hK hG 15 rfl (w1 := WM κ a uv14) (by rw [euv14]; rfl) hin dX5_layRising_143 (fun H locs hG => ?_)
        have z0 := Option.some.inj hf
        exact x_vret hx hb hr hlk hK hG (by rw [z0]) dX5_layRising_144
      · replace hf := if_f c13 hf
        refine lv_aload_n hx hb dX5_layRising_16 rfl (lv_at hl 0 rfl) ?_
        refine x_get (C := RX5) (T := TX5) (N := 27) (ci := 5) hx hb hts iX5 hown hK hG 0 rfl rfl 2 (by decide) k13 (v := .ref (a 2)) rfl dX5_layRising_17 ?_
        refine lv_iload hx hb dX5_layRising_20 (lv_at hl 4 rfl) ?_
        obtain ⟨r15, q16, hf⟩ := cl1_e hf
        refine x_callSi (pre := ([] : va_W)) (wc := ([] : va_W)) (wc1 := ([] : va_W)) (post := WM κ a uv) (As := [.int x4]) (rest := [.ref (a 2)]) (w1 := WM κ a uv) ⟨hx, hb, hml, hown, hts⟩ hK hG hA (by simp only [List.append_assoc, List.nil_append, List.append_nil]) (by simp only [List.append_assoc, List.nil_append, List.append_nil]) (c_X5_at l D κ a H.size x4 r15 q16) (va_cwS 1 hts gX5_layRising_X5_at rfl rfl rfl (by decide +kernel) ⟨Nat.le_of_ble_eq_true rfl, Nat.le_of_ble_eq_true rfl⟩) rfl hl.1 rfl (Nat.le_of_ble_eq_true rfl) dX5_layRising_22 ⟨Nat.zero_le _, Nat.zero_le _⟩ (fun H locs hG => ?_)
        refine lv_iconst (v := 1) hx hb dX5_layRising_25 (by decide) ?_
        refine lv_iadd hx hb dX5_layRising_26 ?_
        obtain ⟨v17, ev17, hin, hf⟩ := ck_e hf
        refine x_iald hx hb hK hG 2 rfl ev17 hin dX5_layRising_27 ?_
        refine lv_iload_n hx hb dX5_layRising_28 rfl (lv_at hl 1 rfl) ?_
        refine lv_icmp_ne (tgt := 131) hx hb dX5_layRising_29 (by decide) (fun c18 => ?_) (fun c18 => ?_)
        · replace hf := if_f c18 hf
          exact L131 (f_X5_layRising_5 n) ih  x1 x2 x3 x4 uv hf H locs ls hG (lv_sub hl [0, 1, 2, 3, 4] rfl)
        · replace hf := if_t c18 hf
          refine lv_aload_n hx hb dX5_layRising_32 rfl (lv_at hl 0 rfl) ?_
          refine x_get (C := RX5) (T := TX5) (N := 27) (ci := 5) hx hb hts iX5 hown hK hG 0 rfl rfl 2 (by decide) k13 (v := .ref (a 2)) rfl dX5_layRising_33 ?_
          refine lv_iload hx hb dX5_layRising_36 (lv_at hl 4 rfl) ?_
          obtain ⟨r19, q20, hf⟩ := cl1_e hf
          refine x_callSi (pre := ([] : va_W)) (wc := ([] : va_W)) (wc1 := ([] : va_W)) (post := WM κ a uv) (As := [.int x4]) (rest := [.ref (a 2)]) (w1 := WM κ a uv) ⟨hx, hb, hml, hown, hts⟩ hK hG hA (by simp only [List.append_assoc, List.nil_append, List.append_nil]) (by simp only [List.append_assoc, List.nil_append, List.append_nil]) (c_X5_at l D κ a H.size x4 r19 q20) (va_cwS 1 hts gX5_layRising_X5_at rfl rfl rfl (by decide +kernel) ⟨Nat.le_of_ble_eq_true rfl, Nat.le_of_ble_eq_true rfl⟩) rfl hl.1 rfl (Nat.le_of_ble_eq_true rfl) dX5_layRising_38 ⟨Nat.zero_le _, Nat.zero_le _⟩ (fun H locs hG => ?_)
          refine lv_iconst (v := 2) hx hb dX5_layRising_41 (by decide) ?_
          refine lv_iadd hx hb dX5_layRising_42 ?_
          obtain ⟨v21, ev21, hin, hf⟩ := ck_e hf
          refine x_iald hx hb hK hG 2 rfl ev21 hin dX5_layRising_43 ?_
          refine lv_if_ne (tgt := 131) hx hb dX5_layRising_44 (by decide) (fun c22 => ?_) (fun c22 => ?_)
          · replace hf := if_f c22 hf
            exact L131 (f_X5_layRising_5 n) ih  x1 x2 x3 x4 uv hf H locs ls hG (lv_sub hl [0, 1, 2, 3, 4] rfl)
          · replace hf := if_t c22 hf
            refine lv_iload_n hx hb dX5_layRising_47 rfl (lv_at hl 3 rfl) ?_
            refine lv_istore (lv' := [(5, .int x3), (0, .ref (a 0)), (1, .int x1), (2, .int x2), (3, .int x3), (4, .int x4)]) hx hb dX5_layRising_48 hl (by decide) rfl (fun ls hl => ?_)
            exact L50 (f_X5_layRising_5 n) ih FU x1 x2 x3 x4 x3 uv hf H locs ls hG (lv_sub hl [1, 2, 3, 4, 5, 0] rfl)
  unfold f_X5_layRising at hf
  refine lv_iconst (v := 0) hx hb dX5_layRising_0 (by decide) ?_
  refine lv_istore_n (lv' := [(3, .int 0), (0, .ref (a 0)), (1, .int p1), (2, .int p2)]) hx hb dX5_layRising_1 rfl hl (by decide) rfl (fun ls hl => ?_)
  refine lv_iconst (v := 0) hx hb dX5_layRising_2 (by decide) ?_
  refine lv_istore (lv' := [(4, .int 0), (3, .int 0), (0, .ref (a 0)), (1, .int p1), (2, .int p2)]) hx hb dX5_layRising_3 hl (by decide) rfl (fun ls hl => ?_)
  exact L5  FU p1 p2 0 0 uv hf H locs ls hG (lv_sub hl [2, 3, 4, 1, 0] rfl)
set_option maxRecDepth 100000 in
set_option maxHeartbeats 4000000 in
theorem c_X5_least (l : Launch) (D : va_G) (κ : Nat → ClassId) (a : Nat → Nat) (sz : Nat) (p1 : Int32) (p2 : Int32) (uv : MS) (r' : Int32) (uv' : MS) (hf : f_X5_least p1 p2 uv = some (r', uv')) : Met l yX5_least wsX5_least ({ frames := 2, cells := 0, slots := 0, locals := 47 } : Room) (xPc D κ [.ref (a 0), .int p1, .int p2] (WM κ a uv) sz) (xQi D κ r' (WM κ a uv') (va_A (WM κ a uv) sz)) 0 0 (va_A (WM κ a uv) sz) := by
  refine x_ofW (cc := cX5_least) (maxL := 3) (ret := (some .int)) (Qf := fun A => xQi D κ r' (WM κ a uv') A) (by decide) rfl (Nat.le_of_ble_eq_true rfl) ?_
  intro p e s m below meth c hx hb hr hlk hml hown hts hK A hA H locs hG ls hl
  have hown : s.vm.findClass RX5 = some m.cls := hown
  have hl : lv_has ls 3 [(0, .ref (a 0)), (1, .int p1), (2, .int p2)] := hl
  have iX5 : ∀ w ∈ u_ws RX5 TX5 27, w ∈ wsX5_least := fun _ h => List.mem_cons_of_mem _ (List.mem_append_right _ h)
  have k51 := hts (.fieldLink RX5 51 "SpineDesksModel" "rising" "[I") (List.mem_of_getElem? (i := 3) rfl)
  have k54 := hts (.fieldLink RX5 54 "SpineDesksModel" "risingMany" "[I") (List.mem_of_getElem? (i := 2) rfl)
  have k63 := hts (.fieldLink RX5 63 "SpineDesksModel" "thrown" "I") (List.mem_of_getElem? (i := 1) rfl)
  unfold f_X5_least at hf
  refine lv_aload_n hx hb dX5_least_0 rfl (lv_at hl 0 rfl) ?_
  refine lv_iconst (v := 0) hx hb dX5_least_1 (by decide) ?_
  obtain ⟨uv1, euv1, hf⟩ := bnd_e hf
  refine x_put (C := RX5) (T := TX5) (N := 27) (ci := 5) hx hb hts iX5 tyX5 tyX5_ok nmX5 hown hK hG 0 rfl rfl 0 (by decide) k63 rfl (ty := .int) (v := .int 0) rfl rfl rfl (Nat.le_of_ble_eq_true rfl) (w1 := WM κ a uv1) (by rw [euv1]; rfl) dX5_least_2 (fun H locs hG => ?_)
  refine lv_iload_n hx hb dX5_least_5 rfl (lv_at hl 1 rfl) ?_
  obtain ⟨r2, q3, hf⟩ := cl1_e hf
  refine x_callSi (pre := ([] : va_W)) (wc := ([] : va_W)) (wc1 := ([] : va_W)) (post := WM κ a uv1) (As := [.int p1]) (rest := []) (w1 := WM κ a uv1) ⟨hx, hb, hml, hown, hts⟩ hK hG hA (by simp only [List.append_assoc, List.nil_append, List.append_nil]) (by simp only [List.append_assoc, List.nil_append, List.append_nil]) (c_X5_isDesk l D κ a H.size p1 r2 q3) (va_cwS 1 hts gX5_least_X5_isDesk rfl rfl rfl (by decide +kernel) ⟨Nat.le_of_ble_eq_true rfl, Nat.le_of_ble_eq_true rfl⟩) rfl hl.1 rfl (Nat.le_of_ble_eq_true rfl) dX5_least_6 ⟨Nat.zero_le _, Nat.zero_le _⟩ (fun H locs hG => ?_)
  refine lv_if_ne (tgt := 14) hx hb dX5_least_9 (by decide) (fun c4 => ?_) (fun c4 => ?_)
  · replace hf := if_f c4 hf
    refine lv_aload_n hx hb dX5_least_14 rfl (lv_at hl 0 rfl) ?_
    refine lv_iload_n hx hb dX5_least_15 rfl (lv_at hl 1 rfl) ?_
    refine lv_iconst (v := 0) hx hb dX5_least_16 (by decide) ?_
    obtain ⟨uv5, q6, hf⟩ := cl1_e hf
    refine x_callVv (pre := ([] : va_W)) (wc := WM κ a uv1) (wc1 := WM κ a uv5) (post := ([] : va_W)) (As := [.int p1, .int 0]) (rest := []) (w1 := WM κ a uv5) ⟨hx, hb, hml, hown, hts⟩ hK hG hA (by simp only [List.append_assoc, List.nil_append, List.append_nil]) (by simp only [List.append_assoc, List.nil_append, List.append_nil]) (c_X5_layRising l D κ a H.size p1 0 uv1 uv5 q6) (cwV 2 hts gX5_least_X5_layRising rfl rfl rfl (by decide +kernel) ⟨Nat.le_of_ble_eq_true rfl, Nat.le_of_ble_eq_true rfl⟩) 0 5 rfl rfl rfl rfl hl.1 rfl (Nat.le_of_ble_eq_true rfl) dX5_least_17 ⟨Nat.zero_le _, Nat.zero_le _⟩ (fun H locs hG => ?_)
    refine lv_iload_n hx hb dX5_least_20 rfl (lv_at hl 2 rfl) ?_
    refine lv_i2l hx hb dX5_least_21 rfl ?_
    refine lv_lconst (v := 0) hx hb dX5_least_22 (by decide) ?_
    refine lv_aload_n hx hb dX5_least_23 rfl (lv_at hl 0 rfl) ?_
    refine x_get (C := RX5) (T := TX5) (N := 27) (ci := 5) hx hb hts iX5 hown hK hG 0 rfl rfl 18 (by decide) k54 (v := .ref (a 15)) rfl dX5_least_24 ?_
    refine lv_iconst (v := 0) hx hb dX5_least_27 (by decide) ?_
    obtain ⟨v7, ev7, hin, hf⟩ := ck_e hf
    refine x_iald hx hb hK hG 15 rfl ev7 hin dX5_least_28 ?_
    refine lv_i2l hx hb dX5_least_29 rfl ?_
    refine lv_lconst (v := 1) hx hb dX5_least_30 (by decide) ?_
    refine lv_lsub hx hb dX5_least_31 ?_
    obtain ⟨r8, q9, hf⟩ := cl1_e hf
    refine x_callSi (pre := ([] : va_W)) (wc := ([] : va_W)) (wc1 := ([] : va_W)) (post := WM κ a uv5) (As := [.long (p2.toInt64), .long 0, .long ((v7.toInt64) - 1)]) (rest := []) (w1 := WM κ a uv5) ⟨hx, hb, hml, hown, hts⟩ hK hG hA (by simp only [List.append_assoc, List.nil_append, List.append_nil]) (by simp only [List.append_assoc, List.nil_append, List.append_nil]) (c_X5_in l D κ a H.size (p2.toInt64) 0 ((v7.toInt64) - 1) r8 q9) (va_cwS 3 hts gX5_least_X5_in rfl rfl rfl (by decide +kernel) ⟨Nat.le_of_ble_eq_true rfl, Nat.le_of_ble_eq_true rfl⟩) rfl hl.1 rfl (Nat.le_of_ble_eq_true rfl) dX5_least_32 ⟨Nat.zero_le _, Nat.zero_le _⟩ (fun H locs hG => ?_)
    refine lv_if_eq (tgt := 47) hx hb dX5_least_35 (by decide) (fun c10 => ?_) (fun c10 => ?_)
    · replace hf := if_t c10 hf
      refine lv_iconst (v := (-1)) hx hb dX5_least_47 (by decide) ?_
      have hz := Option.some.inj hf
      have z0 := (Prod.mk.inj hz).1
      replace hz := (Prod.mk.inj hz).2
      have z1 := hz
      exact x_iret hx hb hr hlk hK hG z0 (by rw [z1]) dX5_least_48
    · replace hf := if_f c10 hf
      refine lv_aload_n hx hb dX5_least_38 rfl (lv_at hl 0 rfl) ?_
      refine x_get (C := RX5) (T := TX5) (N := 27) (ci := 5) hx hb hts iX5 hown hK hG 0 rfl rfl 17 (by decide) k51 (v := .ref (a 14)) rfl dX5_least_39 ?_
      refine lv_iload_n hx hb dX5_least_42 rfl (lv_at hl 2 rfl) ?_
      obtain ⟨v11, ev11, hin, hf⟩ := ck_e hf
      refine x_iald hx hb hK hG 14 rfl ev11 hin dX5_least_43 ?_
      refine lv_goto (tgt := 48) hx hb dX5_least_44 (by decide) ?_
      have hz := Option.some.inj hf
      have z0 := (Prod.mk.inj hz).1
      replace hz := (Prod.mk.inj hz).2
      have z1 := hz
      exact x_iret hx hb hr hlk hK hG z0 (by rw [z1]) dX5_least_48
  · replace hf := if_t c4 hf
    refine lv_iconst (v := (-1)) hx hb dX5_least_12 (by decide) ?_
    have hz := Option.some.inj hf
    have z0 := (Prod.mk.inj hz).1
    replace hz := (Prod.mk.inj hz).2
    have z1 := hz
    exact x_iret hx hb hr hlk hK hG z0 (by rw [z1]) dX5_least_13
