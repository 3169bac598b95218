set_option maxRecDepth 100000 in
set_option maxHeartbeats 4000000 in
theorem c_X4_even (l : Launch) (D : va_G) (κ : Nat → ClassId) (a : Nat → Nat) (sz : Nat)  (uh : HS) (ur : RS) (un : NS) (us : SS) (uo : OS) (r' : Int32) (uh' : HS) (ur' : RS) (hf : f_X4_even uh ur uo = some (r', uh', ur')) : Met l yX4_even wsX4_even ({ frames := 6, cells := 0, slots := 0, locals := 143 } : Room) (xPc D κ [.ref (a 25)] (WH κ a uh ++ (WR κ a ur ++ (WN κ a un ++ (WS κ a us ++ (WO κ a uo))))) sz) (xQi D κ r' (WH κ a uh' ++ (WR κ a ur' ++ (WN κ a un ++ (WS κ a us ++ (WO κ a uo))))) (va_A (WH κ a uh ++ (WR κ a ur ++ (WN κ a un ++ (WS κ a us ++ (WO κ a uo))))) sz)) 0 0 (va_A (WH κ a uh ++ (WR κ a ur ++ (WN κ a un ++ (WS κ a us ++ (WO κ a uo))))) sz) := by
  refine x_ofW (cc := cX4_even) (maxL := 1) (ret := (some .int)) (Qf := fun A => xQi D κ r' (WH κ a uh' ++ (WR κ a ur' ++ (WN κ a un ++ (WS κ a us ++ (WO κ a uo))))) A) (by decide) rfl (Nat.le_of_ble_eq_true rfl) ?_
  intro p e s m below meth c hx hb hr hlk hml hown hts hK A hA H locs hG ls hl
  have hown : s.vm.findClass RX4 = some m.cls := hown
  have hl : lv_has ls 1 [(0, .ref (a 25))] := hl
  have iX4 : ∀ w ∈ u_ws RX4 TX4 8, w ∈ wsX4_even := fun _ h => List.mem_cons_of_mem _ (List.mem_append_left _ (List.mem_append_left _ (List.mem_append_right _ h)))
  have k42 := hts (.fieldLink RX4 42 "SpineDesks" "rows" "LSpineDesks$Rows;") (List.mem_of_getElem? (i := 1) rfl)
  unfold f_X4_even at hf
  refine lv_aload_n hx hb dX4_even_0 rfl (lv_at hl 0 rfl) ?_
  refine x_get (C := RX4) (T := TX4) (N := 8) (ci := 4) hx hb hts iX4 hown hK hG 25 rfl rfl 5 (by decide) k42 (v := .ref (a 13)) rfl dX4_even_1 ?_
  obtain ⟨r1, uh2, ur3, q4, hf⟩ := cl3_e hf
  refine x_callVi (pre := ([] : va_W)) (wc := WH κ a uh ++ (WR κ a ur)) (wc1 := WH κ a uh2 ++ (WR κ a ur3)) (post := WN κ a un ++ (WS κ a us ++ (WO κ a uo))) (As := []) (rest := []) (w1 := WH κ a uh2 ++ (WR κ a ur3 ++ (WN κ a un ++ (WS κ a us ++ (WO κ a uo))))) ⟨hx, hb, hml, hown, hts⟩ hK hG hA (by simp only [List.append_assoc, List.nil_append, List.append_nil]) (by simp only [List.append_assoc, List.nil_append, List.append_nil]) (c_X2_evenDesks l D κ a H.size uh ur r1 uh2 ur3 q4) (cwV 0 hts gX4_even_X2_evenDesks rfl rfl rfl (by decide +kernel) ⟨Nat.le_of_ble_eq_true rfl, Nat.le_of_ble_eq_true rfl⟩) 13 2 rfl rfl rfl rfl hl.1 rfl (Nat.le_of_ble_eq_true rfl) dX4_even_4 ⟨Nat.zero_le _, Nat.zero_le _⟩ (fun H locs hG => ?_)
  have hz := Option.some.inj hf
  have z0 := (Prod.mk.inj hz).1
  replace hz := (Prod.mk.inj hz).2
  have z1 := (Prod.mk.inj hz).1
  replace hz := (Prod.mk.inj hz).2
  have z2 := hz
  exact x_iret hx hb hr hlk hK hG z0 (by rw [z1, z2]) dX4_even_7
set_option maxRecDepth 100000 in
set_option maxHeartbeats 4000000 in
theorem c_X4_log (l : Launch) (D : va_G) (κ : Nat → ClassId) (a : Nat → Nat) (sz : Nat) (p1 : Int32) (p2 : Int32) (uh : HS) (ur : RS) (un : NS) (us : SS) (uo : OS) (r' : Int64)  (hf : f_X4_log p1 p2 uh uo = some (r')) : Met l yX4_log wsX4_log ({ frames := 2, cells := 0, slots := 0, locals := 44 } : Room) (xPc D κ [.ref (a 25), .int p1, .int p2] (WH κ a uh ++ (WR κ a ur ++ (WN κ a un ++ (WS κ a us ++ (WO κ a uo))))) sz) (xQl D κ r' (WH κ a uh ++ (WR κ a ur ++ (WN κ a un ++ (WS κ a us ++ (WO κ a uo))))) (va_A (WH κ a uh ++ (WR κ a ur ++ (WN κ a un ++ (WS κ a us ++ (WO κ a uo))))) sz)) 0 0 (va_A (WH κ a uh ++ (WR κ a ur ++ (WN κ a un ++ (WS κ a us ++ (WO κ a uo))))) sz) := by
  refine x_ofW (cc := cX4_log) (maxL := 4) (ret := (some .long)) (Qf := fun A => xQl D κ r' (WH κ a uh ++ (WR κ a ur ++ (WN κ a un ++ (WS κ a us ++ (WO κ a uo))))) A) (by decide) rfl (Nat.le_of_ble_eq_true rfl) ?_
  intro p e s m below meth c hx hb hr hlk hml hown hts hK A hA H locs hG ls hl
  have hown : s.vm.findClass RX4 = some m.cls := hown
  have hl : lv_has ls 4 [(0, .ref (a 25)), (1, .int p1), (2, .int p2)] := hl
  have iX0 : ∀ w ∈ u_ws RX0 TX0 17, w ∈ wsX4_log := fun _ h => List.mem_cons_of_mem _ (List.mem_append_right _ h)
  have iX4 : ∀ w ∈ u_ws RX4 TX4 8, w ∈ wsX4_log := fun _ h => List.mem_cons_of_mem _ (List.mem_append_left _ (List.mem_append_right _ h))
  have k12 := hts (.fieldLink RX4 12 "SpineDesks" "hall" "LSpineDesks$Hall;") (List.mem_of_getElem? (i := 1) rfl)
  have k237 := hts (.constantLong RX4 237 (-9223372036854775808)) (List.mem_of_getElem? (i := 2) rfl)
  have k269 := hts (.fieldLink RX4 269 "SpineDesks$Hall" "logItem" "[I") (List.mem_of_getElem? (i := 3) rfl)
  have k272 := hts (.fieldLink RX4 272 "SpineDesks$Hall" "logKey" "[J") (List.mem_of_getElem? (i := 4) rfl)
  have k275 := hts (.fieldLink RX4 275 "SpineDesks$Hall" "logDesk" "[I") (List.mem_of_getElem? (i := 5) rfl)
  unfold f_X4_log at hf
  refine lv_iload_n hx hb dX4_log_0 rfl (lv_at hl 1 rfl) ?_
  refine lv_if_lt (tgt := 15) hx hb dX4_log_1 (by decide) (fun c1 => ?_) (fun c1 => ?_)
  · replace hf := if_t c1 hf
    refine lv_ldc2 (v := (-9223372036854775808)) hx hb hown k237 dX4_log_15 ?_
    have z0 := Option.some.inj hf
    exact x_lret hx hb hr hlk hK hG z0 rfl dX4_log_18
  · replace hf := if_f c1 hf
    refine lv_iload_n hx hb dX4_log_4 rfl (lv_at hl 1 rfl) ?_
    refine lv_aload_n hx hb dX4_log_5 rfl (lv_at hl 0 rfl) ?_
    refine x_get (C := RX4) (T := TX4) (N := 8) (ci := 4) hx hb hts iX4 hown hK hG 25 rfl rfl 0 (by decide) k12 (v := .ref (a 0)) rfl dX4_log_6 ?_
    obtain ⟨r2, q3, hf⟩ := cl1_e hf
    refine x_callVi (pre := ([] : va_W)) (wc := WH κ a uh) (wc1 := WH κ a uh) (post := WR κ a ur ++ (WN κ a un ++ (WS κ a us ++ (WO κ a uo)))) (As := []) (rest := [.int p1]) (w1 := WH κ a uh ++ (WR κ a ur ++ (WN κ a un ++ (WS κ a us ++ (WO κ a uo))))) ⟨hx, hb, hml, hown, hts⟩ hK hG hA (by simp only [List.append_assoc, List.nil_append, List.append_nil]) (by simp only [List.append_assoc, List.nil_append, List.append_nil]) (c_X0_logSize l D κ a H.size uh r2 q3) (cwV 0 hts gX4_log_X0_logSize rfl rfl rfl (by decide +kernel) ⟨Nat.le_of_ble_eq_true rfl, Nat.le_of_ble_eq_true rfl⟩) 0 0 rfl rfl rfl rfl hl.1 rfl (Nat.le_of_ble_eq_true rfl) dX4_log_9 ⟨Nat.zero_le _, Nat.zero_le _⟩ (fun H locs hG => ?_)
    refine lv_icmp_lt (tgt := 19) hx hb dX4_log_12 (by decide) (fun c4 => ?_) (fun c4 => ?_)
    · replace hf := if_t c4 hf
      refine lv_aload_n hx hb dX4_log_19 rfl (lv_at hl 0 rfl) ?_
      refine x_get (C := RX4) (T := TX4) (N := 8) (ci := 4) hx hb hts iX4 hown hK hG 25 rfl rfl 0 (by decide) k12 (v := .ref (a 0)) rfl dX4_log_20 ?_
      refine lv_iload_n hx hb dX4_log_23 rfl (lv_at hl 1 rfl) ?_
      obtain ⟨r5, q6, hf⟩ := cl1_e hf
      refine x_callVi (pre := ([] : va_W)) (wc := WH κ a uh) (wc1 := WH κ a uh) (post := WR κ a ur ++ (WN κ a un ++ (WS κ a us ++ (WO κ a uo)))) (As := [.int p1]) (rest := []) (w1 := WH κ a uh ++ (WR κ a ur ++ (WN κ a un ++ (WS κ a us ++ (WO κ a uo))))) ⟨hx, hb, hml, hown, hts⟩ hK hG hA (by simp only [List.append_assoc, List.nil_append, List.append_nil]) (by simp only [List.append_assoc, List.nil_append, List.append_nil]) (c_X0_logPlace l D κ a H.size p1 uh r5 q6) (cwV 1 hts gX4_log_X0_logPlace rfl rfl rfl (by decide +kernel) ⟨Nat.le_of_ble_eq_true rfl, Nat.le_of_ble_eq_true rfl⟩) 0 0 rfl rfl rfl rfl hl.1 rfl (Nat.le_of_ble_eq_true rfl) dX4_log_24 ⟨Nat.zero_le _, Nat.zero_le _⟩ (fun H locs hG => ?_)
      refine lv_istore_n (lv' := [(3, .int r5), (0, .ref (a 25)), (1, .int p1), (2, .int p2)]) hx hb dX4_log_27 rfl hl (by decide) rfl (fun ls hl => ?_)
      refine lv_iload_n hx hb dX4_log_28 rfl (lv_at hl 3 rfl) ?_
      by_cases c7 : p2 = 0
      · replace hf := if_t c7 hf
        refine lv_tableIn (tgt := 56) (off := 27) hx hb dX4_log_29 (by rw [c7]; decide) (by rw [c7]; decide) (by rw [c7]; rfl) (by decide) ?_
        refine lv_aload_n hx hb dX4_log_56 rfl (lv_at hl 1 rfl) ?_
        refine x_get (C := RX4) (T := TX4) (N := 8) (ci := 4) hx hb hts iX4 hown hK hG 25 rfl rfl 0 (by decide) k12 (v := .ref (a 0)) rfl dX4_log_57 ?_
        refine x_get (C := RX0) (T := TX0) (N := 17) (ci := 0) hx hb hts iX0 hown hK hG 0 rfl rfl 14 (by decide) k269 (v := .ref (a 10)) rfl dX4_log_60 ?_
        refine lv_iload_n hx hb dX4_log_63 rfl (lv_at hl 0 rfl) ?_
        obtain ⟨v8, ev8, hin, hf⟩ := ck_e hf
        refine x_iald hx hb hK hG 10 rfl ev8 hin dX4_log_64 ?_
        refine lv_i2l hx hb dX4_log_65 rfl ?_
        have z0 := Option.some.inj hf
        exact x_lret hx hb hr hlk hK hG z0 rfl dX4_log_66
      replace hf := if_f c7 hf
      by_cases c9 : p2 = 1
      · replace hf := if_t c9 hf
        refine lv_tableIn (tgt := 67) (off := 38) hx hb dX4_log_29 (by rw [c9]; decide) (by rw [c9]; decide) (by rw [c9]; rfl) (by decide) ?_
        refine lv_aload_n hx hb dX4_log_67 rfl (lv_at hl 1 rfl) ?_
        refine x_get (C := RX4) (T := TX4) (N := 8) (ci := 4) hx hb hts iX4 hown hK hG 25 rfl rfl 0 (by decide) k12 (v := .ref (a 0)) rfl dX4_log_68 ?_
        refine x_get (C := RX0) (T := TX0) (N := 17) (ci := 0) hx hb hts iX0 hown hK hG 0 rfl rfl 15 (by decide) k272 (v := .ref (a 11)) rfl dX4_log_71 ?_
        refine lv_iload_n hx hb dX4_log_74 rfl (lv_at hl 0 rfl) ?_
        obtain ⟨v10, ev10, hin, hf⟩ := ck_e hf
        refine x_lald hx hb hK hG 11 rfl ev10 hin dX4_log_75 ?_
        have z0 := Option.some.inj hf
        exact x_lret hx hb hr hlk hK hG z0 rfl dX4_log_76
      replace hf := if_f c9 hf
      by_cases c11 : p2 = 2
      · replace hf := if_t c11 hf
        refine lv_tableIn (tgt := 77) (off := 48) hx hb dX4_log_29 (by rw [c11]; decide) (by rw [c11]; decide) (by rw [c11]; rfl) (by decide) ?_
        refine lv_aload_n hx hb dX4_log_77 rfl (lv_at hl 1 rfl) ?_
        refine x_get (C := RX4) (T := TX4) (N := 8) (ci := 4) hx hb hts iX4 hown hK hG 25 rfl rfl 0 (by decide) k12 (v := .ref (a 0)) rfl dX4_log_78 ?_
        refine x_get (C := RX0) (T := TX0) (N := 17) (ci := 0) hx hb hts iX0 hown hK hG 0 rfl rfl 16 (by decide) k275 (v := .ref (a 12)) rfl dX4_log_81 ?_
        refine lv_iload_n hx hb dX4_log_84 rfl (lv_at hl 0 rfl) ?_
        obtain ⟨v12, ev12, hin, hf⟩ := ck_e hf
        refine x_iald hx hb hK hG 12 rfl ev12 hin dX4_log_85 ?_
        refine lv_i2l hx hb dX4_log_86 rfl ?_
        have z0 := Option.some.inj hf
        exact x_lret hx hb hr hlk hK hG z0 rfl dX4_log_87
      replace hf := if_f c11 hf
      refine lv_tableOut (tgt := 88) hx hb dX4_log_29 (x_sw (k := 2) (by decide) (fun j hj => ?_)) (by decide) ?_
      · match j, hj with
        | 0, _ => exact c7
        | 1, _ => exact c9
        | 2, _ => exact c11
        | j + 3, hj => exact absurd hj (by omega)
      · refine lv_ldc2 (v := (-9223372036854775808)) hx hb hown k237 dX4_log_88 ?_
        have z0 := Option.some.inj hf
        exact x_lret hx hb hr hlk hK hG z0 rfl dX4_log_91
    · replace hf := if_f c4 hf
      refine lv_ldc2 (v := (-9223372036854775808)) hx hb hown k237 dX4_log_15 ?_
      have z0 := Option.some.inj hf
      exact x_lret hx hb hr hlk hK hG z0 rfl dX4_log_18
set_option maxRecDepth 100000 in
set_option maxHeartbeats 4000000 in
theorem c_X4_arcs (l : Launch) (D : va_G) (κ : Nat → ClassId) (a : Nat → Nat) (sz : Nat) (p1 : Int32) (p2 : Int32) (uh : HS) (ur : RS) (un : NS) (us : SS) (uo : OS) (r' : Int32)  (hf : f_X4_arcs p1 p2 un uo = some (r')) : Met l yX4_arcs wsX4_arcs ({ frames := 1, cells := 0, slots := 0, locals := 21 } : Room) (xPc D κ [.ref (a 25), .int p1, .int p2] (WH κ a uh ++ (WR κ a ur ++ (WN κ a un ++ (WS κ a us ++ (WO κ a uo))))) sz) (xQi D κ r' (WH κ a uh ++ (WR κ a ur ++ (WN κ a un ++ (WS κ a us ++ (WO κ a uo))))) (va_A (WH κ a uh ++ (WR κ a ur ++ (WN κ a un ++ (WS κ a us ++ (WO κ a uo))))) sz)) 0 0 (va_A (WH κ a uh ++ (WR κ a ur ++ (WN κ a un ++ (WS κ a us ++ (WO κ a uo))))) sz) := by
  refine x_ofW (cc := cX4_arcs) (maxL := 3) (ret := (some .int)) (Qf := fun A => xQi D κ r' (WH κ a uh ++ (WR κ a ur ++ (WN κ a un ++ (WS κ a us ++ (WO κ a uo))))) A) (by decide) rfl (Nat.le_of_ble_eq_true rfl) ?_
  intro p e s m below meth c hx hb hr hlk hml hown hts hK A hA H locs hG ls hl
  have hown : s.vm.findClass RX4 = some m.cls := hown
  have hl : lv_has ls 3 [(0, .ref (a 25)), (1, .int p1), (2, .int p2)] := hl
  have iX1 : ∀ w ∈ u_ws RX1 TX1 3, w ∈ wsX4_arcs := fun _ h => List.mem_cons_of_mem _ (List.mem_append_right _ h)
  have iX4 : ∀ w ∈ u_ws RX4 TX4 8, w ∈ wsX4_arcs := fun _ h => List.mem_cons_of_mem _ (List.mem_append_left _ (List.mem_append_right _ h))
  have k157 := hts (.fieldLink RX4 157 "SpineDesks$Net" "from" "[I") (List.mem_of_getElem? (i := 2) rfl)
  have k160 := hts (.fieldLink RX4 160 "SpineDesks$Net" "to" "[I") (List.mem_of_getElem? (i := 3) rfl)
  have k163 := hts (.fieldLink RX4 163 "SpineDesks$Net" "cost" "[I") (List.mem_of_getElem? (i := 4) rfl)
  have k25 := hts (.fieldLink RX4 25 "SpineDesks" "net" "LSpineDesks$Net;") (List.mem_of_getElem? (i := 1) rfl)
  unfold f_X4_arcs at hf
  refine lv_aload_n hx hb dX4_arcs_0 rfl (lv_at hl 0 rfl) ?_
  refine x_get (C := RX4) (T := TX4) (N := 8) (ci := 4) hx hb hts iX4 hown hK hG 25 rfl rfl 2 (by decide) k25 (v := .ref (a 19)) rfl dX4_arcs_1 ?_
  refine lv_iload_n hx hb dX4_arcs_4 rfl (lv_at hl 1 rfl) ?_
  obtain ⟨r1, q2, hf⟩ := cl1_e hf
  refine x_callVi (pre := WH κ a uh ++ (WR κ a ur)) (wc := WN κ a un) (wc1 := WN κ a un) (post := WS κ a us ++ (WO κ a uo)) (As := [.int p1]) (rest := []) (w1 := WH κ a uh ++ (WR κ a ur ++ (WN κ a un ++ (WS κ a us ++ (WO κ a uo))))) ⟨hx, hb, hml, hown, hts⟩ hK hG hA (by simp only [List.append_assoc, List.nil_append, List.append_nil]) (by simp only [List.append_assoc, List.nil_append, List.append_nil]) (c_X1_isThere l D κ a H.size p1 un r1 q2) (cwV 1 hts gX4_arcs_X1_isThere rfl rfl rfl (by decide +kernel) ⟨Nat.le_of_ble_eq_true rfl, Nat.le_of_ble_eq_true rfl⟩) 0 1 rfl rfl rfl rfl hl.1 rfl (Nat.le_of_ble_eq_true rfl) dX4_arcs_5 ⟨Nat.zero_le _, Nat.zero_le _⟩ (fun H locs hG => ?_)
  refine lv_if_ne (tgt := 13) hx hb dX4_arcs_8 (by decide) (fun c3 => ?_) (fun c3 => ?_)
  · replace hf := if_f c3 hf
    refine lv_iload_n hx hb dX4_arcs_13 rfl (lv_at hl 2 rfl) ?_
    by_cases c4 : p2 = 0
    · replace hf := if_t c4 hf
      refine lv_tableIn (tgt := 40) (off := 26) hx hb dX4_arcs_14 (by rw [c4]; decide) (by rw [c4]; decide) (by rw [c4]; rfl) (by decide) ?_
      refine lv_aload_n hx hb dX4_arcs_40 rfl (lv_at hl 0 rfl) ?_
      refine x_get (C := RX4) (T := TX4) (N := 8) (ci := 4) hx hb hts iX4 hown hK hG 25 rfl rfl 2 (by decide) k25 (v := .ref (a 19)) rfl dX4_arcs_41 ?_
      refine x_get (C := RX1) (T := TX1) (N := 3) (ci := 1) hx hb hts iX1 hown hK hG 19 rfl rfl 0 (by decide) k157 (v := .ref (a 20)) rfl dX4_arcs_44 ?_
      refine lv_iload_n hx hb dX4_arcs_47 rfl (lv_at hl 1 rfl) ?_
      obtain ⟨v5, ev5, hin, hf⟩ := ck_e hf
      refine x_iald hx hb hK hG 20 rfl ev5 hin dX4_arcs_48 ?_
      have z0 := Option.some.inj hf
      exact x_iret hx hb hr hlk hK hG z0 rfl dX4_arcs_49
    replace hf := if_f c4 hf
    by_cases c6 : p2 = 1
    · replace hf := if_t c6 hf
      refine lv_tableIn (tgt := 50) (off := 36) hx hb dX4_arcs_14 (by rw [c6]; decide) (by rw [c6]; decide) (by rw [c6]; rfl) (by decide) ?_
      refine lv_aload_n hx hb dX4_arcs_50 rfl (lv_at hl 0 rfl) ?_
      refine x_get (C := RX4) (T := TX4) (N := 8) (ci := 4) hx hb hts iX4 hown hK hG 25 rfl rfl 2 (by decide) k25 (v := .ref (a 19)) rfl dX4_arcs_51 ?_
      refine x_get (C := RX1) (T := TX1) (N := 3) (ci := 1) hx hb hts iX1 hown hK hG 19 rfl rfl 1 (by decide) k160 (v := .ref (a 21)) rfl dX4_arcs_54 ?_
      refine lv_iload_n hx hb dX4_arcs_57 rfl (lv_at hl 1 rfl) ?_
      obtain ⟨v7, ev7, hin, hf⟩ := ck_e hf
      refine x_iald hx hb hK hG 21 rfl ev7 hin dX4_arcs_58 ?_
      have z0 := Option.some.inj hf
      exact x_iret hx hb hr hlk hK hG z0 rfl dX4_arcs_59
    replace hf := if_f c6 hf
    by_cases c8 : p2 = 2
    · replace hf := if_t c8 hf
      refine lv_tableIn (tgt := 60) (off := 46) hx hb dX4_arcs_14 (by rw [c8]; decide) (by rw [c8]; decide) (by rw [c8]; rfl) (by decide) ?_
      refine lv_aload_n hx hb dX4_arcs_60 rfl (lv_at hl 0 rfl) ?_
      refine x_get (C := RX4) (T := TX4) (N := 8) (ci := 4) hx hb hts iX4 hown hK hG 25 rfl rfl 2 (by decide) k25 (v := .ref (a 19)) rfl dX4_arcs_61 ?_
      refine x_get (C := RX1) (T := TX1) (N := 3) (ci := 1) hx hb hts iX1 hown hK hG 19 rfl rfl 2 (by decide) k163 (v := .ref (a 22)) rfl dX4_arcs_64 ?_
      refine lv_iload_n hx hb dX4_arcs_67 rfl (lv_at hl 1 rfl) ?_
      obtain ⟨v9, ev9, hin, hf⟩ := ck_e hf
      refine x_iald hx hb hK hG 22 rfl ev9 hin dX4_arcs_68 ?_
      have z0 := Option.some.inj hf
      exact x_iret hx hb hr hlk hK hG z0 rfl dX4_arcs_69
    replace hf := if_f c8 hf
    refine lv_tableOut (tgt := 70) hx hb dX4_arcs_14 (x_sw (k := 2) (by decide) (fun j hj => ?_)) (by decide) ?_
    · match j, hj with
      | 0, _ => exact c4
      | 1, _ => exact c6
      | 2, _ => exact c8
      | j + 3, hj => exact absurd hj (by omega)
    · refine lv_iconst (v := (-1)) hx hb dX4_arcs_70 (by decide) ?_
      have z0 := Option.some.inj hf
      exact x_iret hx hb hr hlk hK hG z0 rfl dX4_arcs_71
  · replace hf := if_t c3 hf
    refine lv_iconst (v := (-1)) hx hb dX4_arcs_11 (by decide) ?_
    have z0 := Option.some.inj hf
    exact x_iret hx hb hr hlk hK hG z0 rfl dX4_arcs_12
set_option maxRecDepth 100000 in
set_option maxHeartbeats 4000000 in
theorem c_X4_count (l : Launch) (D : va_G) (κ : Nat → ClassId) (a : Nat → Nat) (sz : Nat) (p1 : Int32) (uh : HS) (ur : RS) (un : NS) (us : SS) (uo : OS) (r' : Int32)  (hf : f_X4_count p1 uh un uo = some (r')) : Met l yX4_count wsX4_count ({ frames := 2, cells := 0, slots := 0, locals := 44 } : Room) (xPc D κ [.ref (a 25), .int p1] (WH κ a uh ++ (WR κ a ur ++ (WN κ a un ++ (WS κ a us ++ (WO κ a uo))))) sz) (xQi D κ r' (WH κ a uh ++ (WR κ a ur ++ (WN κ a un ++ (WS κ a us ++ (WO κ a uo))))) (va_A (WH κ a uh ++ (WR κ a ur ++ (WN κ a un ++ (WS κ a us ++ (WO κ a uo))))) sz)) 0 0 (va_A (WH κ a uh ++ (WR κ a ur ++ (WN κ a un ++ (WS κ a us ++ (WO κ a uo))))) sz) := by
  refine x_ofW (cc := cX4_count) (maxL := 2) (ret := (some .int)) (Qf := fun A => xQi D κ r' (WH κ a uh ++ (WR κ a ur ++ (WN κ a un ++ (WS κ a us ++ (WO κ a uo))))) A) (by decide) rfl (Nat.le_of_ble_eq_true rfl) ?_
  intro p e s m below meth c hx hb hr hlk hml hown hts hK A hA H locs hG ls hl
  have hown : s.vm.findClass RX4 = some m.cls := hown
  have hl : lv_has ls 2 [(0, .ref (a 25)), (1, .int p1)] := hl
  have iX0 : ∀ w ∈ u_ws RX0 TX0 17, w ∈ wsX4_count := fun _ h => List.mem_cons_of_mem _ (List.mem_append_left _ (List.mem_append_right _ h))
  have iX4 : ∀ w ∈ u_ws RX4 TX4 8, w ∈ wsX4_count := fun _ h => List.mem_cons_of_mem _ (List.mem_append_left _ (List.mem_append_left _ (List.mem_append_right _ h)))
  have k12 := hts (.fieldLink RX4 12 "SpineDesks" "hall" "LSpineDesks$Hall;") (List.mem_of_getElem? (i := 1) rfl)
  have k126 := hts (.fieldLink RX4 126 "SpineDesks$Hall" "steps" "I") (List.mem_of_getElem? (i := 4) rfl)
  have k25 := hts (.fieldLink RX4 25 "SpineDesks" "net" "LSpineDesks$Net;") (List.mem_of_getElem? (i := 3) rfl)
  have k326 := hts (.fieldLink RX4 326 "SpineDesks$Hall" "turn" "I") (List.mem_of_getElem? (i := 5) rfl)
  have k329 := hts (.fieldLink RX4 329 "SpineDesks$Hall" "swept" "I") (List.mem_of_getElem? (i := 6) rfl)
  have k33 := hts (.fieldLink RX4 33 "SpineDesks" "refused" "[I") (List.mem_of_getElem? (i := 7) rfl)
  have k69 := hts (.fieldLink RX4 69 "SpineDesks$Hall" "came" "I") (List.mem_of_getElem? (i := 2) rfl)
  have L132 : ∀ (x1 : Int32), f_X4_count_132 uh un uo x1 = some (r') → ∀ (H : Heap) (locs : List Loc) (ls : Array Slot), xG D A s.heap (WH κ a uh ++ (WR κ a ur ++ (WN κ a un ++ (WS κ a us ++ (WO κ a uo))))) H locs → lv_has ls 2 [(0, .ref (a 25)), (1, .int x1)] → W p l e ({ frames := 2, cells := 0, slots := 0, locals := 44 } : Room) s m (([.ref (a 25), .int p1] : List Value).toArray) below meth c H locs 0 0 (MQ below (xQi D κ r' (WH κ a uh ++ (WR κ a ur ++ (WN κ a un ++ (WS κ a us ++ (WO κ a uo))))) A) (([.ref (a 25), .int p1] : List Value).toArray) s 0 0 A) (F0 m 132 ls []) := by
    intro  x1 hf H locs ls hG hl
    unfold f_X4_count_132 at hf
    refine lv_aload_n hx hb dX4_count_132 rfl (lv_at hl 0 rfl) ?_
    refine x_get (C := RX4) (T := TX4) (N := 8) (ci := 4) hx hb hts iX4 hown hK hG 25 rfl rfl 4 (by decide) k33 (v := .ref (a 26)) rfl dX4_count_133 ?_
    refine lv_iload_n hx hb dX4_count_136 rfl (lv_at hl 1 rfl) ?_
    refine lv_bipush (v := 8) hx hb dX4_count_137 (by decide) ?_
    refine lv_isub hx hb dX4_count_139 ?_
    obtain ⟨v1, ev1, hin, hf⟩ := ck_e hf
    refine x_iald hx hb hK hG 26 rfl ev1 hin dX4_count_140 ?_
    have z0 := Option.some.inj hf
    exact x_iret hx hb hr hlk hK hG z0 rfl dX4_count_141
  unfold f_X4_count at hf
  refine lv_iload_n hx hb dX4_count_0 rfl (lv_at hl 1 rfl) ?_
  by_cases c2 : p1 = 0
  · replace hf := if_t c2 hf
    refine lv_tableIn (tgt := 68) (off := 67) hx hb dX4_count_1 (by rw [c2]; decide) (by rw [c2]; decide) (by rw [c2]; rfl) (by decide) ?_
    refine lv_aload_n hx hb dX4_count_68 rfl (lv_at hl 0 rfl) ?_
    refine x_get (C := RX4) (T := TX4) (N := 8) (ci := 4) hx hb hts iX4 hown hK hG 25 rfl rfl 0 (by decide) k12 (v := .ref (a 0)) rfl dX4_count_69 ?_
    refine x_get (C := RX0) (T := TX0) (N := 17) (ci := 0) hx hb hts iX0 hown hK hG 0 rfl rfl 0 (by decide) k69 (v := .int (uh.came)) rfl dX4_count_72 ?_
    have z0 := Option.some.inj hf
    exact x_iret hx hb hr hlk hK hG z0 rfl dX4_count_75
  replace hf := if_f c2 hf
  by_cases c3 : p1 = 1
  · replace hf := if_t c3 hf
    refine lv_tableIn (tgt := 76) (off := 75) hx hb dX4_count_1 (by rw [c3]; decide) (by rw [c3]; decide) (by rw [c3]; rfl) (by decide) ?_
    refine lv_aload_n hx hb dX4_count_76 rfl (lv_at hl 0 rfl) ?_
    refine x_get (C := RX4) (T := TX4) (N := 8) (ci := 4) hx hb hts iX4 hown hK hG 25 rfl rfl 0 (by decide) k12 (v := .ref (a 0)) rfl dX4_count_77 ?_
    obtain ⟨r4, q5, hf⟩ := cl1_e hf
    refine x_callVi (pre := ([] : va_W)) (wc := WH κ a uh) (wc1 := WH κ a uh) (post := WR κ a ur ++ (WN κ a un ++ (WS κ a us ++ (WO κ a uo)))) (As := []) (rest := []) (w1 := WH κ a uh ++ (WR κ a ur ++ (WN κ a un ++ (WS κ a us ++ (WO κ a uo))))) ⟨hx, hb, hml, hown, hts⟩ hK hG hA (by simp only [List.append_assoc, List.nil_append, List.append_nil]) (by simp only [List.append_assoc, List.nil_append, List.append_nil]) (c_X0_allThere l D κ a H.size uh r4 q5) (cwV 0 hts gX4_count_X0_allThere rfl rfl rfl (by decide +kernel) ⟨Nat.le_of_ble_eq_true rfl, Nat.le_of_ble_eq_true rfl⟩) 0 0 rfl rfl rfl rfl hl.1 rfl (Nat.le_of_ble_eq_true rfl) dX4_count_80 ⟨Nat.zero_le _, Nat.zero_le _⟩ (fun H locs hG => ?_)
    have z0 := Option.some.inj hf
    exact x_iret hx hb hr hlk hK hG z0 rfl dX4_count_83
  replace hf := if_f c3 hf
  by_cases c6 : p1 = 2
  · replace hf := if_t c6 hf
    refine lv_tableIn (tgt := 84) (off := 83) hx hb dX4_count_1 (by rw [c6]; decide) (by rw [c6]; decide) (by rw [c6]; rfl) (by decide) ?_
    refine lv_aload_n hx hb dX4_count_84 rfl (lv_at hl 0 rfl) ?_
    refine x_get (C := RX4) (T := TX4) (N := 8) (ci := 4) hx hb hts iX4 hown hK hG 25 rfl rfl 0 (by decide) k12 (v := .ref (a 0)) rfl dX4_count_85 ?_
    obtain ⟨r7, q8, hf⟩ := cl1_e hf
    refine x_callVi (pre := ([] : va_W)) (wc := WH κ a uh) (wc1 := WH κ a uh) (post := WR κ a ur ++ (WN κ a un ++ (WS κ a us ++ (WO κ a uo)))) (As := []) (rest := []) (w1 := WH κ a uh ++ (WR κ a ur ++ (WN κ a un ++ (WS κ a us ++ (WO κ a uo))))) ⟨hx, hb, hml, hown, hts⟩ hK hG hA (by simp only [List.append_assoc, List.nil_append, List.append_nil]) (by simp only [List.append_assoc, List.nil_append, List.append_nil]) (c_X0_plainThere l D κ a H.size uh r7 q8) (cwV 0 hts gX4_count_X0_plainThere rfl rfl rfl (by decide +kernel) ⟨Nat.le_of_ble_eq_true rfl, Nat.le_of_ble_eq_true rfl⟩) 0 0 rfl rfl rfl rfl hl.1 rfl (Nat.le_of_ble_eq_true rfl) dX4_count_88 ⟨Nat.zero_le _, Nat.zero_le _⟩ (fun H locs hG => ?_)
    have z0 := Option.some.inj hf
    exact x_iret hx hb hr hlk hK hG z0 rfl dX4_count_91
  replace hf := if_f c6 hf
  by_cases c9 : p1 = 3
  · replace hf := if_t c9 hf
    refine lv_tableIn (tgt := 92) (off := 91) hx hb dX4_count_1 (by rw [c9]; decide) (by rw [c9]; decide) (by rw [c9]; rfl) (by decide) ?_
    refine lv_aload_n hx hb dX4_count_92 rfl (lv_at hl 0 rfl) ?_
    refine x_get (C := RX4) (T := TX4) (N := 8) (ci := 4) hx hb hts iX4 hown hK hG 25 rfl rfl 2 (by decide) k25 (v := .ref (a 19)) rfl dX4_count_93 ?_
    obtain ⟨r10, q11, hf⟩ := cl1_e hf
    refine x_callVi (pre := WH κ a uh ++ (WR κ a ur)) (wc := WN κ a un) (wc1 := WN κ a un) (post := WS κ a us ++ (WO κ a uo)) (As := []) (rest := []) (w1 := WH κ a uh ++ (WR κ a ur ++ (WN κ a un ++ (WS κ a us ++ (WO κ a uo))))) ⟨hx, hb, hml, hown, hts⟩ hK hG hA (by simp only [List.append_assoc, List.nil_append, List.append_nil]) (by simp only [List.append_assoc, List.nil_append, List.append_nil]) (c_X1_size l D κ a H.size un r10 q11) (cwV 0 hts gX4_count_X1_size rfl rfl rfl (by decide +kernel) ⟨Nat.le_of_ble_eq_true rfl, Nat.le_of_ble_eq_true rfl⟩) 0 1 rfl rfl rfl rfl hl.1 rfl (Nat.le_of_ble_eq_true rfl) dX4_count_96 ⟨Nat.zero_le _, Nat.zero_le _⟩ (fun H locs hG => ?_)
    have z0 := Option.some.inj hf
    exact x_iret hx hb hr hlk hK hG z0 rfl dX4_count_99
  replace hf := if_f c9 hf
  by_cases c12 : p1 = 4
  · replace hf := if_t c12 hf
    refine lv_tableIn (tgt := 100) (off := 99) hx hb dX4_count_1 (by rw [c12]; decide) (by rw [c12]; decide) (by rw [c12]; rfl) (by decide) ?_
    refine lv_aload_n hx hb dX4_count_100 rfl (lv_at hl 0 rfl) ?_
    refine x_get (C := RX4) (T := TX4) (N := 8) (ci := 4) hx hb hts iX4 hown hK hG 25 rfl rfl 0 (by decide) k12 (v := .ref (a 0)) rfl dX4_count_101 ?_
    refine x_get (C := RX0) (T := TX0) (N := 17) (ci := 0) hx hb hts iX0 hown hK hG 0 rfl rfl 4 (by decide) k126 (v := .int (uh.steps)) rfl dX4_count_104 ?_
    have z0 := Option.some.inj hf
    exact x_iret hx hb hr hlk hK hG z0 rfl dX4_count_107
  replace hf := if_f c12 hf
  by_cases c13 : p1 = 5
  · replace hf := if_t c13 hf
    refine lv_tableIn (tgt := 108) (off := 107) hx hb dX4_count_1 (by rw [c13]; decide) (by rw [c13]; decide) (by rw [c13]; rfl) (by decide) ?_
    refine lv_aload_n hx hb dX4_count_108 rfl (lv_at hl 0 rfl) ?_
    refine x_get (C := RX4) (T := TX4) (N := 8) (ci := 4) hx hb hts iX4 hown hK hG 25 rfl rfl 0 (by decide) k12 (v := .ref (a 0)) rfl dX4_count_109 ?_
    refine x_get (C := RX0) (T := TX0) (N := 17) (ci := 0) hx hb hts iX0 hown hK hG 0 rfl rfl 1 (by decide) k326 (v := .int (uh.turn)) rfl dX4_count_112 ?_
    have z0 := Option.some.inj hf
    exact x_iret hx hb hr hlk hK hG z0 rfl dX4_count_115
  replace hf := if_f c13 hf
  by_cases c14 : p1 = 6
  · replace hf := if_t c14 hf
    refine lv_tableIn (tgt := 116) (off := 115) hx hb dX4_count_1 (by rw [c14]; decide) (by rw [c14]; decide) (by rw [c14]; rfl) (by decide) ?_
    refine lv_aload_n hx hb dX4_count_116 rfl (lv_at hl 0 rfl) ?_
    refine x_get (C := RX4) (T := TX4) (N := 8) (ci := 4) hx hb hts iX4 hown hK hG 25 rfl rfl 0 (by decide) k12 (v := .ref (a 0)) rfl dX4_count_117 ?_
    obtain ⟨r15, q16, hf⟩ := cl1_e hf
    refine x_callVi (pre := ([] : va_W)) (wc := WH κ a uh) (wc1 := WH κ a uh) (post := WR κ a ur ++ (WN κ a un ++ (WS κ a us ++ (WO κ a uo)))) (As := []) (rest := []) (w1 := WH κ a uh ++ (WR κ a ur ++ (WN κ a un ++ (WS κ a us ++ (WO κ a uo))))) ⟨hx, hb, hml, hown, hts⟩ hK hG hA (by simp only [List.append_assoc, List.nil_append, List.append_nil]) (by simp only [List.append_assoc, List.nil_append, List.append_nil]) (c_X0_logSize l D κ a H.size uh r15 q16) (cwV 0 hts gX4_count_X0_logSize rfl rfl rfl (by decide +kernel) ⟨Nat.le_of_ble_eq_true rfl, Nat.le_of_ble_eq_true rfl⟩) 0 0 rfl rfl rfl rfl hl.1 rfl (Nat.le_of_ble_eq_true rfl) dX4_count_120 ⟨Nat.zero_le _, Nat.zero_le _⟩ (fun H locs hG => ?_)
    have z0 := Option.some.inj hf
    exact x_iret hx hb hr hlk hK hG z0 rfl dX4_count_123
  replace hf := if_f c14 hf
  by_cases c17 : p1 = 7
  · replace hf := if_t c17 hf
    refine lv_tableIn (tgt := 124) (off := 123) hx hb dX4_count_1 (by rw [c17]; decide) (by rw [c17]; decide) (by rw [c17]; rfl) (by decide) ?_
    refine lv_aload_n hx hb dX4_count_124 rfl (lv_at hl 0 rfl) ?_
    refine x_get (C := RX4) (T := TX4) (N := 8) (ci := 4) hx hb hts iX4 hown hK hG 25 rfl rfl 0 (by decide) k12 (v := .ref (a 0)) rfl dX4_count_125 ?_
    refine x_get (C := RX0) (T := TX0) (N := 17) (ci := 0) hx hb hts iX0 hown hK hG 0 rfl rfl 2 (by decide) k329 (v := .int (uh.swept)) rfl dX4_count_128 ?_
    have z0 := Option.some.inj hf
    exact x_iret hx hb hr hlk hK hG z0 rfl dX4_count_131
  replace hf := if_f c17 hf
  by_cases c18 : p1 = 8
  · replace hf := if_t c18 hf
    refine lv_tableIn (tgt := 132) (off := 131) hx hb dX4_count_1 (by rw [c18]; decide) (by rw [c18]; decide) (by rw [c18]; rfl) (by decide) ?_
    exact L132   p1 hf H locs ls hG (lv_sub hl [0, 1] rfl)
  replace hf := if_f c18 hf
  by_cases c19 : p1 = 9
  · replace hf := if_t c19 hf
    refine lv_tableIn (tgt := 132) (off := 131) hx hb dX4_count_1 (by rw [c19]; decide) (by rw [c19]; decide) (by rw [c19]; rfl) (by decide) ?_
    exact L132   p1 hf H locs ls hG (lv_sub hl [0, 1] rfl)
  replace hf := if_f c19 hf
  by_cases c20 : p1 = 10
  · replace hf := if_t c20 hf
    refine lv_tableIn (tgt := 132) (off := 131) hx hb dX4_count_1 (by rw [c20]; decide) (by rw [c20]; decide) (by rw [c20]; rfl) (by decide) ?_
    exact L132   p1 hf H locs ls hG (lv_sub hl [0, 1] rfl)
  replace hf := if_f c20 hf
  by_cases c21 : p1 = 11
  · replace hf := if_t c21 hf
    refine lv_tableIn (tgt := 132) (off := 131) hx hb dX4_count_1 (by rw [c21]; decide) (by rw [c21]; decide) (by rw [c21]; rfl) (by decide) ?_
    exact L132   p1 hf H locs ls hG (lv_sub hl [0, 1] rfl)
  replace hf := if_f c21 hf
  by_cases c22 : p1 = 12
  · replace hf := if_t c22 hf
    refine lv_tableIn (tgt := 132) (off := 131) hx hb dX4_count_1 (by rw [c22]; decide) (by rw [c22]; decide) (by rw [c22]; rfl) (by decide) ?_
    exact L132   p1 hf H locs ls hG (lv_sub hl [0, 1] rfl)
  replace hf := if_f c22 hf
  refine lv_tableOut (tgt := 142) hx hb dX4_count_1 (x_sw (k := 12) (by decide) (fun j hj => ?_)) (by decide) ?_
  · match j, hj with
    | 0, _ => exact c2
    | 1, _ => exact c3
    | 2, _ => exact c6
    | 3, _ => exact c9
    | 4, _ => exact c12
    | 5, _ => exact c13
    | 6, _ => exact c14
    | 7, _ => exact c17
    | 8, _ => exact c18
    | 9, _ => exact c19
    | 10, _ => exact c20
    | 11, _ => exact c21
    | 12, _ => exact c22
    | j + 13, hj => exact absurd hj (by omega)
  · refine lv_iconst (v := (-1)) hx hb dX4_count_142 (by decide) ?_
    have z0 := Option.some.inj hf
    exact x_iret hx hb hr hlk hK hG z0 rfl dX4_count_143
set_option maxRecDepth 100000 in
set_option maxHeartbeats 4000000 in
theorem c_X4_isDesk (l : Launch) (D : va_G) (κ : Nat → ClassId) (a : Nat → Nat) (sz : Nat) (p0 : Int32)  (r' : Int32)  (hf : f_X4_isDesk p0 = some (r')) : Met l yX4_isDesk wsX4_isDesk ({ frames := 0, cells := 0, slots := 0, locals := 0 } : Room) (xPc D κ [.int p0] (([] : va_W)) sz) (xQi D κ r' (([] : va_W)) (va_A (([] : va_W)) sz)) 0 0 (va_A (([] : va_W)) sz) := by
  refine x_ofW (cc := cX4_isDesk) (maxL := 1) (ret := (some .boolean)) (Qf := fun A => xQi D κ r' (([] : va_W)) A) (by decide) rfl (Nat.le_of_ble_eq_true rfl) ?_
  intro p e s m below meth c hx hb hr hlk hml hown hts hK A hA H locs hG ls hl
  have hown : s.vm.findClass RX4 = some m.cls := hown
  have hl : lv_has ls 1 [(0, .int p0)] := hl
  unfold f_X4_isDesk at hf
  refine lv_iload_n hx hb dX4_isDesk_0 rfl (lv_at hl 0 rfl) ?_
  refine lv_if_lt (tgt := 14) hx hb dX4_isDesk_1 (by decide) (fun c1 => ?_) (fun c1 => ?_)
  · replace hf := if_t c1 hf
    refine lv_iconst (v := 0) hx hb dX4_isDesk_14 (by decide) ?_
    have z0 := Option.some.inj hf
    exact x_zret hx hb hr hlk hK hG (by decide) z0 rfl dX4_isDesk_15
  · replace hf := if_f c1 hf
    refine lv_iload_n hx hb dX4_isDesk_4 rfl (lv_at hl 0 rfl) ?_
    refine lv_bipush (v := 6) hx hb dX4_isDesk_5 (by decide) ?_
    refine lv_icmp_ge (tgt := 14) hx hb dX4_isDesk_7 (by decide) (fun c2 => ?_) (fun c2 => ?_)
    · replace hf := if_t c2 hf
      refine lv_iconst (v := 0) hx hb dX4_isDesk_14 (by decide) ?_
      have z0 := Option.some.inj hf
      exact x_zret hx hb hr hlk hK hG (by decide) z0 rfl dX4_isDesk_15
    · replace hf := if_f c2 hf
      refine lv_iconst (v := 1) hx hb dX4_isDesk_10 (by decide) ?_
      refine lv_goto (tgt := 15) hx hb dX4_isDesk_11 (by decide) ?_
      have z0 := Option.some.inj hf
      exact x_zret hx hb hr hlk hK hG (by decide) z0 rfl dX4_isDesk_15
set_option maxRecDepth 100000 in
set_option maxHeartbeats 4000000 in
theorem c_X4_areTwoDesks (l : Launch) (D : va_G) (κ : Nat → ClassId) (a : Nat → Nat) (sz : Nat) (p0 : Int32) (p1 : Int32)  (r' : Int32)  (hf : f_X4_areTwoDesks p0 p1 = some (r')) : Met l yX4_areTwoDesks wsX4_areTwoDesks ({ frames := 1, cells := 0, slots := 0, locals := 20 } : Room) (xPc D κ [.int p0, .int p1] (([] : va_W)) sz) (xQi D κ r' (([] : va_W)) (va_A (([] : va_W)) sz)) 0 0 (va_A (([] : va_W)) sz) := by
  refine x_ofW (cc := cX4_areTwoDesks) (maxL := 2) (ret := (some .boolean)) (Qf := fun A => xQi D κ r' (([] : va_W)) A) (by decide) rfl (Nat.le_of_ble_eq_true rfl) ?_
  intro p e s m below meth c hx hb hr hlk hml hown hts hK A hA H locs hG ls hl
  have hown : s.vm.findClass RX4 = some m.cls := hown
  have hl : lv_has ls 2 [(0, .int p0), (1, .int p1)] := hl
  unfold f_X4_areTwoDesks at hf
  refine lv_iload_n hx hb dX4_areTwoDesks_0 rfl (lv_at hl 0 rfl) ?_
  obtain ⟨r1, q2, hf⟩ := cl1_e hf
  refine x_callSi (pre := ([] : va_W)) (wc := ([] : va_W)) (wc1 := ([] : va_W)) (post := ([] : va_W)) (As := [.int p0]) (rest := []) (w1 := ([] : va_W)) ⟨hx, hb, hml, hown, hts⟩ hK hG hA (by simp only [List.append_assoc, List.nil_append, List.append_nil]) (by simp only [List.append_assoc, List.nil_append, List.append_nil]) (c_X4_isDesk l D κ a H.size p0 r1 q2) (va_cwS 1 hts gX4_areTwoDesks_X4_isDesk rfl rfl rfl (by decide +kernel) ⟨Nat.le_of_ble_eq_true rfl, Nat.le_of_ble_eq_true rfl⟩) rfl hl.1 rfl (Nat.le_of_ble_eq_true rfl) dX4_areTwoDesks_1 ⟨Nat.zero_le _, Nat.zero_le _⟩ (fun H locs hG => ?_)
  refine lv_if_eq (tgt := 23) hx hb dX4_areTwoDesks_4 (by decide) (fun c3 => ?_) (fun c3 => ?_)
  · replace hf := if_t c3 hf
    refine lv_iconst (v := 0) hx hb dX4_areTwoDesks_23 (by decide) ?_
    have z0 := Option.some.inj hf
    exact x_zret hx hb hr hlk hK hG (by decide) z0 rfl dX4_areTwoDesks_24
  · replace hf := if_f c3 hf
    refine lv_iload_n hx hb dX4_areTwoDesks_7 rfl (lv_at hl 1 rfl) ?_
    obtain ⟨r4, q5, hf⟩ := cl1_e hf
    refine x_callSi (pre := ([] : va_W)) (wc := ([] : va_W)) (wc1 := ([] : va_W)) (post := ([] : va_W)) (As := [.int p1]) (rest := []) (w1 := ([] : va_W)) ⟨hx, hb, hml, hown, hts⟩ hK hG hA (by simp only [List.append_assoc, List.nil_append, List.append_nil]) (by simp only [List.append_assoc, List.nil_append, List.append_nil]) (c_X4_isDesk l D κ a H.size p1 r4 q5) (va_cwS 1 hts gX4_areTwoDesks_X4_isDesk rfl rfl rfl (by decide +kernel) ⟨Nat.le_of_ble_eq_true rfl, Nat.le_of_ble_eq_true rfl⟩) rfl hl.1 rfl (Nat.le_of_ble_eq_true rfl) dX4_areTwoDesks_8 ⟨Nat.zero_le _, Nat.zero_le _⟩ (fun H locs hG => ?_)
    refine lv_if_eq (tgt := 23) hx hb dX4_areTwoDesks_11 (by decide) (fun c6 => ?_) (fun c6 => ?_)
    · replace hf := if_t c6 hf
      refine lv_iconst (v := 0) hx hb dX4_areTwoDesks_23 (by decide) ?_
      have z0 := Option.some.inj hf
      exact x_zret hx hb hr hlk hK hG (by decide) z0 rfl dX4_areTwoDesks_24
    · replace hf := if_f c6 hf
      refine lv_iload_n hx hb dX4_areTwoDesks_14 rfl (lv_at hl 0 rfl) ?_
      refine lv_iload_n hx hb dX4_areTwoDesks_15 rfl (lv_at hl 1 rfl) ?_
      refine lv_icmp_eq (tgt := 23) hx hb dX4_areTwoDesks_16 (by decide) (fun c7 => ?_) (fun c7 => ?_)
      · replace hf := if_t c7 hf
        refine lv_iconst (v := 0) hx hb dX4_areTwoDesks_23 (by decide) ?_
        have z0 := Option.some.inj hf
        exact x_zret hx hb hr hlk hK hG (by decide) z0 rfl dX4_areTwoDesks_24
      · replace hf := if_f c7 hf
        refine lv_iconst (v := 1) hx hb dX4_areTwoDesks_19 (by decide) ?_
        refine lv_goto (tgt := 24) hx hb dX4_areTwoDesks_20 (by decide) ?_
        have z0 := Option.some.inj hf
        exact x_zret hx hb hr hlk hK hG (by decide) z0 rfl dX4_areTwoDesks_24
set_option maxRecDepth 100000 in
set_option maxHeartbeats 4000000 in
theorem c_X4_isKey (l : Launch) (D : va_G) (κ : Nat → ClassId) (a : Nat → Nat) (sz : Nat) (p0 : Int32)  (r' : Int32)  (hf : f_X4_isKey p0 = some (r')) : Met l yX4_isKey wsX4_isKey ({ frames := 0, cells := 0, slots := 0, locals := 0 } : Room) (xPc D κ [.int p0] (([] : va_W)) sz) (xQi D κ r' (([] : va_W)) (va_A (([] : va_W)) sz)) 0 0 (va_A (([] : va_W)) sz) := by
  refine x_ofW (cc := cX4_isKey) (maxL := 1) (ret := (some .boolean)) (Qf := fun A => xQi D κ r' (([] : va_W)) A) (by decide) rfl (Nat.le_of_ble_eq_true rfl) ?_
  intro p e s m below meth c hx hb hr hlk hml hown hts hK A hA H locs hG ls hl
  have hown : s.vm.findClass RX4 = some m.cls := hown
  have hl : lv_has ls 1 [(0, .int p0)] := hl
  have k332 := hts (.constant RX4 332 (-1000000000)) (List.mem_of_getElem? (i := 1) rfl)
  have k333 := hts (.constant RX4 333 (1000000000)) (List.mem_of_getElem? (i := 2) rfl)
  unfold f_X4_isKey at hf
  refine lv_iload_n hx hb dX4_isKey_0 rfl (lv_at hl 0 rfl) ?_
  refine lv_ldcw (v := (-1000000000)) hx hb hown k332 dX4_isKey_1 ?_
  refine lv_icmp_lt (tgt := 18) hx hb dX4_isKey_4 (by decide) (fun c1 => ?_) (fun c1 => ?_)
  · replace hf := if_t c1 hf
    refine lv_iconst (v := 0) hx hb dX4_isKey_18 (by decide) ?_
    have z0 := Option.some.inj hf
    exact x_zret hx hb hr hlk hK hG (by decide) z0 rfl dX4_isKey_19
  · replace hf := if_f c1 hf
    refine lv_iload_n hx hb dX4_isKey_7 rfl (lv_at hl 0 rfl) ?_
    refine lv_ldcw (v := 1000000000) hx hb hown k333 dX4_isKey_8 ?_
    refine lv_icmp_gt (tgt := 18) hx hb dX4_isKey_11 (by decide) (fun c2 => ?_) (fun c2 => ?_)
    · replace hf := if_t c2 hf
      refine lv_iconst (v := 0) hx hb dX4_isKey_18 (by decide) ?_
      have z0 := Option.some.inj hf
      exact x_zret hx hb hr hlk hK hG (by decide) z0 rfl dX4_isKey_19
    · replace hf := if_f c2 hf
      refine lv_iconst (v := 1) hx hb dX4_isKey_14 (by decide) ?_
      refine lv_goto (tgt := 19) hx hb dX4_isKey_15 (by decide) ?_
      have z0 := Option.some.inj hf
      exact x_zret hx hb hr hlk hK hG (by decide) z0 rfl dX4_isKey_19
set_option maxRecDepth 100000 in
set_option maxHeartbeats 4000000 in
theorem c_X4_isTag (l : Launch) (D : va_G) (κ : Nat → ClassId) (a : Nat → Nat) (sz : Nat) (p0 : Int32)  (r' : Int32)  (hf : f_X4_isTag p0 = some (r')) : Met l yX4_isTag wsX4_isTag ({ frames := 0, cells := 0, slots := 0, locals := 0 } : Room) (xPc D κ [.int p0] (([] : va_W)) sz) (xQi D κ r' (([] : va_W)) (va_A (([] : va_W)) sz)) 0 0 (va_A (([] : va_W)) sz) := by
  refine x_ofW (cc := cX4_isTag) (maxL := 1) (ret := (some .boolean)) (Qf := fun A => xQi D κ r' (([] : va_W)) A) (by decide) rfl (Nat.le_of_ble_eq_true rfl) ?_
  intro p e s m below meth c hx hb hr hlk hml hown hts hK A hA H locs hG ls hl
  have hown : s.vm.findClass RX4 = some m.cls := hown
  have hl : lv_has ls 1 [(0, .int p0)] := hl
  unfold f_X4_isTag at hf
  refine lv_iload_n hx hb dX4_isTag_0 rfl (lv_at hl 0 rfl) ?_
  refine lv_if_lt (tgt := 14) hx hb dX4_isTag_1 (by decide) (fun c1 => ?_) (fun c1 => ?_)
  · replace hf := if_t c1 hf
    refine lv_iconst (v := 0) hx hb dX4_isTag_14 (by decide) ?_
    have z0 := Option.some.inj hf
    exact x_zret hx hb hr hlk hK hG (by decide) z0 rfl dX4_isTag_15
  · replace hf := if_f c1 hf
    refine lv_iload_n hx hb dX4_isTag_4 rfl (lv_at hl 0 rfl) ?_
    refine lv_bipush (v := 100) hx hb dX4_isTag_5 (by decide) ?_
    refine lv_icmp_ge (tgt := 14) hx hb dX4_isTag_7 (by decide) (fun c2 => ?_) (fun c2 => ?_)
    · replace hf := if_t c2 hf
      refine lv_iconst (v := 0) hx hb dX4_isTag_14 (by decide) ?_
      have z0 := Option.some.inj hf
      exact x_zret hx hb hr hlk hK hG (by decide) z0 rfl dX4_isTag_15
    · replace hf := if_f c2 hf
      refine lv_iconst (v := 1) hx hb dX4_isTag_10 (by decide) ?_
      refine lv_goto (tgt := 15) hx hb dX4_isTag_11 (by decide) ?_
      have z0 := Option.some.inj hf
      exact x_zret hx hb hr hlk hK hG (by decide) z0 rfl dX4_isTag_15
set_option maxRecDepth 100000 in
set_option maxHeartbeats 4000000 in
theorem c_X4_isPlace (l : Launch) (D : va_G) (κ : Nat → ClassId) (a : Nat → Nat) (sz : Nat) (p0 : Int32)  (r' : Int32)  (hf : f_X4_isPlace p0 = some (r')) : Met l yX4_isPlace wsX4_isPlace ({ frames := 0, cells := 0, slots := 0, locals := 0 } : Room) (xPc D κ [.int p0] (([] : va_W)) sz) (xQi D κ r' (([] : va_W)) (va_A (([] : va_W)) sz)) 0 0 (va_A (([] : va_W)) sz) := by
  refine x_ofW (cc := cX4_isPlace) (maxL := 1) (ret := (some .boolean)) (Qf := fun A => xQi D κ r' (([] : va_W)) A) (by decide) rfl (Nat.le_of_ble_eq_true rfl) ?_
  intro p e s m below meth c hx hb hr hlk hml hown hts hK A hA H locs hG ls hl
  have hown : s.vm.findClass RX4 = some m.cls := hown
  have hl : lv_has ls 1 [(0, .int p0)] := hl
  unfold f_X4_isPlace at hf
  refine lv_iload_n hx hb dX4_isPlace_0 rfl (lv_at hl 0 rfl) ?_
  refine lv_if_lt (tgt := 14) hx hb dX4_isPlace_1 (by decide) (fun c1 => ?_) (fun c1 => ?_)
  · replace hf := if_t c1 hf
    refine lv_iconst (v := 0) hx hb dX4_isPlace_14 (by decide) ?_
    have z0 := Option.some.inj hf
    exact x_zret hx hb hr hlk hK hG (by decide) z0 rfl dX4_isPlace_15
  · replace hf := if_f c1 hf
    refine lv_iload_n hx hb dX4_isPlace_4 rfl (lv_at hl 0 rfl) ?_
    refine lv_bipush (v := 8) hx hb dX4_isPlace_5 (by decide) ?_
    refine lv_icmp_ge (tgt := 14) hx hb dX4_isPlace_7 (by decide) (fun c2 => ?_) (fun c2 => ?_)
    · replace hf := if_t c2 hf
      refine lv_iconst (v := 0) hx hb dX4_isPlace_14 (by decide) ?_
      have z0 := Option.some.inj hf
      exact x_zret hx hb hr hlk hK hG (by decide) z0 rfl dX4_isPlace_15
    · replace hf := if_f c2 hf
      refine lv_iconst (v := 1) hx hb dX4_isPlace_10 (by decide) ?_
      refine lv_goto (tgt := 15) hx hb dX4_isPlace_11 (by decide) ?_
      have z0 := Option.some.inj hf
      exact x_zret hx hb hr hlk hK hG (by decide) z0 rfl dX4_isPlace_15
set_option maxRecDepth 100000 in
set_option maxHeartbeats 4000000 in
theorem c_X4_isCost (l : Launch) (D : va_G) (κ : Nat → ClassId) (a : Nat → Nat) (sz : Nat) (p0 : Int32)  (r' : Int32)  (hf : f_X4_isCost p0 = some (r')) : Met l yX4_isCost wsX4_isCost ({ frames := 0, cells := 0, slots := 0, locals := 0 } : Room) (xPc D κ [.int p0] (([] : va_W)) sz) (xQi D κ r' (([] : va_W)) (va_A (([] : va_W)) sz)) 0 0 (va_A (([] : va_W)) sz) := by
  refine x_ofW (cc := cX4_isCost) (maxL := 1) (ret := (some .boolean)) (Qf := fun A => xQi D κ r' (([] : va_W)) A) (by decide) rfl (Nat.le_of_ble_eq_true rfl) ?_
  intro p e s m below meth c hx hb hr hlk hml hown hts hK A hA H locs hG ls hl
  have hown : s.vm.findClass RX4 = some m.cls := hown
  have hl : lv_has ls 1 [(0, .int p0)] := hl
  have k118 := hts (.constant RX4 118 (1000000)) (List.mem_of_getElem? (i := 1) rfl)
  unfold f_X4_isCost at hf
  refine lv_iload_n hx hb dX4_isCost_0 rfl (lv_at hl 0 rfl) ?_
  refine lv_if_lt (tgt := 14) hx hb dX4_isCost_1 (by decide) (fun c1 => ?_) (fun c1 => ?_)
  · replace hf := if_t c1 hf
    refine lv_iconst (v := 0) hx hb dX4_isCost_14 (by decide) ?_
    have z0 := Option.some.inj hf
    exact x_zret hx hb hr hlk hK hG (by decide) z0 rfl dX4_isCost_15
  · replace hf := if_f c1 hf
    refine lv_iload_n hx hb dX4_isCost_4 rfl (lv_at hl 0 rfl) ?_
    refine lv_ldc (v := 1000000) hx hb hown k118 dX4_isCost_5 ?_
    refine lv_icmp_gt (tgt := 14) hx hb dX4_isCost_7 (by decide) (fun c2 => ?_) (fun c2 => ?_)
    · replace hf := if_t c2 hf
      refine lv_iconst (v := 0) hx hb dX4_isCost_14 (by decide) ?_
      have z0 := Option.some.inj hf
      exact x_zret hx hb hr hlk hK hG (by decide) z0 rfl dX4_isCost_15
    · replace hf := if_f c2 hf
      refine lv_iconst (v := 1) hx hb dX4_isCost_10 (by decide) ?_
      refine lv_goto (tgt := 15) hx hb dX4_isCost_11 (by decide) ?_
      have z0 := Option.some.inj hf
      exact x_zret hx hb hr hlk hK hG (by decide) z0 rfl dX4_isCost_15
set_option maxRecDepth 100000 in
set_option maxHeartbeats 4000000 in
theorem c_X4_refuse (l : Launch) (D : va_G) (κ : Nat → ClassId) (a : Nat → Nat) (sz : Nat) (p1 : Int32) (uh : HS) (ur : RS) (un : NS) (us : SS) (uo : OS) (r' : Int32) (uo' : OS) (hf : f_X4_refuse p1 uo = some (r', uo')) : Met l yX4_refuse wsX4_refuse ({ frames := 0, cells := 0, slots := 0, locals := 0 } : Room) (xPc D κ [.ref (a 25), .int p1] (WH κ a uh ++ (WR κ a ur ++ (WN κ a un ++ (WS κ a us ++ (WO κ a uo))))) sz) (xQi D κ r' (WH κ a uh ++ (WR κ a ur ++ (WN κ a un ++ (WS κ a us ++ (WO κ a uo'))))) (va_A (WH κ a uh ++ (WR κ a ur ++ (WN κ a un ++ (WS κ a us ++ (WO κ a uo))))) sz)) 0 0 (va_A (WH κ a uh ++ (WR κ a ur ++ (WN κ a un ++ (WS κ a us ++ (WO κ a uo))))) sz) := by
  refine x_ofW (cc := cX4_refuse) (maxL := 3) (ret := (some .int)) (Qf := fun A => xQi D κ r' (WH κ a uh ++ (WR κ a ur ++ (WN κ a un ++ (WS κ a us ++ (WO κ a uo'))))) A) (by decide) rfl (Nat.le_of_ble_eq_true rfl) ?_
  intro p e s m below meth c hx hb hr hlk hml hown hts hK A hA H locs hG ls hl
  have hown : s.vm.findClass RX4 = some m.cls := hown
  have hl : lv_has ls 3 [(0, .ref (a 25)), (1, .int p1)] := hl
  have iX4 : ∀ w ∈ u_ws RX4 TX4 8, w ∈ wsX4_refuse := fun _ h => List.mem_cons_of_mem _ (List.mem_append_right _ h)
  have k33 := hts (.fieldLink RX4 33 "SpineDesks" "refused" "[I") (List.mem_of_getElem? (i := 1) rfl)
  unfold f_X4_refuse at hf
  refine lv_iconst (v := (-1)) hx hb dX4_refuse_0 (by decide) ?_
  refine lv_iload_n hx hb dX4_refuse_1 rfl (lv_at hl 1 rfl) ?_
  refine lv_isub hx hb dX4_refuse_2 ?_
  refine lv_topi (fun y1 ey1 => ?_)
  replace hf := bnd_at ey1 hf
  refine lv_istore_n (lv' := [(2, .int y1), (0, .ref (a 25)), (1, .int p1)]) hx hb dX4_refuse_3 rfl hl (by decide) rfl (fun ls hl => ?_)
  refine lv_iload_n hx hb dX4_refuse_4 rfl (lv_at hl 0 rfl) ?_
  refine lv_if_lt (tgt := 23) hx hb dX4_refuse_5 (by decide) (fun c2 => ?_) (fun c2 => ?_)
  · replace hf := if_t c2 hf
    refine lv_iload_n hx hb dX4_refuse_23 rfl (lv_at hl 2 rfl) ?_
    have hz := Option.some.inj hf
    have z0 := (Prod.mk.inj hz).1
    replace hz := (Prod.mk.inj hz).2
    have z1 := hz
    exact x_iret hx hb hr hlk hK hG z0 (by rw [z1]) dX4_refuse_24
  · replace hf := if_f c2 hf
    refine lv_iload_n hx hb dX4_refuse_8 rfl (lv_at hl 0 rfl) ?_
    refine lv_iconst (v := 5) hx hb dX4_refuse_9 (by decide) ?_
    refine lv_icmp_ge (tgt := 23) hx hb dX4_refuse_10 (by decide) (fun c3 => ?_) (fun c3 => ?_)
    · replace hf := if_t c3 hf
      refine lv_iload_n hx hb dX4_refuse_23 rfl (lv_at hl 2 rfl) ?_
      have hz := Option.some.inj hf
      have z0 := (Prod.mk.inj hz).1
      replace hz := (Prod.mk.inj hz).2
      have z1 := hz
      exact x_iret hx hb hr hlk hK hG z0 (by rw [z1]) dX4_refuse_24
    · replace hf := if_f c3 hf
      refine lv_aload_n hx hb dX4_refuse_13 rfl (lv_at hl 1 rfl) ?_
      refine x_get (C := RX4) (T := TX4) (N := 8) (ci := 4) hx hb hts iX4 hown hK hG 25 rfl rfl 4 (by decide) k33 (v := .ref (a 26)) rfl dX4_refuse_14 ?_
      refine lv_iload_n hx hb dX4_refuse_17 rfl (lv_at hl 0 rfl) ?_
      refine lv_dup2_11 hx hb dX4_refuse_18 rfl rfl ?_
      obtain ⟨v4, ev4, hin, hf⟩ := ck_e hf
      refine x_iald hx hb hK hG 26 rfl ev4 hin dX4_refuse_19 ?_
      refine lv_iconst (v := 1) hx hb dX4_refuse_20 (by decide) ?_
      refine lv_iadd hx hb dX4_refuse_21 ?_
      obtain ⟨uo5, euo5, hin, hf⟩ := ck_e hf
      refine x_iast hx hb hK hG 26 rfl (w1 := WH κ a uh ++ (WR κ a ur ++ (WN κ a un ++ (WS κ a us ++ (WO κ a uo5))))) (by rw [euo5]; rfl) hin dX4_refuse_22 (fun H locs hG => ?_)
      refine lv_iload_n hx hb dX4_refuse_23 rfl (lv_at hl 2 rfl) ?_
      have hz := Option.some.inj hf
      have z0 := (Prod.mk.inj hz).1
      replace hz := (Prod.mk.inj hz).2
      have z1 := hz
      exact x_iret hx hb hr hlk hK hG z0 (by rw [z1]) dX4_refuse_24
set_option maxRecDepth 100000 in
set_option maxHeartbeats 4000000 in
theorem c_X4_setCrossed (l : Launch) (D : va_G) (κ : Nat → ClassId) (a : Nat → Nat) (sz : Nat) (p1 : Int32) (p2 : Int32) (uh : HS) (ur : RS) (un : NS) (us : SS) (uo : OS) (r' : Int32) (uh' : HS) (uo' : OS) (hf : f_X4_setCrossed p1 p2 uh uo = some (r', uh', uo')) : Met l yX4_setCrossed wsX4_setCrossed ({ frames := 4, cells := 0, slots := 0, locals := 96 } : Room) (xPc D κ [.ref (a 25), .int p1, .int p2] (WH κ a uh ++ (WR κ a ur ++ (WN κ a un ++ (WS κ a us ++ (WO κ a uo))))) sz) (xQi D κ r' (WH κ a uh' ++ (WR κ a ur ++ (WN κ a un ++ (WS κ a us ++ (WO κ a uo'))))) (va_A (WH κ a uh ++ (WR κ a ur ++ (WN κ a un ++ (WS κ a us ++ (WO κ a uo))))) sz)) 0 0 (va_A (WH κ a uh ++ (WR κ a ur ++ (WN κ a un ++ (WS κ a us ++ (WO κ a uo))))) sz) := by
  refine x_ofW (cc := cX4_setCrossed) (maxL := 4) (ret := (some .int)) (Qf := fun A => xQi D κ r' (WH κ a uh' ++ (WR κ a ur ++ (WN κ a un ++ (WS κ a us ++ (WO κ a uo'))))) A) (by decide) rfl (Nat.le_of_ble_eq_true rfl) ?_
  intro p e s m below meth c hx hb hr hlk hml hown hts hK A hA H locs hG ls hl
  have hown : s.vm.findClass RX4 = some m.cls := hown
  have hl : lv_has ls 4 [(0, .ref (a 25)), (1, .int p1), (2, .int p2)] := hl
  have iX0 : ∀ w ∈ u_ws RX0 TX0 17, w ∈ wsX4_setCrossed := fun _ h => List.mem_cons_of_mem _ (List.mem_append_right _ h)
  have iX4 : ∀ w ∈ u_ws RX4 TX4 8, w ∈ wsX4_setCrossed := fun _ h => List.mem_cons_of_mem _ (List.mem_append_left _ (List.mem_append_right _ h))
  have k100 := hts (.fieldLink RX4 100 "SpineDesks$Hall" "deskOf" "[I") (List.mem_of_getElem? (i := 3) rfl)
  have k12 := hts (.fieldLink RX4 12 "SpineDesks" "hall" "LSpineDesks$Hall;") (List.mem_of_getElem? (i := 1) rfl)
  have k185 := hts (.fieldLink RX4 185 "SpineDesks$Hall" "crossed" "[I") (List.mem_of_getElem? (i := 2) rfl)
  unfold f_X4_setCrossed at hf
  refine lv_aload_n hx hb dX4_setCrossed_0 rfl (lv_at hl 0 rfl) ?_
  refine x_get (C := RX4) (T := TX4) (N := 8) (ci := 4) hx hb hts iX4 hown hK hG 25 rfl rfl 0 (by decide) k12 (v := .ref (a 0)) rfl dX4_setCrossed_1 ?_
  refine lv_iload_n hx hb dX4_setCrossed_4 rfl (lv_at hl 1 rfl) ?_
  obtain ⟨r1, q2, hf⟩ := cl1_e hf
  refine x_callVi (pre := ([] : va_W)) (wc := WH κ a uh) (wc1 := WH κ a uh) (post := WR κ a ur ++ (WN κ a un ++ (WS κ a us ++ (WO κ a uo)))) (As := [.int p1]) (rest := []) (w1 := WH κ a uh ++ (WR κ a ur ++ (WN κ a un ++ (WS κ a us ++ (WO κ a uo))))) ⟨hx, hb, hml, hown, hts⟩ hK hG hA (by simp only [List.append_assoc, List.nil_append, List.append_nil]) (by simp only [List.append_assoc, List.nil_append, List.append_nil]) (c_X0_isThere l D κ a H.size p1 uh r1 q2) (cwV 1 hts gX4_setCrossed_X0_isThere rfl rfl rfl (by decide +kernel) ⟨Nat.le_of_ble_eq_true rfl, Nat.le_of_ble_eq_true rfl⟩) 0 0 rfl rfl rfl rfl hl.1 rfl (Nat.le_of_ble_eq_true rfl) dX4_setCrossed_5 ⟨Nat.zero_le _, Nat.zero_le _⟩ (fun H locs hG => ?_)
  refine lv_if_ne (tgt := 18) hx hb dX4_setCrossed_8 (by decide) (fun c3 => ?_) (fun c3 => ?_)
  · replace hf := if_f c3 hf
    refine lv_aload_n hx hb dX4_setCrossed_18 rfl (lv_at hl 0 rfl) ?_
    refine x_get (C := RX4) (T := TX4) (N := 8) (ci := 4) hx hb hts iX4 hown hK hG 25 rfl rfl 0 (by decide) k12 (v := .ref (a 0)) rfl dX4_setCrossed_19 ?_
    refine x_get (C := RX0) (T := TX0) (N := 17) (ci := 0) hx hb hts iX0 hown hK hG 0 rfl rfl 9 (by decide) k185 (v := .ref (a 5)) rfl dX4_setCrossed_22 ?_
    refine lv_iload_n hx hb dX4_setCrossed_25 rfl (lv_at hl 1 rfl) ?_
    obtain ⟨v4, ev4, hin, hf⟩ := ck_e hf
    refine x_iald hx hb hK hG 5 rfl ev4 hin dX4_setCrossed_26 ?_
    refine lv_iload_n hx hb dX4_setCrossed_27 rfl (lv_at hl 2 rfl) ?_
    refine lv_icmp_ne (tgt := 38) hx hb dX4_setCrossed_28 (by decide) (fun c5 => ?_) (fun c5 => ?_)
    · replace hf := if_f c5 hf
      refine lv_aload_n hx hb dX4_setCrossed_38 rfl (lv_at hl 0 rfl) ?_
      refine x_get (C := RX4) (T := TX4) (N := 8) (ci := 4) hx hb hts iX4 hown hK hG 25 rfl rfl 0 (by decide) k12 (v := .ref (a 0)) rfl dX4_setCrossed_39 ?_
      refine x_get (C := RX0) (T := TX0) (N := 17) (ci := 0) hx hb hts iX0 hown hK hG 0 rfl rfl 8 (by decide) k100 (v := .ref (a 4)) rfl dX4_setCrossed_42 ?_
      refine lv_iload_n hx hb dX4_setCrossed_45 rfl (lv_at hl 1 rfl) ?_
      obtain ⟨v6, ev6, hin, hf⟩ := ck_e hf
      refine x_iald hx hb hK hG 4 rfl ev6 hin dX4_setCrossed_46 ?_
      refine lv_istore_n (lv' := [(3, .int v6), (0, .ref (a 25)), (1, .int p1), (2, .int p2)]) hx hb dX4_setCrossed_47 rfl hl (by decide) rfl (fun ls hl => ?_)
      refine lv_aload_n hx hb dX4_setCrossed_48 rfl (lv_at hl 1 rfl) ?_
      refine x_get (C := RX4) (T := TX4) (N := 8) (ci := 4) hx hb hts iX4 hown hK hG 25 rfl rfl 0 (by decide) k12 (v := .ref (a 0)) rfl dX4_setCrossed_49 ?_
      refine x_get (C := RX0) (T := TX0) (N := 17) (ci := 0) hx hb hts iX0 hown hK hG 0 rfl rfl 9 (by decide) k185 (v := .ref (a 5)) rfl dX4_setCrossed_52 ?_
      refine lv_iload_n hx hb dX4_setCrossed_55 rfl (lv_at hl 2 rfl) ?_
      refine lv_iload_n hx hb dX4_setCrossed_56 rfl (lv_at hl 3 rfl) ?_
      obtain ⟨uh7, euh7, hin, hf⟩ := ck_e hf
      refine x_iast hx hb hK hG 5 rfl (w1 := WH κ a uh7 ++ (WR κ a ur ++ (WN κ a un ++ (WS κ a us ++ (WO κ a uo))))) (by rw [euh7]; rfl) hin dX4_setCrossed_57 (fun H locs hG => ?_)
      refine lv_aload_n hx hb dX4_setCrossed_58 rfl (lv_at hl 1 rfl) ?_
      refine x_get (C := RX4) (T := TX4) (N := 8) (ci := 4) hx hb hts iX4 hown hK hG 25 rfl rfl 0 (by decide) k12 (v := .ref (a 0)) rfl dX4_setCrossed_59 ?_
      obtain ⟨uh8, q9, hf⟩ := cl1_e hf
      refine x_callVv (pre := ([] : va_W)) (wc := WH κ a uh7) (wc1 := WH κ a uh8) (post := WR κ a ur ++ (WN κ a un ++ (WS κ a us ++ (WO κ a uo)))) (As := []) (rest := []) (w1 := WH κ a uh8 ++ (WR κ a ur ++ (WN κ a un ++ (WS κ a us ++ (WO κ a uo))))) ⟨hx, hb, hml, hown, hts⟩ hK hG hA (by simp only [List.append_assoc, List.nil_append, List.append_nil]) (by simp only [List.append_assoc, List.nil_append, List.append_nil]) (c_X0_sweep l D κ a H.size uh7 uh8 q9) (cwV 0 hts gX4_setCrossed_X0_sweep rfl rfl rfl (by decide +kernel) ⟨Nat.le_of_ble_eq_true rfl, Nat.le_of_ble_eq_true rfl⟩) 0 0 rfl rfl rfl rfl hl.1 rfl (Nat.le_of_ble_eq_true rfl) dX4_setCrossed_62 ⟨Nat.zero_le _, Nat.zero_le _⟩ (fun H locs hG => ?_)
      refine lv_aload_n hx hb dX4_setCrossed_65 rfl (lv_at hl 1 rfl) ?_
      refine x_get (C := RX4) (T := TX4) (N := 8) (ci := 4) hx hb hts iX4 hown hK hG 25 rfl rfl 0 (by decide) k12 (v := .ref (a 0)) rfl dX4_setCrossed_66 ?_
      refine lv_iload_n hx hb dX4_setCrossed_69 rfl (lv_at hl 0 rfl) ?_
      obtain ⟨r10, q11, hf⟩ := cl1_e hf
      refine x_callVi (pre := ([] : va_W)) (wc := WH κ a uh8) (wc1 := WH κ a uh8) (post := WR κ a ur ++ (WN κ a un ++ (WS κ a us ++ (WO κ a uo)))) (As := [.int v6]) (rest := []) (w1 := WH κ a uh8 ++ (WR κ a ur ++ (WN κ a un ++ (WS κ a us ++ (WO κ a uo))))) ⟨hx, hb, hml, hown, hts⟩ hK hG hA (by simp only [List.append_assoc, List.nil_append, List.append_nil]) (by simp only [List.append_assoc, List.nil_append, List.append_nil]) (c_X0_plainIn l D κ a H.size v6 uh8 r10 q11) (cwV 1 hts gX4_setCrossed_X0_plainIn rfl rfl rfl (by decide +kernel) ⟨Nat.le_of_ble_eq_true rfl, Nat.le_of_ble_eq_true rfl⟩) 0 0 rfl rfl rfl rfl hl.1 rfl (Nat.le_of_ble_eq_true rfl) dX4_setCrossed_70 ⟨Nat.zero_le _, Nat.zero_le _⟩ (fun H locs hG => ?_)
      have hz := Option.some.inj hf
      have z0 := (Prod.mk.inj hz).1
      replace hz := (Prod.mk.inj hz).2
      have z1 := (Prod.mk.inj hz).1
      replace hz := (Prod.mk.inj hz).2
      have z2 := hz
      exact x_iret hx hb hr hlk hK hG z0 (by rw [z1, z2]) dX4_setCrossed_73
    · replace hf := if_t c5 hf
      refine lv_aload_n hx hb dX4_setCrossed_31 rfl (lv_at hl 0 rfl) ?_
      refine lv_bipush (v := (-4)) hx hb dX4_setCrossed_32 (by decide) ?_
      obtain ⟨r12, uo13, q14, hf⟩ := cl2_e hf
      refine x_callVi (pre := ([] : va_W)) (wc := WH κ a uh ++ (WR κ a ur ++ (WN κ a un ++ (WS κ a us ++ (WO κ a uo))))) (wc1 := WH κ a uh ++ (WR κ a ur ++ (WN κ a un ++ (WS κ a us ++ (WO κ a uo13))))) (post := ([] : va_W)) (As := [.int ((-4))]) (rest := []) (w1 := WH κ a uh ++ (WR κ a ur ++ (WN κ a un ++ (WS κ a us ++ (WO κ a uo13))))) ⟨hx, hb, hml, hown, hts⟩ hK hG hA (by simp only [List.append_assoc, List.nil_append, List.append_nil]) (by simp only [List.append_assoc, List.nil_append, List.append_nil]) (c_X4_refuse l D κ a H.size ((-4)) uh ur un us uo r12 uo13 q14) (cwV 1 hts gX4_setCrossed_X4_refuse rfl rfl rfl (by decide +kernel) ⟨Nat.le_of_ble_eq_true rfl, Nat.le_of_ble_eq_true rfl⟩) 25 4 rfl rfl rfl rfl hl.1 rfl (Nat.le_of_ble_eq_true rfl) dX4_setCrossed_34 ⟨Nat.zero_le _, Nat.zero_le _⟩ (fun H locs hG => ?_)
      have hz := Option.some.inj hf
      have z0 := (Prod.mk.inj hz).1
      replace hz := (Prod.mk.inj hz).2
      have z1 := (Prod.mk.inj hz).1
      replace hz := (Prod.mk.inj hz).2
      have z2 := hz
      exact x_iret hx hb hr hlk hK hG z0 (by rw [z1, z2]) dX4_setCrossed_37
  · replace hf := if_t c3 hf
    refine lv_aload_n hx hb dX4_setCrossed_11 rfl (lv_at hl 0 rfl) ?_
    refine lv_bipush (v := (-2)) hx hb dX4_setCrossed_12 (by decide) ?_
    obtain ⟨r15, uo16, q17, hf⟩ := cl2_e hf
    refine x_callVi (pre := ([] : va_W)) (wc := WH κ a uh ++ (WR κ a ur ++ (WN κ a un ++ (WS κ a us ++ (WO κ a uo))))) (wc1 := WH κ a uh ++ (WR κ a ur ++ (WN κ a un ++ (WS κ a us ++ (WO κ a uo16))))) (post := ([] : va_W)) (As := [.int ((-2))]) (rest := []) (w1 := WH κ a uh ++ (WR κ a ur ++ (WN κ a un ++ (WS κ a us ++ (WO κ a uo16))))) ⟨hx, hb, hml, hown, hts⟩ hK hG hA (by simp only [List.append_assoc, List.nil_append, List.append_nil]) (by simp only [List.append_assoc, List.nil_append, List.append_nil]) (c_X4_refuse l D κ a H.size ((-2)) uh ur un us uo r15 uo16 q17) (cwV 1 hts gX4_setCrossed_X4_refuse rfl rfl rfl (by decide +kernel) ⟨Nat.le_of_ble_eq_true rfl, Nat.le_of_ble_eq_true rfl⟩) 25 4 rfl rfl rfl rfl hl.1 rfl (Nat.le_of_ble_eq_true rfl) dX4_setCrossed_14 ⟨Nat.zero_le _, Nat.zero_le _⟩ (fun H locs hG => ?_)
    have hz := Option.some.inj hf
    have z0 := (Prod.mk.inj hz).1
    replace hz := (Prod.mk.inj hz).2
    have z1 := (Prod.mk.inj hz).1
    replace hz := (Prod.mk.inj hz).2
    have z2 := hz
    exact x_iret hx hb hr hlk hK hG z0 (by rw [z1, z2]) dX4_setCrossed_17
set_option maxRecDepth 100000 in
set_option maxHeartbeats 4000000 in
theorem c_X4_enter (l : Launch) (D : va_G) (κ : Nat → ClassId) (a : Nat → Nat) (sz : Nat) (p1 : Int32) (p2 : Int32) (p3 : Int32) (uh : HS) (ur : RS) (un : NS) (us : SS) (uo : OS) (r' : Int32) (uh' : HS) (uo' : OS) (hf : f_X4_enter p1 p2 p3 uh uo = some (r', uh', uo')) : Met l yX4_enter wsX4_enter ({ frames := 4, cells := 0, slots := 0, locals := 96 } : Room) (xPc D κ [.ref (a 25), .int p1, .int p2, .int p3] (WH κ a uh ++ (WR κ a ur ++ (WN κ a un ++ (WS κ a us ++ (WO κ a uo))))) sz) (xQi D κ r' (WH κ a uh' ++ (WR κ a ur ++ (WN κ a un ++ (WS κ a us ++ (WO κ a uo'))))) (va_A (WH κ a uh ++ (WR κ a ur ++ (WN κ a un ++ (WS κ a us ++ (WO κ a uo))))) sz)) 0 0 (va_A (WH κ a uh ++ (WR κ a ur ++ (WN κ a un ++ (WS κ a us ++ (WO κ a uo))))) sz) := by
  refine x_ofW (cc := cX4_enter) (maxL := 5) (ret := (some .int)) (Qf := fun A => xQi D κ r' (WH κ a uh' ++ (WR κ a ur ++ (WN κ a un ++ (WS κ a us ++ (WO κ a uo'))))) A) (by decide) rfl (Nat.le_of_ble_eq_true rfl) ?_
  intro p e s m below meth c hx hb hr hlk hml hown hts hK A hA H locs hG ls hl
  have hown : s.vm.findClass RX4 = some m.cls := hown
  have hl : lv_has ls 5 [(0, .ref (a 25)), (1, .int p1), (2, .int p2), (3, .int p3)] := hl
  have iX0 : ∀ w ∈ u_ws RX0 TX0 17, w ∈ wsX4_enter := fun _ h => List.mem_cons_of_mem _ (List.mem_append_right _ h)
  have iX4 : ∀ w ∈ u_ws RX4 TX4 8, w ∈ wsX4_enter := fun _ h => List.mem_cons_of_mem _ (List.mem_append_left _ (List.mem_append_right _ h))
  have k12 := hts (.fieldLink RX4 12 "SpineDesks" "hall" "LSpineDesks$Hall;") (List.mem_of_getElem? (i := 1) rfl)
  have k69 := hts (.fieldLink RX4 69 "SpineDesks$Hall" "came" "I") (List.mem_of_getElem? (i := 2) rfl)
  have L21 : ∀ (uh : HS) (uo : OS), f_X4_enter_21 uh uo = some (r', uh', uo') → ∀ (H : Heap) (locs : List Loc) (ls : Array Slot), xG D A s.heap (WH κ a uh ++ (WR κ a ur ++ (WN κ a un ++ (WS κ a us ++ (WO κ a uo))))) H locs → lv_has ls 5 [(0, .ref (a 25))] → W p l e ({ frames := 4, cells := 0, slots := 0, locals := 96 } : Room) s m (([.ref (a 25), .int p1, .int p2, .int p3] : List Value).toArray) below meth c H locs 0 0 (MQ below (xQi D κ r' (WH κ a uh' ++ (WR κ a ur ++ (WN κ a un ++ (WS κ a us ++ (WO κ a uo'))))) A) (([.ref (a 25), .int p1, .int p2, .int p3] : List Value).toArray) s 0 0 A) (F0 m 21 ls []) := by
    intro  uh uo hf H locs ls hG hl
    unfold f_X4_enter_21 at hf
    refine lv_aload_n hx hb dX4_enter_21 rfl (lv_at hl 0 rfl) ?_
    refine lv_iconst (v := (-1)) hx hb dX4_enter_22 (by decide) ?_
    obtain ⟨r1, uo2, q3, hf⟩ := cl2_e hf
    refine x_callVi (pre := ([] : va_W)) (wc := WH κ a uh ++ (WR κ a ur ++ (WN κ a un ++ (WS κ a us ++ (WO κ a uo))))) (wc1 := WH κ a uh ++ (WR κ a ur ++ (WN κ a un ++ (WS κ a us ++ (WO κ a uo2))))) (post := ([] : va_W)) (As := [.int ((-1))]) (rest := []) (w1 := WH κ a uh ++ (WR κ a ur ++ (WN κ a un ++ (WS κ a us ++ (WO κ a uo2))))) ⟨hx, hb, hml, hown, hts⟩ hK hG hA (by simp only [List.append_assoc, List.nil_append, List.append_nil]) (by simp only [List.append_assoc, List.nil_append, List.append_nil]) (c_X4_refuse l D κ a H.size ((-1)) uh ur un us uo r1 uo2 q3) (cwV 1 hts gX4_enter_X4_refuse rfl rfl rfl (by decide +kernel) ⟨Nat.le_of_ble_eq_true rfl, Nat.le_of_ble_eq_true rfl⟩) 25 4 rfl rfl rfl rfl hl.1 rfl (Nat.le_of_ble_eq_true rfl) dX4_enter_23 ⟨Nat.zero_le _, Nat.zero_le _⟩ (fun H locs hG => ?_)
    have hz := Option.some.inj hf
    have z0 := (Prod.mk.inj hz).1
    replace hz := (Prod.mk.inj hz).2
    have z1 := (Prod.mk.inj hz).1
    replace hz := (Prod.mk.inj hz).2
    have z2 := hz
    exact x_iret hx hb hr hlk hK hG z0 (by rw [z1, z2]) dX4_enter_26
  unfold f_X4_enter at hf
  refine lv_iload_n hx hb dX4_enter_0 rfl (lv_at hl 1 rfl) ?_
  obtain ⟨r4, q5, hf⟩ := cl1_e hf
  refine x_callSi (pre := ([] : va_W)) (wc := ([] : va_W)) (wc1 := ([] : va_W)) (post := WH κ a uh ++ (WR κ a ur ++ (WN κ a un ++ (WS κ a us ++ (WO κ a uo))))) (As := [.int p1]) (rest := []) (w1 := WH κ a uh ++ (WR κ a ur ++ (WN κ a un ++ (WS κ a us ++ (WO κ a uo))))) ⟨hx, hb, hml, hown, hts⟩ hK hG hA (by simp only [List.append_assoc, List.nil_append, List.append_nil]) (by simp only [List.append_assoc, List.nil_append, List.append_nil]) (c_X4_isDesk l D κ a H.size p1 r4 q5) (va_cwS 1 hts gX4_enter_X4_isDesk rfl rfl rfl (by decide +kernel) ⟨Nat.le_of_ble_eq_true rfl, Nat.le_of_ble_eq_true rfl⟩) rfl hl.1 rfl (Nat.le_of_ble_eq_true rfl) dX4_enter_1 ⟨Nat.zero_le _, Nat.zero_le _⟩ (fun H locs hG => ?_)
  refine lv_if_eq (tgt := 21) hx hb dX4_enter_4 (by decide) (fun c6 => ?_) (fun c6 => ?_)
  · replace hf := if_t c6 hf
    exact L21   uh uo hf H locs ls hG (lv_sub hl [0] rfl)
  · replace hf := if_f c6 hf
    refine lv_iload_n hx hb dX4_enter_7 rfl (lv_at hl 2 rfl) ?_
    obtain ⟨r7, q8, hf⟩ := cl1_e hf
    refine x_callSi (pre := ([] : va_W)) (wc := ([] : va_W)) (wc1 := ([] : va_W)) (post := WH κ a uh ++ (WR κ a ur ++ (WN κ a un ++ (WS κ a us ++ (WO κ a uo))))) (As := [.int p2]) (rest := []) (w1 := WH κ a uh ++ (WR κ a ur ++ (WN κ a un ++ (WS κ a us ++ (WO κ a uo))))) ⟨hx, hb, hml, hown, hts⟩ hK hG hA (by simp only [List.append_assoc, List.nil_append, List.append_nil]) (by simp only [List.append_assoc, List.nil_append, List.append_nil]) (c_X4_isKey l D κ a H.size p2 r7 q8) (va_cwS 1 hts gX4_enter_X4_isKey rfl rfl rfl (by decide +kernel) ⟨Nat.le_of_ble_eq_true rfl, Nat.le_of_ble_eq_true rfl⟩) rfl hl.1 rfl (Nat.le_of_ble_eq_true rfl) dX4_enter_8 ⟨Nat.zero_le _, Nat.zero_le _⟩ (fun H locs hG => ?_)
    refine lv_if_eq (tgt := 21) hx hb dX4_enter_11 (by decide) (fun c9 => ?_) (fun c9 => ?_)
    · replace hf := if_t c9 hf
      exact L21   uh uo hf H locs ls hG (lv_sub hl [0] rfl)
    · replace hf := if_f c9 hf
      refine lv_iload_n hx hb dX4_enter_14 rfl (lv_at hl 3 rfl) ?_
      obtain ⟨r10, q11, hf⟩ := cl1_e hf
      refine x_callSi (pre := ([] : va_W)) (wc := ([] : va_W)) (wc1 := ([] : va_W)) (post := WH κ a uh ++ (WR κ a ur ++ (WN κ a un ++ (WS κ a us ++ (WO κ a uo))))) (As := [.int p3]) (rest := []) (w1 := WH κ a uh ++ (WR κ a ur ++ (WN κ a un ++ (WS κ a us ++ (WO κ a uo))))) ⟨hx, hb, hml, hown, hts⟩ hK hG hA (by simp only [List.append_assoc, List.nil_append, List.append_nil]) (by simp only [List.append_assoc, List.nil_append, List.append_nil]) (c_X4_isTag l D κ a H.size p3 r10 q11) (va_cwS 1 hts gX4_enter_X4_isTag rfl rfl rfl (by decide +kernel) ⟨Nat.le_of_ble_eq_true rfl, Nat.le_of_ble_eq_true rfl⟩) rfl hl.1 rfl (Nat.le_of_ble_eq_true rfl) dX4_enter_15 ⟨Nat.zero_le _, Nat.zero_le _⟩ (fun H locs hG => ?_)
      refine lv_if_ne (tgt := 27) hx hb dX4_enter_18 (by decide) (fun c12 => ?_) (fun c12 => ?_)
      · replace hf := if_f c12 hf
        refine lv_aload_n hx hb dX4_enter_27 rfl (lv_at hl 0 rfl) ?_
        refine x_get (C := RX4) (T := TX4) (N := 8) (ci := 4) hx hb hts iX4 hown hK hG 25 rfl rfl 0 (by decide) k12 (v := .ref (a 0)) rfl dX4_enter_28 ?_
        refine x_get (C := RX0) (T := TX0) (N := 17) (ci := 0) hx hb hts iX0 hown hK hG 0 rfl rfl 0 (by decide) k69 (v := .int (uh.came)) rfl dX4_enter_31 ?_
        refine lv_sipush (v := 300) hx hb dX4_enter_34 (by decide) ?_
        refine lv_icmp_lt (tgt := 47) hx hb dX4_enter_37 (by decide) (fun c13 => ?_) (fun c13 => ?_)
        · replace hf := if_t c13 hf
          refine lv_aload_n hx hb dX4_enter_47 rfl (lv_at hl 0 rfl) ?_
          refine x_get (C := RX4) (T := TX4) (N := 8) (ci := 4) hx hb hts iX4 hown hK hG 25 rfl rfl 0 (by decide) k12 (v := .ref (a 0)) rfl dX4_enter_48 ?_
          refine lv_iload_n hx hb dX4_enter_51 rfl (lv_at hl 2 rfl) ?_
          refine lv_iload_n hx hb dX4_enter_52 rfl (lv_at hl 3 rfl) ?_
          obtain ⟨r14, uh15, q16, hf⟩ := cl2_e hf
          refine x_callVi (pre := ([] : va_W)) (wc := WH κ a uh) (wc1 := WH κ a uh15) (post := WR κ a ur ++ (WN κ a un ++ (WS κ a us ++ (WO κ a uo)))) (As := [.int p2, .int p3]) (rest := []) (w1 := WH κ a uh15 ++ (WR κ a ur ++ (WN κ a un ++ (WS κ a us ++ (WO κ a uo))))) ⟨hx, hb, hml, hown, hts⟩ hK hG hA (by simp only [List.append_assoc, List.nil_append, List.append_nil]) (by simp only [List.append_assoc, List.nil_append, List.append_nil]) (c_X0_newItem l D κ a H.size p2 p3 uh r14 uh15 q16) (cwV 2 hts gX4_enter_X0_newItem rfl rfl rfl (by decide +kernel) ⟨Nat.le_of_ble_eq_true rfl, Nat.le_of_ble_eq_true rfl⟩) 0 0 rfl rfl rfl rfl hl.1 rfl (Nat.le_of_ble_eq_true rfl) dX4_enter_53 ⟨Nat.zero_le _, Nat.zero_le _⟩ (fun H locs hG => ?_)
          refine lv_istore (lv' := [(4, .int r14), (0, .ref (a 25)), (1, .int p1), (2, .int p2), (3, .int p3)]) hx hb dX4_enter_56 hl (by decide) rfl (fun ls hl => ?_)
          refine lv_aload_n hx hb dX4_enter_58 rfl (lv_at hl 1 rfl) ?_
          refine x_get (C := RX4) (T := TX4) (N := 8) (ci := 4) hx hb hts iX4 hown hK hG 25 rfl rfl 0 (by decide) k12 (v := .ref (a 0)) rfl dX4_enter_59 ?_
          refine lv_iload hx hb dX4_enter_62 (lv_at hl 0 rfl) ?_
          refine lv_iload_n hx hb dX4_enter_64 rfl (lv_at hl 2 rfl) ?_
          obtain ⟨uh17, q18, hf⟩ := cl1_e hf
          refine x_callVv (pre := ([] : va_W)) (wc := WH κ a uh15) (wc1 := WH κ a uh17) (post := WR κ a ur ++ (WN κ a un ++ (WS κ a us ++ (WO κ a uo)))) (As := [.int r14, .int p1]) (rest := []) (w1 := WH κ a uh17 ++ (WR κ a ur ++ (WN κ a un ++ (WS κ a us ++ (WO κ a uo))))) ⟨hx, hb, hml, hown, hts⟩ hK hG hA (by simp only [List.append_assoc, List.nil_append, List.append_nil]) (by simp only [List.append_assoc, List.nil_append, List.append_nil]) (c_X0_place l D κ a H.size r14 p1 uh15 uh17 q18) (cwV 2 hts gX4_enter_X0_place rfl rfl rfl (by decide +kernel) ⟨Nat.le_of_ble_eq_true rfl, Nat.le_of_ble_eq_true rfl⟩) 0 0 rfl rfl rfl rfl hl.1 rfl (Nat.le_of_ble_eq_true rfl) dX4_enter_65 ⟨Nat.zero_le _, Nat.zero_le _⟩ (fun H locs hG => ?_)
          refine lv_aload_n hx hb dX4_enter_68 rfl (lv_at hl 1 rfl) ?_
          refine x_get (C := RX4) (T := TX4) (N := 8) (ci := 4) hx hb hts iX4 hown hK hG 25 rfl rfl 0 (by decide) k12 (v := .ref (a 0)) rfl dX4_enter_69 ?_
          obtain ⟨uh19, q20, hf⟩ := cl1_e hf
          refine x_callVv (pre := ([] : va_W)) (wc := WH κ a uh17) (wc1 := WH κ a uh19) (post := WR κ a ur ++ (WN κ a un ++ (WS κ a us ++ (WO κ a uo)))) (As := []) (rest := []) (w1 := WH κ a uh19 ++ (WR κ a ur ++ (WN κ a un ++ (WS κ a us ++ (WO κ a uo))))) ⟨hx, hb, hml, hown, hts⟩ hK hG hA (by simp only [List.append_assoc, List.nil_append, List.append_nil]) (by simp only [List.append_assoc, List.nil_append, List.append_nil]) (c_X0_sweep l D κ a H.size uh17 uh19 q20) (cwV 0 hts gX4_enter_X0_sweep rfl rfl rfl (by decide +kernel) ⟨Nat.le_of_ble_eq_true rfl, Nat.le_of_ble_eq_true rfl⟩) 0 0 rfl rfl rfl rfl hl.1 rfl (Nat.le_of_ble_eq_true rfl) dX4_enter_72 ⟨Nat.zero_le _, Nat.zero_le _⟩ (fun H locs hG => ?_)
          refine lv_iload hx hb dX4_enter_75 (lv_at hl 0 rfl) ?_
          have hz := Option.some.inj hf
          have z0 := (Prod.mk.inj hz).1
          replace hz := (Prod.mk.inj hz).2
          have z1 := (Prod.mk.inj hz).1
          replace hz := (Prod.mk.inj hz).2
          have z2 := hz
          exact x_iret hx hb hr hlk hK hG z0 (by rw [z1, z2]) dX4_enter_77
        · replace hf := if_f c13 hf
          refine lv_aload_n hx hb dX4_enter_40 rfl (lv_at hl 0 rfl) ?_
          refine lv_bipush (v := (-5)) hx hb dX4_enter_41 (by decide) ?_
          obtain ⟨r21, uo22, q23, hf⟩ := cl2_e hf
          refine x_callVi (pre := ([] : va_W)) (wc := WH κ a uh ++ (WR κ a ur ++ (WN κ a un ++ (WS κ a us ++ (WO κ a uo))))) (wc1 := WH κ a uh ++ (WR κ a ur ++ (WN κ a un ++ (WS κ a us ++ (WO κ a uo22))))) (post := ([] : va_W)) (As := [.int ((-5))]) (rest := []) (w1 := WH κ a uh ++ (WR κ a ur ++ (WN κ a un ++ (WS κ a us ++ (WO κ a uo22))))) ⟨hx, hb, hml, hown, hts⟩ hK hG hA (by simp only [List.append_assoc, List.nil_append, List.append_nil]) (by simp only [List.append_assoc, List.nil_append, List.append_nil]) (c_X4_refuse l D κ a H.size ((-5)) uh ur un us uo r21 uo22 q23) (cwV 1 hts gX4_enter_X4_refuse rfl rfl rfl (by decide +kernel) ⟨Nat.le_of_ble_eq_true rfl, Nat.le_of_ble_eq_true rfl⟩) 25 4 rfl rfl rfl rfl hl.1 rfl (Nat.le_of_ble_eq_true rfl) dX4_enter_43 ⟨Nat.zero_le _, Nat.zero_le _⟩ (fun H locs hG => ?_)
          have hz := Option.some.inj hf
          have z0 := (Prod.mk.inj hz).1
          replace hz := (Prod.mk.inj hz).2
          have z1 := (Prod.mk.inj hz).1
          replace hz := (Prod.mk.inj hz).2
          have z2 := hz
          exact x_iret hx hb hr hlk hK hG z0 (by rw [z1, z2]) dX4_enter_46
      · replace hf := if_t c12 hf
        exact L21   uh uo hf H locs ls hG (lv_sub hl [0] rfl)
set_option maxRecDepth 100000 in
set_option maxHeartbeats 4000000 in
theorem c_X4_take (l : Launch) (D : va_G) (κ : Nat → ClassId) (a : Nat → Nat) (sz : Nat) (p1 : Int32) (uh : HS) (ur : RS) (un : NS) (us : SS) (uo : OS) (r' : Int32) (uh' : HS) (uo' : OS) (hf : f_X4_take p1 uh uo = some (r', uh', uo')) : Met l yX4_take wsX4_take ({ frames := 5, cells := 0, slots := 0, locals := 119 } : Room) (xPc D κ [.ref (a 25), .int p1] (WH κ a uh ++ (WR κ a ur ++ (WN κ a un ++ (WS κ a us ++ (WO κ a uo))))) sz) (xQi D κ r' (WH κ a uh' ++ (WR κ a ur ++ (WN κ a un ++ (WS κ a us ++ (WO κ a uo'))))) (va_A (WH κ a uh ++ (WR κ a ur ++ (WN κ a un ++ (WS κ a us ++ (WO κ a uo))))) sz)) 0 0 (va_A (WH κ a uh ++ (WR κ a ur ++ (WN κ a un ++ (WS κ a us ++ (WO κ a uo))))) sz) := by
  refine x_ofW (cc := cX4_take) (maxL := 2) (ret := (some .int)) (Qf := fun A => xQi D κ r' (WH κ a uh' ++ (WR κ a ur ++ (WN κ a un ++ (WS κ a us ++ (WO κ a uo'))))) A) (by decide) rfl (Nat.le_of_ble_eq_true rfl) ?_
  intro p e s m below meth c hx hb hr hlk hml hown hts hK A hA H locs hG ls hl
  have hown : s.vm.findClass RX4 = some m.cls := hown
  have hl : lv_has ls 2 [(0, .ref (a 25)), (1, .int p1)] := hl
  have iX0 : ∀ w ∈ u_ws RX0 TX0 17, w ∈ wsX4_take := fun _ h => List.mem_cons_of_mem _ (List.mem_append_right _ h)
  have iX4 : ∀ w ∈ u_ws RX4 TX4 8, w ∈ wsX4_take := fun _ h => List.mem_cons_of_mem _ (List.mem_append_left _ (List.mem_append_right _ h))
  have k12 := hts (.fieldLink RX4 12 "SpineDesks" "hall" "LSpineDesks$Hall;") (List.mem_of_getElem? (i := 1) rfl)
  have k84 := hts (.fieldLink RX4 84 "SpineDesks$Hall" "root" "[I") (List.mem_of_getElem? (i := 2) rfl)
  unfold f_X4_take at hf
  refine lv_iload_n hx hb dX4_take_0 rfl (lv_at hl 1 rfl) ?_
  obtain ⟨r1, q2, hf⟩ := cl1_e hf
  refine x_callSi (pre := ([] : va_W)) (wc := ([] : va_W)) (wc1 := ([] : va_W)) (post := WH κ a uh ++ (WR κ a ur ++ (WN κ a un ++ (WS κ a us ++ (WO κ a uo))))) (As := [.int p1]) (rest := []) (w1 := WH κ a uh ++ (WR κ a ur ++ (WN κ a un ++ (WS κ a us ++ (WO κ a uo))))) ⟨hx, hb, hml, hown, hts⟩ hK hG hA (by simp only [List.append_assoc, List.nil_append, List.append_nil]) (by simp only [List.append_assoc, List.nil_append, List.append_nil]) (c_X4_isDesk l D κ a H.size p1 r1 q2) (va_cwS 1 hts gX4_take_X4_isDesk rfl rfl rfl (by decide +kernel) ⟨Nat.le_of_ble_eq_true rfl, Nat.le_of_ble_eq_true rfl⟩) rfl hl.1 rfl (Nat.le_of_ble_eq_true rfl) dX4_take_1 ⟨Nat.zero_le _, Nat.zero_le _⟩ (fun H locs hG => ?_)
  refine lv_if_ne (tgt := 13) hx hb dX4_take_4 (by decide) (fun c3 => ?_) (fun c3 => ?_)
  · replace hf := if_f c3 hf
    refine lv_aload_n hx hb dX4_take_13 rfl (lv_at hl 0 rfl) ?_
    refine x_get (C := RX4) (T := TX4) (N := 8) (ci := 4) hx hb hts iX4 hown hK hG 25 rfl rfl 0 (by decide) k12 (v := .ref (a 0)) rfl dX4_take_14 ?_
    refine x_get (C := RX0) (T := TX0) (N := 17) (ci := 0) hx hb hts iX0 hown hK hG 0 rfl rfl 5 (by decide) k84 (v := .ref (a 1)) rfl dX4_take_17 ?_
    refine lv_iload_n hx hb dX4_take_20 rfl (lv_at hl 1 rfl) ?_
    obtain ⟨v4, ev4, hin, hf⟩ := ck_e hf
    refine x_iald hx hb hK hG 1 rfl ev4 hin dX4_take_21 ?_
    refine lv_iconst (v := (-1)) hx hb dX4_take_22 (by decide) ?_
    refine lv_icmp_ne (tgt := 33) hx hb dX4_take_23 (by decide) (fun c5 => ?_) (fun c5 => ?_)
    · replace hf := if_f c5 hf
      refine lv_aload_n hx hb dX4_take_33 rfl (lv_at hl 0 rfl) ?_
      refine x_get (C := RX4) (T := TX4) (N := 8) (ci := 4) hx hb hts iX4 hown hK hG 25 rfl rfl 0 (by decide) k12 (v := .ref (a 0)) rfl dX4_take_34 ?_
      refine lv_iload_n hx hb dX4_take_37 rfl (lv_at hl 1 rfl) ?_
      obtain ⟨r6, uh7, q8, hf⟩ := cl2_e hf
      refine x_callVi (pre := ([] : va_W)) (wc := WH κ a uh) (wc1 := WH κ a uh7) (post := WR κ a ur ++ (WN κ a un ++ (WS κ a us ++ (WO κ a uo)))) (As := [.int p1]) (rest := []) (w1 := WH κ a uh7 ++ (WR κ a ur ++ (WN κ a un ++ (WS κ a us ++ (WO κ a uo))))) ⟨hx, hb, hml, hown, hts⟩ hK hG hA (by simp only [List.append_assoc, List.nil_append, List.append_nil]) (by simp only [List.append_assoc, List.nil_append, List.append_nil]) (c_X0_dispatch l D κ a H.size p1 uh r6 uh7 q8) (cwV 1 hts gX4_take_X0_dispatch rfl rfl rfl (by decide +kernel) ⟨Nat.le_of_ble_eq_true rfl, Nat.le_of_ble_eq_true rfl⟩) 0 0 rfl rfl rfl rfl hl.1 rfl (Nat.le_of_ble_eq_true rfl) dX4_take_38 ⟨Nat.zero_le _, Nat.zero_le _⟩ (fun H locs hG => ?_)
      have hz := Option.some.inj hf
      have z0 := (Prod.mk.inj hz).1
      replace hz := (Prod.mk.inj hz).2
      have z1 := (Prod.mk.inj hz).1
      replace hz := (Prod.mk.inj hz).2
      have z2 := hz
      exact x_iret hx hb hr hlk hK hG z0 (by rw [z1, z2]) dX4_take_41
    · replace hf := if_t c5 hf
      refine lv_aload_n hx hb dX4_take_26 rfl (lv_at hl 0 rfl) ?_
      refine lv_bipush (v := (-3)) hx hb dX4_take_27 (by decide) ?_
      obtain ⟨r9, uo10, q11, hf⟩ := cl2_e hf
      refine x_callVi (pre := ([] : va_W)) (wc := WH κ a uh ++ (WR κ a ur ++ (WN κ a un ++ (WS κ a us ++ (WO κ a uo))))) (wc1 := WH κ a uh ++ (WR κ a ur ++ (WN κ a un ++ (WS κ a us ++ (WO κ a uo10))))) (post := ([] : va_W)) (As := [.int ((-3))]) (rest := []) (w1 := WH κ a uh ++ (WR κ a ur ++ (WN κ a un ++ (WS κ a us ++ (WO κ a uo10))))) ⟨hx, hb, hml, hown, hts⟩ hK hG hA (by simp only [List.append_assoc, List.nil_append, List.append_nil]) (by simp only [List.append_assoc, List.nil_append, List.append_nil]) (c_X4_refuse l D κ a H.size ((-3)) uh ur un us uo r9 uo10 q11) (cwV 1 hts gX4_take_X4_refuse rfl rfl rfl (by decide +kernel) ⟨Nat.le_of_ble_eq_true rfl, Nat.le_of_ble_eq_true rfl⟩) 25 4 rfl rfl rfl rfl hl.1 rfl (Nat.le_of_ble_eq_true rfl) dX4_take_29 ⟨Nat.zero_le _, Nat.zero_le _⟩ (fun H locs hG => ?_)
      have hz := Option.some.inj hf
      have z0 := (Prod.mk.inj hz).1
      replace hz := (Prod.mk.inj hz).2
      have z1 := (Prod.mk.inj hz).1
      replace hz := (Prod.mk.inj hz).2
      have z2 := hz
      exact x_iret hx hb hr hlk hK hG z0 (by rw [z1, z2]) dX4_take_32
  · replace hf := if_t c3 hf
    refine lv_aload_n hx hb dX4_take_7 rfl (lv_at hl 0 rfl) ?_
    refine lv_iconst (v := (-1)) hx hb dX4_take_8 (by decide) ?_
    obtain ⟨r12, uo13, q14, hf⟩ := cl2_e hf
    refine x_callVi (pre := ([] : va_W)) (wc := WH κ a uh ++ (WR κ a ur ++ (WN κ a un ++ (WS κ a us ++ (WO κ a uo))))) (wc1 := WH κ a uh ++ (WR κ a ur ++ (WN κ a un ++ (WS κ a us ++ (WO κ a uo13))))) (post := ([] : va_W)) (As := [.int ((-1))]) (rest := []) (w1 := WH κ a uh ++ (WR κ a ur ++ (WN κ a un ++ (WS κ a us ++ (WO κ a uo13))))) ⟨hx, hb, hml, hown, hts⟩ hK hG hA (by simp only [List.append_assoc, List.nil_append, List.append_nil]) (by simp only [List.append_assoc, List.nil_append, List.append_nil]) (c_X4_refuse l D κ a H.size ((-1)) uh ur un us uo r12 uo13 q14) (cwV 1 hts gX4_take_X4_refuse rfl rfl rfl (by decide +kernel) ⟨Nat.le_of_ble_eq_true rfl, Nat.le_of_ble_eq_true rfl⟩) 25 4 rfl rfl rfl rfl hl.1 rfl (Nat.le_of_ble_eq_true rfl) dX4_take_9 ⟨Nat.zero_le _, Nat.zero_le _⟩ (fun H locs hG => ?_)
    have hz := Option.some.inj hf
    have z0 := (Prod.mk.inj hz).1
    replace hz := (Prod.mk.inj hz).2
    have z1 := (Prod.mk.inj hz).1
    replace hz := (Prod.mk.inj hz).2
    have z2 := hz
    exact x_iret hx hb hr hlk hK hG z0 (by rw [z1, z2]) dX4_take_12
set_option maxRecDepth 100000 in
set_option maxHeartbeats 4000000 in
theorem c_X4_round (l : Launch) (D : va_G) (κ : Nat → ClassId) (a : Nat → Nat) (sz : Nat) (p1 : Int32) (uh : HS) (ur : RS) (un : NS) (us : SS) (uo : OS) (r' : Int32) (uh' : HS) (uo' : OS) (hf : f_X4_round p1 uh uo = some (r', uh', uo')) : Met l yX4_round wsX4_round ({ frames := 6, cells := 0, slots := 0, locals := 140 } : Room) (xPc D κ [.ref (a 25), .int p1] (WH κ a uh ++ (WR κ a ur ++ (WN κ a un ++ (WS κ a us ++ (WO κ a uo))))) sz) (xQi D κ r' (WH κ a uh' ++ (WR κ a ur ++ (WN κ a un ++ (WS κ a us ++ (WO κ a uo'))))) (va_A (WH κ a uh ++ (WR κ a ur ++ (WN κ a un ++ (WS κ a us ++ (WO κ a uo))))) sz)) 0 0 (va_A (WH κ a uh ++ (WR κ a ur ++ (WN κ a un ++ (WS κ a us ++ (WO κ a uo))))) sz) := by
  refine x_ofW (cc := cX4_round) (maxL := 4) (ret := (some .int)) (Qf := fun A => xQi D κ r' (WH κ a uh' ++ (WR κ a ur ++ (WN κ a un ++ (WS κ a us ++ (WO κ a uo'))))) A) (by decide) rfl (Nat.le_of_ble_eq_true rfl) ?_
  intro p e s m below meth c hx hb hr hlk hml hown hts hK A hA H locs hG ls hl
  have hown : s.vm.findClass RX4 = some m.cls := hown
  have hl : lv_has ls 4 [(0, .ref (a 25)), (1, .int p1)] := hl
  have iX4 : ∀ w ∈ u_ws RX4 TX4 8, w ∈ wsX4_round := fun _ h => List.mem_cons_of_mem _ (List.mem_append_left _ (List.mem_append_right _ h))
  have k12 := hts (.fieldLink RX4 12 "SpineDesks" "hall" "LSpineDesks$Hall;") (List.mem_of_getElem? (i := 1) rfl)
  have L40 : ∀ (rec21 : Int32 → Int32 → Int32 → HS → OS → Option (Int32 × HS × OS)) (hr21 : ∀ (y1 : Int32) (y2 : Int32) (y3 : Int32) (uh : HS) (uo : OS), rec21 y1 y2 y3 uh uo = some (r', uh', uo') → ∀ (H : Heap) (locs : List Loc) (ls : Array Slot), xG D A s.heap (WH κ a uh ++ (WR κ a ur ++ (WN κ a un ++ (WS κ a us ++ (WO κ a uo))))) H locs → lv_has ls 4 [(0, .ref (a 25)), (1, .int y1), (2, .int y2), (3, .int y3)] → W p l e ({ frames := 6, cells := 0, slots := 0, locals := 140 } : Room) s m (([.ref (a 25), .int p1] : List Value).toArray) below meth c H locs 0 0 (MQ below (xQi D κ r' (WH κ a uh' ++ (WR κ a ur ++ (WN κ a un ++ (WS κ a us ++ (WO κ a uo'))))) A) (([.ref (a 25), .int p1] : List Value).toArray) s 0 0 A) (F0 m 21 ls [])), ∀ (x1 : Int32) (x2 : Int32) (x3 : Int32) (uh : HS) (uo : OS), f_X4_round_40 rec21 x1 x2 x3 uh uo = some (r', uh', uo') → ∀ (H : Heap) (locs : List Loc) (ls : Array Slot), xG D A s.heap (WH κ a uh ++ (WR κ a ur ++ (WN κ a un ++ (WS κ a us ++ (WO κ a uo))))) H locs → lv_has ls 4 [(0, .ref (a 25)), (1, .int x1), (2, .int x2), (3, .int x3)] → W p l e ({ frames := 6, cells := 0, slots := 0, locals := 140 } : Room) s m (([.ref (a 25), .int p1] : List Value).toArray) below meth c H locs 0 0 (MQ below (xQi D κ r' (WH κ a uh' ++ (WR κ a ur ++ (WN κ a un ++ (WS κ a us ++ (WO κ a uo'))))) A) (([.ref (a 25), .int p1] : List Value).toArray) s 0 0 A) (F0 m 40 ls []) := by
    intro rec21 hr21 x1 x2 x3 uh uo hf H locs ls hG hl
    unfold f_X4_round_40 at hf
    obtain ⟨y1, ey1, hf⟩ := bnd_e hf
    refine lv_iinc (v := y1) (lv' := [(3, .int y1), (0, .ref (a 25)), (1, .int x1), (2, .int x2)]) hx hb dX4_round_40 hl (k := 3) rfl (by rw [ey1]; rfl) (by decide) rfl (fun ls hl => ?_)
    refine lv_goto (tgt := 21) hx hb dX4_round_43 (by decide) ?_
    exact hr21 x1 x2 y1 uh uo hf H locs ls hG (lv_sub hl [1, 2, 3, 0] rfl)
  have L21 : ∀ (n : Nat), ∀ (x1 : Int32) (x2 : Int32) (x3 : Int32) (uh : HS) (uo : OS), f_X4_round_21 n x1 x2 x3 uh uo = some (r', uh', uo') → ∀ (H : Heap) (locs : List Loc) (ls : Array Slot), xG D A s.heap (WH κ a uh ++ (WR κ a ur ++ (WN κ a un ++ (WS κ a us ++ (WO κ a uo))))) H locs → lv_has ls 4 [(0, .ref (a 25)), (1, .int x1), (2, .int x2), (3, .int x3)] → W p l e ({ frames := 6, cells := 0, slots := 0, locals := 140 } : Room) s m (([.ref (a 25), .int p1] : List Value).toArray) below meth c H locs 0 0 (MQ below (xQi D κ r' (WH κ a uh' ++ (WR κ a ur ++ (WN κ a un ++ (WS κ a us ++ (WO κ a uo'))))) A) (([.ref (a 25), .int p1] : List Value).toArray) s 0 0 A) (F0 m 21 ls []) := by
    intro  n
    induction n with
    | zero => intro x1 x2 x3 uh uo hf; cases hf
    | succ n ih =>
      intro x1 x2 x3 uh uo hf H locs ls hG hl
      replace hf : f_X4_round_B21 (f_X4_round_21 n) x1 x2 x3 uh uo = some (r', uh', uo') := hf
      unfold f_X4_round_B21 at hf
      refine lv_iload_n hx hb dX4_round_21 rfl (lv_at hl 3 rfl) ?_
      refine lv_iload_n hx hb dX4_round_22 rfl (lv_at hl 1 rfl) ?_
      refine lv_icmp_ge (tgt := 46) hx hb dX4_round_23 (by decide) (fun c2 => ?_) (fun c2 => ?_)
      · replace hf := if_t c2 hf
        refine lv_iload_n hx hb dX4_round_46 rfl (lv_at hl 2 rfl) ?_
        have hz := Option.some.inj hf
        have z0 := (Prod.mk.inj hz).1
        replace hz := (Prod.mk.inj hz).2
        have z1 := (Prod.mk.inj hz).1
        replace hz := (Prod.mk.inj hz).2
        have z2 := hz
        exact x_iret hx hb hr hlk hK hG z0 (by rw [z1, z2]) dX4_round_47
      · replace hf := if_f c2 hf
        refine lv_aload_n hx hb dX4_round_26 rfl (lv_at hl 0 rfl) ?_
        refine x_get (C := RX4) (T := TX4) (N := 8) (ci := 4) hx hb hts iX4 hown hK hG 25 rfl rfl 0 (by decide) k12 (v := .ref (a 0)) rfl dX4_round_27 ?_
        obtain ⟨r3, uh4, q5, hf⟩ := cl2_e hf
        refine x_callVi (pre := ([] : va_W)) (wc := WH κ a uh) (wc1 := WH κ a uh4) (post := WR κ a ur ++ (WN κ a un ++ (WS κ a us ++ (WO κ a uo)))) (As := []) (rest := []) (w1 := WH κ a uh4 ++ (WR κ a ur ++ (WN κ a un ++ (WS κ a us ++ (WO κ a uo))))) ⟨hx, hb, hml, hown, hts⟩ hK hG hA (by simp only [List.append_assoc, List.nil_append, List.append_nil]) (by simp only [List.append_assoc, List.nil_append, List.append_nil]) (c_X0_callNext l D κ a H.size uh r3 uh4 q5) (cwV 0 hts gX4_round_X0_callNext rfl rfl rfl (by decide +kernel) ⟨Nat.le_of_ble_eq_true rfl, Nat.le_of_ble_eq_true rfl⟩) 0 0 rfl rfl rfl rfl hl.1 rfl (Nat.le_of_ble_eq_true rfl) dX4_round_30 ⟨Nat.zero_le _, Nat.zero_le _⟩ (fun H locs hG => ?_)
        refine lv_iconst (v := (-1)) hx hb dX4_round_33 (by decide) ?_
        refine lv_icmp_eq (tgt := 40) hx hb dX4_round_34 (by decide) (fun c6 => ?_) (fun c6 => ?_)
        · replace hf := if_t c6 hf
          exact L40 (f_X4_round_21 n) ih  x1 x2 x3 uh4 uo hf H locs ls hG (lv_sub hl [0, 1, 2, 3] rfl)
        · replace hf := if_f c6 hf
          obtain ⟨y7, ey7, hf⟩ := bnd_e hf
          refine lv_iinc (v := y7) (lv' := [(2, .int y7), (0, .ref (a 25)), (1, .int x1), (3, .int x3)]) hx hb dX4_round_37 hl (k := 2) rfl (by rw [ey7]; rfl) (by decide) rfl (fun ls hl => ?_)
          exact L40 (f_X4_round_21 n) ih  x1 y7 x3 uh4 uo hf H locs ls hG (lv_sub hl [1, 2, 0, 3] rfl)
  have L11 : ∀ (uh : HS) (uo : OS), f_X4_round_11 uh uo = some (r', uh', uo') → ∀ (H : Heap) (locs : List Loc) (ls : Array Slot), xG D A s.heap (WH κ a uh ++ (WR κ a ur ++ (WN κ a un ++ (WS κ a us ++ (WO κ a uo))))) H locs → lv_has ls 4 [(0, .ref (a 25))] → W p l e ({ frames := 6, cells := 0, slots := 0, locals := 140 } : Room) s m (([.ref (a 25), .int p1] : List Value).toArray) below meth c H locs 0 0 (MQ below (xQi D κ r' (WH κ a uh' ++ (WR κ a ur ++ (WN κ a un ++ (WS κ a us ++ (WO κ a uo'))))) A) (([.ref (a 25), .int p1] : List Value).toArray) s 0 0 A) (F0 m 11 ls []) := by
    intro  uh uo hf H locs ls hG hl
    unfold f_X4_round_11 at hf
    refine lv_aload_n hx hb dX4_round_11 rfl (lv_at hl 0 rfl) ?_
    refine lv_iconst (v := (-1)) hx hb dX4_round_12 (by decide) ?_
    obtain ⟨r8, uo9, q10, hf⟩ := cl2_e hf
    refine x_callVi (pre := ([] : va_W)) (wc := WH κ a uh ++ (WR κ a ur ++ (WN κ a un ++ (WS κ a us ++ (WO κ a uo))))) (wc1 := WH κ a uh ++ (WR κ a ur ++ (WN κ a un ++ (WS κ a us ++ (WO κ a uo9))))) (post := ([] : va_W)) (As := [.int ((-1))]) (rest := []) (w1 := WH κ a uh ++ (WR κ a ur ++ (WN κ a un ++ (WS κ a us ++ (WO κ a uo9))))) ⟨hx, hb, hml, hown, hts⟩ hK hG hA (by simp only [List.append_assoc, List.nil_append, List.append_nil]) (by simp only [List.append_assoc, List.nil_append, List.append_nil]) (c_X4_refuse l D κ a H.size ((-1)) uh ur un us uo r8 uo9 q10) (cwV 1 hts gX4_round_X4_refuse rfl rfl rfl (by decide +kernel) ⟨Nat.le_of_ble_eq_true rfl, Nat.le_of_ble_eq_true rfl⟩) 25 4 rfl rfl rfl rfl hl.1 rfl (Nat.le_of_ble_eq_true rfl) dX4_round_13 ⟨Nat.zero_le _, Nat.zero_le _⟩ (fun H locs hG => ?_)
    have hz := Option.some.inj hf
    have z0 := (Prod.mk.inj hz).1
    replace hz := (Prod.mk.inj hz).2
    have z1 := (Prod.mk.inj hz).1
    replace hz := (Prod.mk.inj hz).2
    have z2 := hz
    exact x_iret hx hb hr hlk hK hG z0 (by rw [z1, z2]) dX4_round_16
  unfold f_X4_round at hf
  refine lv_iload_n hx hb dX4_round_0 rfl (lv_at hl 1 rfl) ?_
  refine lv_iconst (v := 1) hx hb dX4_round_1 (by decide) ?_
  refine lv_icmp_lt (tgt := 11) hx hb dX4_round_2 (by decide) (fun c11 => ?_) (fun c11 => ?_)
  · replace hf := if_t c11 hf
    exact L11   uh uo hf H locs ls hG (lv_sub hl [0] rfl)
  · replace hf := if_f c11 hf
    refine lv_iload_n hx hb dX4_round_5 rfl (lv_at hl 1 rfl) ?_
    refine lv_bipush (v := 30) hx hb dX4_round_6 (by decide) ?_
    refine lv_icmp_le (tgt := 17) hx hb dX4_round_8 (by decide) (fun c12 => ?_) (fun c12 => ?_)
    · replace hf := if_t c12 hf
      refine lv_iconst (v := 0) hx hb dX4_round_17 (by decide) ?_
      refine lv_istore_n (lv' := [(2, .int 0), (0, .ref (a 25)), (1, .int p1)]) hx hb dX4_round_18 rfl hl (by decide) rfl (fun ls hl => ?_)
      refine lv_iconst (v := 0) hx hb dX4_round_19 (by decide) ?_
      refine lv_istore_n (lv' := [(3, .int 0), (2, .int 0), (0, .ref (a 25)), (1, .int p1)]) hx hb dX4_round_20 rfl hl (by decide) rfl (fun ls hl => ?_)
      exact L21  FU p1 0 0 uh uo hf H locs ls hG (lv_sub hl [2, 3, 1, 0] rfl)
    · replace hf := if_f c12 hf
      exact L11   uh uo hf H locs ls hG (lv_sub hl [0] rfl)
set_option maxRecDepth 100000 in
set_option maxHeartbeats 4000000 in
theorem c_X4_cross (l : Launch) (D : va_G) (κ : Nat → ClassId) (a : Nat → Nat) (sz : Nat) (p1 : Int32) (uh : HS) (ur : RS) (un : NS) (us : SS) (uo : OS) (r' : Int32) (uh' : HS) (uo' : OS) (hf : f_X4_cross p1 uh uo = some (r', uh', uo')) : Met l yX4_cross wsX4_cross ({ frames := 5, cells := 0, slots := 0, locals := 119 } : Room) (xPc D κ [.ref (a 25), .int p1] (WH κ a uh ++ (WR κ a ur ++ (WN κ a un ++ (WS κ a us ++ (WO κ a uo))))) sz) (xQi D κ r' (WH κ a uh' ++ (WR κ a ur ++ (WN κ a un ++ (WS κ a us ++ (WO κ a uo'))))) (va_A (WH κ a uh ++ (WR κ a ur ++ (WN κ a un ++ (WS κ a us ++ (WO κ a uo))))) sz)) 0 0 (va_A (WH κ a uh ++ (WR κ a ur ++ (WN κ a un ++ (WS κ a us ++ (WO κ a uo))))) sz) := by
  refine x_ofW (cc := cX4_cross) (maxL := 2) (ret := (some .int)) (Qf := fun A => xQi D κ r' (WH κ a uh' ++ (WR κ a ur ++ (WN κ a un ++ (WS κ a us ++ (WO κ a uo'))))) A) (by decide) rfl (Nat.le_of_ble_eq_true rfl) ?_
  intro p e s m below meth c hx hb hr hlk hml hown hts hK A hA H locs hG ls hl
  have hown : s.vm.findClass RX4 = some m.cls := hown
  have hl : lv_has ls 2 [(0, .ref (a 25)), (1, .int p1)] := hl
  unfold f_X4_cross at hf
  refine lv_aload_n hx hb dX4_cross_0 rfl (lv_at hl 0 rfl) ?_
  refine lv_iload_n hx hb dX4_cross_1 rfl (lv_at hl 1 rfl) ?_
  refine lv_iconst (v := 1) hx hb dX4_cross_2 (by decide) ?_
  obtain ⟨r1, uh2, uo3, q4, hf⟩ := cl3_e hf
  refine x_callVi (pre := ([] : va_W)) (wc := WH κ a uh ++ (WR κ a ur ++ (WN κ a un ++ (WS κ a us ++ (WO κ a uo))))) (wc1 := WH κ a uh2 ++ (WR κ a ur ++ (WN κ a un ++ (WS κ a us ++ (WO κ a uo3))))) (post := ([] : va_W)) (As := [.int p1, .int 1]) (rest := []) (w1 := WH κ a uh2 ++ (WR κ a ur ++ (WN κ a un ++ (WS κ a us ++ (WO κ a uo3))))) ⟨hx, hb, hml, hown, hts⟩ hK hG hA (by simp only [List.append_assoc, List.nil_append, List.append_nil]) (by simp only [List.append_assoc, List.nil_append, List.append_nil]) (c_X4_setCrossed l D κ a H.size p1 1 uh ur un us uo r1 uh2 uo3 q4) (cwV 2 hts gX4_cross_X4_setCrossed rfl rfl rfl (by decide +kernel) ⟨Nat.le_of_ble_eq_true rfl, Nat.le_of_ble_eq_true rfl⟩) 25 4 rfl rfl rfl rfl hl.1 rfl (Nat.le_of_ble_eq_true rfl) dX4_cross_3 ⟨Nat.zero_le _, Nat.zero_le _⟩ (fun H locs hG => ?_)
  have hz := Option.some.inj hf
  have z0 := (Prod.mk.inj hz).1
  replace hz := (Prod.mk.inj hz).2
  have z1 := (Prod.mk.inj hz).1
  replace hz := (Prod.mk.inj hz).2
  have z2 := hz
  exact x_iret hx hb hr hlk hK hG z0 (by rw [z1, z2]) dX4_cross_6
set_option maxRecDepth 100000 in
set_option maxHeartbeats 4000000 in
theorem c_X4_uncross (l : Launch) (D : va_G) (κ : Nat → ClassId) (a : Nat → Nat) (sz : Nat) (p1 : Int32) (uh : HS) (ur : RS) (un : NS) (us : SS) (uo : OS) (r' : Int32) (uh' : HS) (uo' : OS) (hf : f_X4_uncross p1 uh uo = some (r', uh', uo')) : Met l yX4_uncross wsX4_uncross ({ frames := 5, cells := 0, slots := 0, locals := 119 } : Room) (xPc D κ [.ref (a 25), .int p1] (WH κ a uh ++ (WR κ a ur ++ (WN κ a un ++ (WS κ a us ++ (WO κ a uo))))) sz) (xQi D κ r' (WH κ a uh' ++ (WR κ a ur ++ (WN κ a un ++ (WS κ a us ++ (WO κ a uo'))))) (va_A (WH κ a uh ++ (WR κ a ur ++ (WN κ a un ++ (WS κ a us ++ (WO κ a uo))))) sz)) 0 0 (va_A (WH κ a uh ++ (WR κ a ur ++ (WN κ a un ++ (WS κ a us ++ (WO κ a uo))))) sz) := by
  refine x_ofW (cc := cX4_uncross) (maxL := 2) (ret := (some .int)) (Qf := fun A => xQi D κ r' (WH κ a uh' ++ (WR κ a ur ++ (WN κ a un ++ (WS κ a us ++ (WO κ a uo'))))) A) (by decide) rfl (Nat.le_of_ble_eq_true rfl) ?_
  intro p e s m below meth c hx hb hr hlk hml hown hts hK A hA H locs hG ls hl
  have hown : s.vm.findClass RX4 = some m.cls := hown
  have hl : lv_has ls 2 [(0, .ref (a 25)), (1, .int p1)] := hl
  unfold f_X4_uncross at hf
  refine lv_aload_n hx hb dX4_uncross_0 rfl (lv_at hl 0 rfl) ?_
  refine lv_iload_n hx hb dX4_uncross_1 rfl (lv_at hl 1 rfl) ?_
  refine lv_iconst (v := 0) hx hb dX4_uncross_2 (by decide) ?_
  obtain ⟨r1, uh2, uo3, q4, hf⟩ := cl3_e hf
  refine x_callVi (pre := ([] : va_W)) (wc := WH κ a uh ++ (WR κ a ur ++ (WN κ a un ++ (WS κ a us ++ (WO κ a uo))))) (wc1 := WH κ a uh2 ++ (WR κ a ur ++ (WN κ a un ++ (WS κ a us ++ (WO κ a uo3))))) (post := ([] : va_W)) (As := [.int p1, .int 0]) (rest := []) (w1 := WH κ a uh2 ++ (WR κ a ur ++ (WN κ a un ++ (WS κ a us ++ (WO κ a uo3))))) ⟨hx, hb, hml, hown, hts⟩ hK hG hA (by simp only [List.append_assoc, List.nil_append, List.append_nil]) (by simp only [List.append_assoc, List.nil_append, List.append_nil]) (c_X4_setCrossed l D κ a H.size p1 0 uh ur un us uo r1 uh2 uo3 q4) (cwV 2 hts gX4_uncross_X4_setCrossed rfl rfl rfl (by decide +kernel) ⟨Nat.le_of_ble_eq_true rfl, Nat.le_of_ble_eq_true rfl⟩) 25 4 rfl rfl rfl rfl hl.1 rfl (Nat.le_of_ble_eq_true rfl) dX4_uncross_3 ⟨Nat.zero_le _, Nat.zero_le _⟩ (fun H locs hG => ?_)
  have hz := Option.some.inj hf
  have z0 := (Prod.mk.inj hz).1
  replace hz := (Prod.mk.inj hz).2
  have z1 := (Prod.mk.inj hz).1
  replace hz := (Prod.mk.inj hz).2
  have z2 := hz
  exact x_iret hx hb hr hlk hK hG z0 (by rw [z1, z2]) dX4_uncross_6
set_option maxRecDepth 100000 in
set_option maxHeartbeats 4000000 in
theorem c_X4_cut (l : Launch) (D : va_G) (κ : Nat → ClassId) (a : Nat → Nat) (sz : Nat) (p1 : Int32) (uh : HS) (ur : RS) (un : NS) (us : SS) (uo : OS) (r' : Int32) (uh' : HS) (uo' : OS) (hf : f_X4_cut p1 uh uo = some (r', uh', uo')) : Met l yX4_cut wsX4_cut ({ frames := 4, cells := 0, slots := 0, locals := 96 } : Room) (xPc D κ [.ref (a 25), .int p1] (WH κ a uh ++ (WR κ a ur ++ (WN κ a un ++ (WS κ a us ++ (WO κ a uo))))) sz) (xQi D κ r' (WH κ a uh' ++ (WR κ a ur ++ (WN κ a un ++ (WS κ a us ++ (WO κ a uo'))))) (va_A (WH κ a uh ++ (WR κ a ur ++ (WN κ a un ++ (WS κ a us ++ (WO κ a uo))))) sz)) 0 0 (va_A (WH κ a uh ++ (WR κ a ur ++ (WN κ a un ++ (WS κ a us ++ (WO κ a uo))))) sz) := by
  refine x_ofW (cc := cX4_cut) (maxL := 3) (ret := (some .int)) (Qf := fun A => xQi D κ r' (WH κ a uh' ++ (WR κ a ur ++ (WN κ a un ++ (WS κ a us ++ (WO κ a uo'))))) A) (by decide) rfl (Nat.le_of_ble_eq_true rfl) ?_
  intro p e s m below meth c hx hb hr hlk hml hown hts hK A hA H locs hG ls hl
  have hown : s.vm.findClass RX4 = some m.cls := hown
  have hl : lv_has ls 3 [(0, .ref (a 25)), (1, .int p1)] := hl
  have iX0 : ∀ w ∈ u_ws RX0 TX0 17, w ∈ wsX4_cut := fun _ h => List.mem_cons_of_mem _ (List.mem_append_right _ h)
  have iX4 : ∀ w ∈ u_ws RX4 TX4 8, w ∈ wsX4_cut := fun _ h => List.mem_cons_of_mem _ (List.mem_append_left _ (List.mem_append_right _ h))
  have k100 := hts (.fieldLink RX4 100 "SpineDesks$Hall" "deskOf" "[I") (List.mem_of_getElem? (i := 2) rfl)
  have k12 := hts (.fieldLink RX4 12 "SpineDesks" "hall" "LSpineDesks$Hall;") (List.mem_of_getElem? (i := 1) rfl)
  unfold f_X4_cut at hf
  refine lv_aload_n hx hb dX4_cut_0 rfl (lv_at hl 0 rfl) ?_
  refine x_get (C := RX4) (T := TX4) (N := 8) (ci := 4) hx hb hts iX4 hown hK hG 25 rfl rfl 0 (by decide) k12 (v := .ref (a 0)) rfl dX4_cut_1 ?_
  refine lv_iload_n hx hb dX4_cut_4 rfl (lv_at hl 1 rfl) ?_
  obtain ⟨r1, q2, hf⟩ := cl1_e hf
  refine x_callVi (pre := ([] : va_W)) (wc := WH κ a uh) (wc1 := WH κ a uh) (post := WR κ a ur ++ (WN κ a un ++ (WS κ a us ++ (WO κ a uo)))) (As := [.int p1]) (rest := []) (w1 := WH κ a uh ++ (WR κ a ur ++ (WN κ a un ++ (WS κ a us ++ (WO κ a uo))))) ⟨hx, hb, hml, hown, hts⟩ hK hG hA (by simp only [List.append_assoc, List.nil_append, List.append_nil]) (by simp only [List.append_assoc, List.nil_append, List.append_nil]) (c_X0_isThere l D κ a H.size p1 uh r1 q2) (cwV 1 hts gX4_cut_X0_isThere rfl rfl rfl (by decide +kernel) ⟨Nat.le_of_ble_eq_true rfl, Nat.le_of_ble_eq_true rfl⟩) 0 0 rfl rfl rfl rfl hl.1 rfl (Nat.le_of_ble_eq_true rfl) dX4_cut_5 ⟨Nat.zero_le _, Nat.zero_le _⟩ (fun H locs hG => ?_)
  refine lv_if_ne (tgt := 18) hx hb dX4_cut_8 (by decide) (fun c3 => ?_) (fun c3 => ?_)
  · replace hf := if_f c3 hf
    refine lv_aload_n hx hb dX4_cut_18 rfl (lv_at hl 0 rfl) ?_
    refine x_get (C := RX4) (T := TX4) (N := 8) (ci := 4) hx hb hts iX4 hown hK hG 25 rfl rfl 0 (by decide) k12 (v := .ref (a 0)) rfl dX4_cut_19 ?_
    refine x_get (C := RX0) (T := TX0) (N := 17) (ci := 0) hx hb hts iX0 hown hK hG 0 rfl rfl 8 (by decide) k100 (v := .ref (a 4)) rfl dX4_cut_22 ?_
    refine lv_iload_n hx hb dX4_cut_25 rfl (lv_at hl 1 rfl) ?_
    obtain ⟨v4, ev4, hin, hf⟩ := ck_e hf
    refine x_iald hx hb hK hG 4 rfl ev4 hin dX4_cut_26 ?_
    refine lv_istore_n (lv' := [(2, .int v4), (0, .ref (a 25)), (1, .int p1)]) hx hb dX4_cut_27 rfl hl (by decide) rfl (fun ls hl => ?_)
    refine lv_aload_n hx hb dX4_cut_28 rfl (lv_at hl 1 rfl) ?_
    refine x_get (C := RX4) (T := TX4) (N := 8) (ci := 4) hx hb hts iX4 hown hK hG 25 rfl rfl 0 (by decide) k12 (v := .ref (a 0)) rfl dX4_cut_29 ?_
    refine lv_iload_n hx hb dX4_cut_32 rfl (lv_at hl 2 rfl) ?_
    obtain ⟨uh5, q6, hf⟩ := cl1_e hf
    refine x_callVv (pre := ([] : va_W)) (wc := WH κ a uh) (wc1 := WH κ a uh5) (post := WR κ a ur ++ (WN κ a un ++ (WS κ a us ++ (WO κ a uo)))) (As := [.int p1]) (rest := []) (w1 := WH κ a uh5 ++ (WR κ a ur ++ (WN κ a un ++ (WS κ a us ++ (WO κ a uo))))) ⟨hx, hb, hml, hown, hts⟩ hK hG hA (by simp only [List.append_assoc, List.nil_append, List.append_nil]) (by simp only [List.append_assoc, List.nil_append, List.append_nil]) (c_X0_cutOut l D κ a H.size p1 uh uh5 q6) (cwV 1 hts gX4_cut_X0_cutOut rfl rfl rfl (by decide +kernel) ⟨Nat.le_of_ble_eq_true rfl, Nat.le_of_ble_eq_true rfl⟩) 0 0 rfl rfl rfl rfl hl.1 rfl (Nat.le_of_ble_eq_true rfl) dX4_cut_33 ⟨Nat.zero_le _, Nat.zero_le _⟩ (fun H locs hG => ?_)
    refine lv_aload_n hx hb dX4_cut_36 rfl (lv_at hl 1 rfl) ?_
    refine x_get (C := RX4) (T := TX4) (N := 8) (ci := 4) hx hb hts iX4 hown hK hG 25 rfl rfl 0 (by decide) k12 (v := .ref (a 0)) rfl dX4_cut_37 ?_
    obtain ⟨uh7, q8, hf⟩ := cl1_e hf
    refine x_callVv (pre := ([] : va_W)) (wc := WH κ a uh5) (wc1 := WH κ a uh7) (post := WR κ a ur ++ (WN κ a un ++ (WS κ a us ++ (WO κ a uo)))) (As := []) (rest := []) (w1 := WH κ a uh7 ++ (WR κ a ur ++ (WN κ a un ++ (WS κ a us ++ (WO κ a uo))))) ⟨hx, hb, hml, hown, hts⟩ hK hG hA (by simp only [List.append_assoc, List.nil_append, List.append_nil]) (by simp only [List.append_assoc, List.nil_append, List.append_nil]) (c_X0_sweep l D κ a H.size uh5 uh7 q8) (cwV 0 hts gX4_cut_X0_sweep rfl rfl rfl (by decide +kernel) ⟨Nat.le_of_ble_eq_true rfl, Nat.le_of_ble_eq_true rfl⟩) 0 0 rfl rfl rfl rfl hl.1 rfl (Nat.le_of_ble_eq_true rfl) dX4_cut_40 ⟨Nat.zero_le _, Nat.zero_le _⟩ (fun H locs hG => ?_)
    refine lv_aload_n hx hb dX4_cut_43 rfl (lv_at hl 1 rfl) ?_
    refine x_get (C := RX4) (T := TX4) (N := 8) (ci := 4) hx hb hts iX4 hown hK hG 25 rfl rfl 0 (by decide) k12 (v := .ref (a 0)) rfl dX4_cut_44 ?_
    refine lv_iload_n hx hb dX4_cut_47 rfl (lv_at hl 0 rfl) ?_
    obtain ⟨r9, q10, hf⟩ := cl1_e hf
    refine x_callVi (pre := ([] : va_W)) (wc := WH κ a uh7) (wc1 := WH κ a uh7) (post := WR κ a ur ++ (WN κ a un ++ (WS κ a us ++ (WO κ a uo)))) (As := [.int v4]) (rest := []) (w1 := WH κ a uh7 ++ (WR κ a ur ++ (WN κ a un ++ (WS κ a us ++ (WO κ a uo))))) ⟨hx, hb, hml, hown, hts⟩ hK hG hA (by simp only [List.append_assoc, List.nil_append, List.append_nil]) (by simp only [List.append_assoc, List.nil_append, List.append_nil]) (c_X0_allIn l D κ a H.size v4 uh7 r9 q10) (cwV 1 hts gX4_cut_X0_allIn rfl rfl rfl (by decide +kernel) ⟨Nat.le_of_ble_eq_true rfl, Nat.le_of_ble_eq_true rfl⟩) 0 0 rfl rfl rfl rfl hl.1 rfl (Nat.le_of_ble_eq_true rfl) dX4_cut_48 ⟨Nat.zero_le _, Nat.zero_le _⟩ (fun H locs hG => ?_)
    have hz := Option.some.inj hf
    have z0 := (Prod.mk.inj hz).1
    replace hz := (Prod.mk.inj hz).2
    have z1 := (Prod.mk.inj hz).1
    replace hz := (Prod.mk.inj hz).2
    have z2 := hz
    exact x_iret hx hb hr hlk hK hG z0 (by rw [z1, z2]) dX4_cut_51
  · replace hf := if_t c3 hf
    refine lv_aload_n hx hb dX4_cut_11 rfl (lv_at hl 0 rfl) ?_
    refine lv_bipush (v := (-2)) hx hb dX4_cut_12 (by decide) ?_
    obtain ⟨r11, uo12, q13, hf⟩ := cl2_e hf
    refine x_callVi (pre := ([] : va_W)) (wc := WH κ a uh ++ (WR κ a ur ++ (WN κ a un ++ (WS κ a us ++ (WO κ a uo))))) (wc1 := WH κ a uh ++ (WR κ a ur ++ (WN κ a un ++ (WS κ a us ++ (WO κ a uo12))))) (post := ([] : va_W)) (As := [.int ((-2))]) (rest := []) (w1 := WH κ a uh ++ (WR κ a ur ++ (WN κ a un ++ (WS κ a us ++ (WO κ a uo12))))) ⟨hx, hb, hml, hown, hts⟩ hK hG hA (by simp only [List.append_assoc, List.nil_append, List.append_nil]) (by simp only [List.append_assoc, List.nil_append, List.append_nil]) (c_X4_refuse l D κ a H.size ((-2)) uh ur un us uo r11 uo12 q13) (cwV 1 hts gX4_cut_X4_refuse rfl rfl rfl (by decide +kernel) ⟨Nat.le_of_ble_eq_true rfl, Nat.le_of_ble_eq_true rfl⟩) 25 4 rfl rfl rfl rfl hl.1 rfl (Nat.le_of_ble_eq_true rfl) dX4_cut_14 ⟨Nat.zero_le _, Nat.zero_le _⟩ (fun H locs hG => ?_)
    have hz := Option.some.inj hf
    have z0 := (Prod.mk.inj hz).1
    replace hz := (Prod.mk.inj hz).2
    have z1 := (Prod.mk.inj hz).1
    replace hz := (Prod.mk.inj hz).2
    have z2 := hz
    exact x_iret hx hb hr hlk hK hG z0 (by rw [z1, z2]) dX4_cut_17
set_option maxRecDepth 100000 in
set_option maxHeartbeats 4000000 in
theorem c_X4_rekey (l : Launch) (D : va_G) (κ : Nat → ClassId) (a : Nat → Nat) (sz : Nat) (p1 : Int32) (p2 : Int32) (uh : HS) (ur : RS) (un : NS) (us : SS) (uo : OS) (r' : Int32) (uh' : HS) (uo' : OS) (hf : f_X4_rekey p1 p2 uh uo = some (r', uh', uo')) : Met l yX4_rekey wsX4_rekey ({ frames := 4, cells := 0, slots := 0, locals := 96 } : Room) (xPc D κ [.ref (a 25), .int p1, .int p2] (WH κ a uh ++ (WR κ a ur ++ (WN κ a un ++ (WS κ a us ++ (WO κ a uo))))) sz) (xQi D κ r' (WH κ a uh' ++ (WR κ a ur ++ (WN κ a un ++ (WS κ a us ++ (WO κ a uo'))))) (va_A (WH κ a uh ++ (WR κ a ur ++ (WN κ a un ++ (WS κ a us ++ (WO κ a uo))))) sz)) 0 0 (va_A (WH κ a uh ++ (WR κ a ur ++ (WN κ a un ++ (WS κ a us ++ (WO κ a uo))))) sz) := by
  refine x_ofW (cc := cX4_rekey) (maxL := 4) (ret := (some .int)) (Qf := fun A => xQi D κ r' (WH κ a uh' ++ (WR κ a ur ++ (WN κ a un ++ (WS κ a us ++ (WO κ a uo'))))) A) (by decide) rfl (Nat.le_of_ble_eq_true rfl) ?_
  intro p e s m below meth c hx hb hr hlk hml hown hts hK A hA H locs hG ls hl
  have hown : s.vm.findClass RX4 = some m.cls := hown
  have hl : lv_has ls 4 [(0, .ref (a 25)), (1, .int p1), (2, .int p2)] := hl
  have iX0 : ∀ w ∈ u_ws RX0 TX0 17, w ∈ wsX4_rekey := fun _ h => List.mem_cons_of_mem _ (List.mem_append_right _ h)
  have iX4 : ∀ w ∈ u_ws RX4 TX4 8, w ∈ wsX4_rekey := fun _ h => List.mem_cons_of_mem _ (List.mem_append_left _ (List.mem_append_right _ h))
  have k100 := hts (.fieldLink RX4 100 "SpineDesks$Hall" "deskOf" "[I") (List.mem_of_getElem? (i := 3) rfl)
  have k110 := hts (.fieldLink RX4 110 "SpineDesks$Hall" "keyOf" "[J") (List.mem_of_getElem? (i := 2) rfl)
  have k12 := hts (.fieldLink RX4 12 "SpineDesks" "hall" "LSpineDesks$Hall;") (List.mem_of_getElem? (i := 1) rfl)
  unfold f_X4_rekey at hf
  refine lv_iload_n hx hb dX4_rekey_0 rfl (lv_at hl 2 rfl) ?_
  obtain ⟨r1, q2, hf⟩ := cl1_e hf
  refine x_callSi (pre := ([] : va_W)) (wc := ([] : va_W)) (wc1 := ([] : va_W)) (post := WH κ a uh ++ (WR κ a ur ++ (WN κ a un ++ (WS κ a us ++ (WO κ a uo))))) (As := [.int p2]) (rest := []) (w1 := WH κ a uh ++ (WR κ a ur ++ (WN κ a un ++ (WS κ a us ++ (WO κ a uo))))) ⟨hx, hb, hml, hown, hts⟩ hK hG hA (by simp only [List.append_assoc, List.nil_append, List.append_nil]) (by simp only [List.append_assoc, List.nil_append, List.append_nil]) (c_X4_isKey l D κ a H.size p2 r1 q2) (va_cwS 1 hts gX4_rekey_X4_isKey rfl rfl rfl (by decide +kernel) ⟨Nat.le_of_ble_eq_true rfl, Nat.le_of_ble_eq_true rfl⟩) rfl hl.1 rfl (Nat.le_of_ble_eq_true rfl) dX4_rekey_1 ⟨Nat.zero_le _, Nat.zero_le _⟩ (fun H locs hG => ?_)
  refine lv_if_ne (tgt := 13) hx hb dX4_rekey_4 (by decide) (fun c3 => ?_) (fun c3 => ?_)
  · replace hf := if_f c3 hf
    refine lv_aload_n hx hb dX4_rekey_13 rfl (lv_at hl 0 rfl) ?_
    refine x_get (C := RX4) (T := TX4) (N := 8) (ci := 4) hx hb hts iX4 hown hK hG 25 rfl rfl 0 (by decide) k12 (v := .ref (a 0)) rfl dX4_rekey_14 ?_
    refine lv_iload_n hx hb dX4_rekey_17 rfl (lv_at hl 1 rfl) ?_
    obtain ⟨r4, q5, hf⟩ := cl1_e hf
    refine x_callVi (pre := ([] : va_W)) (wc := WH κ a uh) (wc1 := WH κ a uh) (post := WR κ a ur ++ (WN κ a un ++ (WS κ a us ++ (WO κ a uo)))) (As := [.int p1]) (rest := []) (w1 := WH κ a uh ++ (WR κ a ur ++ (WN κ a un ++ (WS κ a us ++ (WO κ a uo))))) ⟨hx, hb, hml, hown, hts⟩ hK hG hA (by simp only [List.append_assoc, List.nil_append, List.append_nil]) (by simp only [List.append_assoc, List.nil_append, List.append_nil]) (c_X0_isThere l D κ a H.size p1 uh r4 q5) (cwV 1 hts gX4_rekey_X0_isThere rfl rfl rfl (by decide +kernel) ⟨Nat.le_of_ble_eq_true rfl, Nat.le_of_ble_eq_true rfl⟩) 0 0 rfl rfl rfl rfl hl.1 rfl (Nat.le_of_ble_eq_true rfl) dX4_rekey_18 ⟨Nat.zero_le _, Nat.zero_le _⟩ (fun H locs hG => ?_)
    refine lv_if_ne (tgt := 31) hx hb dX4_rekey_21 (by decide) (fun c6 => ?_) (fun c6 => ?_)
    · replace hf := if_f c6 hf
      refine lv_aload_n hx hb dX4_rekey_31 rfl (lv_at hl 0 rfl) ?_
      refine x_get (C := RX4) (T := TX4) (N := 8) (ci := 4) hx hb hts iX4 hown hK hG 25 rfl rfl 0 (by decide) k12 (v := .ref (a 0)) rfl dX4_rekey_32 ?_
      refine x_get (C := RX0) (T := TX0) (N := 17) (ci := 0) hx hb hts iX0 hown hK hG 0 rfl rfl 6 (by decide) k110 (v := .ref (a 2)) rfl dX4_rekey_35 ?_
      refine lv_iload_n hx hb dX4_rekey_38 rfl (lv_at hl 1 rfl) ?_
      obtain ⟨v7, ev7, hin, hf⟩ := ck_e hf
      refine x_lald hx hb hK hG 2 rfl ev7 hin dX4_rekey_39 ?_
      refine lv_iload_n hx hb dX4_rekey_40 rfl (lv_at hl 2 rfl) ?_
      refine lv_i2l hx hb dX4_rekey_41 rfl ?_
      refine W.lcmp hx hb dX4_rekey_42 ?_
      refine lv_if_ne (tgt := 53) hx hb dX4_rekey_43 (by decide) (fun c8 => ?_) (fun c8 => ?_)
      · rw [lg_cmp_eq] at c8
        replace hf := if_f c8 hf
        refine lv_aload_n hx hb dX4_rekey_53 rfl (lv_at hl 0 rfl) ?_
        refine x_get (C := RX4) (T := TX4) (N := 8) (ci := 4) hx hb hts iX4 hown hK hG 25 rfl rfl 0 (by decide) k12 (v := .ref (a 0)) rfl dX4_rekey_54 ?_
        refine x_get (C := RX0) (T := TX0) (N := 17) (ci := 0) hx hb hts iX0 hown hK hG 0 rfl rfl 8 (by decide) k100 (v := .ref (a 4)) rfl dX4_rekey_57 ?_
        refine lv_iload_n hx hb dX4_rekey_60 rfl (lv_at hl 1 rfl) ?_
        obtain ⟨v9, ev9, hin, hf⟩ := ck_e hf
        refine x_iald hx hb hK hG 4 rfl ev9 hin dX4_rekey_61 ?_
        refine lv_istore_n (lv' := [(3, .int v9), (0, .ref (a 25)), (1, .int p1), (2, .int p2)]) hx hb dX4_rekey_62 rfl hl (by decide) rfl (fun ls hl => ?_)
        refine lv_aload_n hx hb dX4_rekey_63 rfl (lv_at hl 1 rfl) ?_
        refine x_get (C := RX4) (T := TX4) (N := 8) (ci := 4) hx hb hts iX4 hown hK hG 25 rfl rfl 0 (by decide) k12 (v := .ref (a 0)) rfl dX4_rekey_64 ?_
        refine lv_iload_n hx hb dX4_rekey_67 rfl (lv_at hl 2 rfl) ?_
        obtain ⟨uh10, q11, hf⟩ := cl1_e hf
        refine x_callVv (pre := ([] : va_W)) (wc := WH κ a uh) (wc1 := WH κ a uh10) (post := WR κ a ur ++ (WN κ a un ++ (WS κ a us ++ (WO κ a uo)))) (As := [.int p1]) (rest := []) (w1 := WH κ a uh10 ++ (WR κ a ur ++ (WN κ a un ++ (WS κ a us ++ (WO κ a uo))))) ⟨hx, hb, hml, hown, hts⟩ hK hG hA (by simp only [List.append_assoc, List.nil_append, List.append_nil]) (by simp only [List.append_assoc, List.nil_append, List.append_nil]) (c_X0_cutOut l D κ a H.size p1 uh uh10 q11) (cwV 1 hts gX4_rekey_X0_cutOut rfl rfl rfl (by decide +kernel) ⟨Nat.le_of_ble_eq_true rfl, Nat.le_of_ble_eq_true rfl⟩) 0 0 rfl rfl rfl rfl hl.1 rfl (Nat.le_of_ble_eq_true rfl) dX4_rekey_68 ⟨Nat.zero_le _, Nat.zero_le _⟩ (fun H locs hG => ?_)
        refine lv_aload_n hx hb dX4_rekey_71 rfl (lv_at hl 1 rfl) ?_
        refine x_get (C := RX4) (T := TX4) (N := 8) (ci := 4) hx hb hts iX4 hown hK hG 25 rfl rfl 0 (by decide) k12 (v := .ref (a 0)) rfl dX4_rekey_72 ?_
        refine x_get (C := RX0) (T := TX0) (N := 17) (ci := 0) hx hb hts iX0 hown hK hG 0 rfl rfl 6 (by decide) k110 (v := .ref (a 2)) rfl dX4_rekey_75 ?_
        refine lv_iload_n hx hb dX4_rekey_78 rfl (lv_at hl 2 rfl) ?_
        refine lv_iload_n hx hb dX4_rekey_79 rfl (lv_at hl 3 rfl) ?_
        refine lv_i2l hx hb dX4_rekey_80 rfl ?_
        obtain ⟨uh12, euh12, hin, hf⟩ := ck_e hf
        refine x_last hx hb hK hG 2 rfl (w1 := WH κ a uh12 ++ (WR κ a ur ++ (WN κ a un ++ (WS κ a us ++ (WO κ a uo))))) (by rw [euh12]; rfl) hin dX4_rekey_81 (fun H locs hG => ?_)
        refine lv_aload_n hx hb dX4_rekey_82 rfl (lv_at hl 1 rfl) ?_
        refine x_get (C := RX4) (T := TX4) (N := 8) (ci := 4) hx hb hts iX4 hown hK hG 25 rfl rfl 0 (by decide) k12 (v := .ref (a 0)) rfl dX4_rekey_83 ?_
        refine lv_iload_n hx hb dX4_rekey_86 rfl (lv_at hl 2 rfl) ?_
        refine lv_iload_n hx hb dX4_rekey_87 rfl (lv_at hl 0 rfl) ?_
        obtain ⟨uh13, q14, hf⟩ := cl1_e hf
        refine x_callVv (pre := ([] : va_W)) (wc := WH κ a uh12) (wc1 := WH κ a uh13) (post := WR κ a ur ++ (WN κ a un ++ (WS κ a us ++ (WO κ a uo)))) (As := [.int p1, .int v9]) (rest := []) (w1 := WH κ a uh13 ++ (WR κ a ur ++ (WN κ a un ++ (WS κ a us ++ (WO κ a uo))))) ⟨hx, hb, hml, hown, hts⟩ hK hG hA (by simp only [List.append_assoc, List.nil_append, List.append_nil]) (by simp only [List.append_assoc, List.nil_append, List.append_nil]) (c_X0_place l D κ a H.size p1 v9 uh12 uh13 q14) (cwV 2 hts gX4_rekey_X0_place rfl rfl rfl (by decide +kernel) ⟨Nat.le_of_ble_eq_true rfl, Nat.le_of_ble_eq_true rfl⟩) 0 0 rfl rfl rfl rfl hl.1 rfl (Nat.le_of_ble_eq_true rfl) dX4_rekey_88 ⟨Nat.zero_le _, Nat.zero_le _⟩ (fun H locs hG => ?_)
        refine lv_aload_n hx hb dX4_rekey_91 rfl (lv_at hl 1 rfl) ?_
        refine x_get (C := RX4) (T := TX4) (N := 8) (ci := 4) hx hb hts iX4 hown hK hG 25 rfl rfl 0 (by decide) k12 (v := .ref (a 0)) rfl dX4_rekey_92 ?_
        obtain ⟨uh15, q16, hf⟩ := cl1_e hf
        refine x_callVv (pre := ([] : va_W)) (wc := WH κ a uh13) (wc1 := WH κ a uh15) (post := WR κ a ur ++ (WN κ a un ++ (WS κ a us ++ (WO κ a uo)))) (As := []) (rest := []) (w1 := WH κ a uh15 ++ (WR κ a ur ++ (WN κ a un ++ (WS κ a us ++ (WO κ a uo))))) ⟨hx, hb, hml, hown, hts⟩ hK hG hA (by simp only [List.append_assoc, List.nil_append, List.append_nil]) (by simp only [List.append_assoc, List.nil_append, List.append_nil]) (c_X0_sweep l D κ a H.size uh13 uh15 q16) (cwV 0 hts gX4_rekey_X0_sweep rfl rfl rfl (by decide +kernel) ⟨Nat.le_of_ble_eq_true rfl, Nat.le_of_ble_eq_true rfl⟩) 0 0 rfl rfl rfl rfl hl.1 rfl (Nat.le_of_ble_eq_true rfl) dX4_rekey_95 ⟨Nat.zero_le _, Nat.zero_le _⟩ (fun H locs hG => ?_)
        refine lv_aload_n hx hb dX4_rekey_98 rfl (lv_at hl 1 rfl) ?_
        refine x_get (C := RX4) (T := TX4) (N := 8) (ci := 4) hx hb hts iX4 hown hK hG 25 rfl rfl 0 (by decide) k12 (v := .ref (a 0)) rfl dX4_rekey_99 ?_
        refine lv_iload_n hx hb dX4_rekey_102 rfl (lv_at hl 0 rfl) ?_
        refine lv_iload_n hx hb dX4_rekey_103 rfl (lv_at hl 2 rfl) ?_
        obtain ⟨r17, q18, hf⟩ := cl1_e hf
        refine x_callVi (pre := ([] : va_W)) (wc := WH κ a uh15) (wc1 := WH κ a uh15) (post := WR κ a ur ++ (WN κ a un ++ (WS κ a us ++ (WO κ a uo)))) (As := [.int v9, .int p1]) (rest := []) (w1 := WH κ a uh15 ++ (WR κ a ur ++ (WN κ a un ++ (WS κ a us ++ (WO κ a uo))))) ⟨hx, hb, hml, hown, hts⟩ hK hG hA (by simp only [List.append_assoc, List.nil_append, List.append_nil]) (by simp only [List.append_assoc, List.nil_append, List.append_nil]) (c_X0_plainLess l D κ a H.size v9 p1 uh15 r17 q18) (cwV 2 hts gX4_rekey_X0_plainLess rfl rfl rfl (by decide +kernel) ⟨Nat.le_of_ble_eq_true rfl, Nat.le_of_ble_eq_true rfl⟩) 0 0 rfl rfl rfl rfl hl.1 rfl (Nat.le_of_ble_eq_true rfl) dX4_rekey_104 ⟨Nat.zero_le _, Nat.zero_le _⟩ (fun H locs hG => ?_)
        have hz := Option.some.inj hf
        have z0 := (Prod.mk.inj hz).1
        replace hz := (Prod.mk.inj hz).2
        have z1 := (Prod.mk.inj hz).1
        replace hz := (Prod.mk.inj hz).2
        have z2 := hz
        exact x_iret hx hb hr hlk hK hG z0 (by rw [z1, z2]) dX4_rekey_107
      · rw [lg_cmp_eq] at c8
        replace hf := if_t c8 hf
        refine lv_aload_n hx hb dX4_rekey_46 rfl (lv_at hl 0 rfl) ?_
        refine lv_bipush (v := (-4)) hx hb dX4_rekey_47 (by decide) ?_
        obtain ⟨r19, uo20, q21, hf⟩ := cl2_e hf
        refine x_callVi (pre := ([] : va_W)) (wc := WH κ a uh ++ (WR κ a ur ++ (WN κ a un ++ (WS κ a us ++ (WO κ a uo))))) (wc1 := WH κ a uh ++ (WR κ a ur ++ (WN κ a un ++ (WS κ a us ++ (WO κ a uo20))))) (post := ([] : va_W)) (As := [.int ((-4))]) (rest := []) (w1 := WH κ a uh ++ (WR κ a ur ++ (WN κ a un ++ (WS κ a us ++ (WO κ a uo20))))) ⟨hx, hb, hml, hown, hts⟩ hK hG hA (by simp only [List.append_assoc, List.nil_append, List.append_nil]) (by simp only [List.append_assoc, List.nil_append, List.append_nil]) (c_X4_refuse l D κ a H.size ((-4)) uh ur un us uo r19 uo20 q21) (cwV 1 hts gX4_rekey_X4_refuse rfl rfl rfl (by decide +kernel) ⟨Nat.le_of_ble_eq_true rfl, Nat.le_of_ble_eq_true rfl⟩) 25 4 rfl rfl rfl rfl hl.1 rfl (Nat.le_of_ble_eq_true rfl) dX4_rekey_49 ⟨Nat.zero_le _, Nat.zero_le _⟩ (fun H locs hG => ?_)
        have hz := Option.some.inj hf
        have z0 := (Prod.mk.inj hz).1
        replace hz := (Prod.mk.inj hz).2
        have z1 := (Prod.mk.inj hz).1
        replace hz := (Prod.mk.inj hz).2
        have z2 := hz
        exact x_iret hx hb hr hlk hK hG z0 (by rw [z1, z2]) dX4_rekey_52
    · replace hf := if_t c6 hf
      refine lv_aload_n hx hb dX4_rekey_24 rfl (lv_at hl 0 rfl) ?_
      refine lv_bipush (v := (-2)) hx hb dX4_rekey_25 (by decide) ?_
      obtain ⟨r22, uo23, q24, hf⟩ := cl2_e hf
      refine x_callVi (pre := ([] : va_W)) (wc := WH κ a uh ++ (WR κ a ur ++ (WN κ a un ++ (WS κ a us ++ (WO κ a uo))))) (wc1 := WH κ a uh ++ (WR κ a ur ++ (WN κ a un ++ (WS κ a us ++ (WO κ a uo23))))) (post := ([] : va_W)) (As := [.int ((-2))]) (rest := []) (w1 := WH κ a uh ++ (WR κ a ur ++ (WN κ a un ++ (WS κ a us ++ (WO κ a uo23))))) ⟨hx, hb, hml, hown, hts⟩ hK hG hA (by simp only [List.append_assoc, List.nil_append, List.append_nil]) (by simp only [List.append_assoc, List.nil_append, List.append_nil]) (c_X4_refuse l D κ a H.size ((-2)) uh ur un us uo r22 uo23 q24) (cwV 1 hts gX4_rekey_X4_refuse rfl rfl rfl (by decide +kernel) ⟨Nat.le_of_ble_eq_true rfl, Nat.le_of_ble_eq_true rfl⟩) 25 4 rfl rfl rfl rfl hl.1 rfl (Nat.le_of_ble_eq_true rfl) dX4_rekey_27 ⟨Nat.zero_le _, Nat.zero_le _⟩ (fun H locs hG => ?_)
      have hz := Option.some.inj hf
      have z0 := (Prod.mk.inj hz).1
      replace hz := (Prod.mk.inj hz).2
      have z1 := (Prod.mk.inj hz).1
      replace hz := (Prod.mk.inj hz).2
      have z2 := hz
      exact x_iret hx hb hr hlk hK hG z0 (by rw [z1, z2]) dX4_rekey_30
  · replace hf := if_t c3 hf
    refine lv_aload_n hx hb dX4_rekey_7 rfl (lv_at hl 0 rfl) ?_
    refine lv_iconst (v := (-1)) hx hb dX4_rekey_8 (by decide) ?_
    obtain ⟨r25, uo26, q27, hf⟩ := cl2_e hf
    refine x_callVi (pre := ([] : va_W)) (wc := WH κ a uh ++ (WR κ a ur ++ (WN κ a un ++ (WS κ a us ++ (WO κ a uo))))) (wc1 := WH κ a uh ++ (WR κ a ur ++ (WN κ a un ++ (WS κ a us ++ (WO κ a uo26))))) (post := ([] : va_W)) (As := [.int ((-1))]) (rest := []) (w1 := WH κ a uh ++ (WR κ a ur ++ (WN κ a un ++ (WS κ a us ++ (WO κ a uo26))))) ⟨hx, hb, hml, hown, hts⟩ hK hG hA (by simp only [List.append_assoc, List.nil_append, List.append_nil]) (by simp only [List.append_assoc, List.nil_append, List.append_nil]) (c_X4_refuse l D κ a H.size ((-1)) uh ur un us uo r25 uo26 q27) (cwV 1 hts gX4_rekey_X4_refuse rfl rfl rfl (by decide +kernel) ⟨Nat.le_of_ble_eq_true rfl, Nat.le_of_ble_eq_true rfl⟩) 25 4 rfl rfl rfl rfl hl.1 rfl (Nat.le_of_ble_eq_true rfl) dX4_rekey_9 ⟨Nat.zero_le _, Nat.zero_le _⟩ (fun H locs hG => ?_)
    have hz := Option.some.inj hf
    have z0 := (Prod.mk.inj hz).1
    replace hz := (Prod.mk.inj hz).2
    have z1 := (Prod.mk.inj hz).1
    replace hz := (Prod.mk.inj hz).2
    have z2 := hz
    exact x_iret hx hb hr hlk hK hG z0 (by rw [z1, z2]) dX4_rekey_12
set_option maxRecDepth 100000 in
set_option maxHeartbeats 4000000 in
theorem c_X4_raise (l : Launch) (D : va_G) (κ : Nat → ClassId) (a : Nat → Nat) (sz : Nat) (p1 : Int32) (p2 : Int32) (uh : HS) (ur : RS) (un : NS) (us : SS) (uo : OS) (r' : Int32) (uh' : HS) (uo' : OS) (hf : f_X4_raise p1 p2 uh uo = some (r', uh', uo')) : Met l yX4_raise wsX4_raise ({ frames := 4, cells := 0, slots := 0, locals := 96 } : Room) (xPc D κ [.ref (a 25), .int p1, .int p2] (WH κ a uh ++ (WR κ a ur ++ (WN κ a un ++ (WS κ a us ++ (WO κ a uo))))) sz) (xQi D κ r' (WH κ a uh' ++ (WR κ a ur ++ (WN κ a un ++ (WS κ a us ++ (WO κ a uo'))))) (va_A (WH κ a uh ++ (WR κ a ur ++ (WN κ a un ++ (WS κ a us ++ (WO κ a uo))))) sz)) 0 0 (va_A (WH κ a uh ++ (WR κ a ur ++ (WN κ a un ++ (WS κ a us ++ (WO κ a uo))))) sz) := by
  refine x_ofW (cc := cX4_raise) (maxL := 3) (ret := (some .int)) (Qf := fun A => xQi D κ r' (WH κ a uh' ++ (WR κ a ur ++ (WN κ a un ++ (WS κ a us ++ (WO κ a uo'))))) A) (by decide) rfl (Nat.le_of_ble_eq_true rfl) ?_
  intro p e s m below meth c hx hb hr hlk hml hown hts hK A hA H locs hG ls hl
  have hown : s.vm.findClass RX4 = some m.cls := hown
  have hl : lv_has ls 3 [(0, .ref (a 25)), (1, .int p1), (2, .int p2)] := hl
  have iX0 : ∀ w ∈ u_ws RX0 TX0 17, w ∈ wsX4_raise := fun _ h => List.mem_cons_of_mem _ (List.mem_append_right _ h)
  have iX4 : ∀ w ∈ u_ws RX4 TX4 8, w ∈ wsX4_raise := fun _ h => List.mem_cons_of_mem _ (List.mem_append_left _ (List.mem_append_right _ h))
  have k117 := hts (.constant RX4 117 (-1000000)) (List.mem_of_getElem? (i := 1) rfl)
  have k118 := hts (.constant RX4 118 (1000000)) (List.mem_of_getElem? (i := 2) rfl)
  have k12 := hts (.fieldLink RX4 12 "SpineDesks" "hall" "LSpineDesks$Hall;") (List.mem_of_getElem? (i := 3) rfl)
  have k84 := hts (.fieldLink RX4 84 "SpineDesks$Hall" "root" "[I") (List.mem_of_getElem? (i := 4) rfl)
  have L19 : ∀ (uh : HS) (uo : OS), f_X4_raise_19 uh uo = some (r', uh', uo') → ∀ (H : Heap) (locs : List Loc) (ls : Array Slot), xG D A s.heap (WH κ a uh ++ (WR κ a ur ++ (WN κ a un ++ (WS κ a us ++ (WO κ a uo))))) H locs → lv_has ls 3 [(0, .ref (a 25))] → W p l e ({ frames := 4, cells := 0, slots := 0, locals := 96 } : Room) s m (([.ref (a 25), .int p1, .int p2] : List Value).toArray) below meth c H locs 0 0 (MQ below (xQi D κ r' (WH κ a uh' ++ (WR κ a ur ++ (WN κ a un ++ (WS κ a us ++ (WO κ a uo'))))) A) (([.ref (a 25), .int p1, .int p2] : List Value).toArray) s 0 0 A) (F0 m 19 ls []) := by
    intro  uh uo hf H locs ls hG hl
    unfold f_X4_raise_19 at hf
    refine lv_aload_n hx hb dX4_raise_19 rfl (lv_at hl 0 rfl) ?_
    refine lv_iconst (v := (-1)) hx hb dX4_raise_20 (by decide) ?_
    obtain ⟨r1, uo2, q3, hf⟩ := cl2_e hf
    refine x_callVi (pre := ([] : va_W)) (wc := WH κ a uh ++ (WR κ a ur ++ (WN κ a un ++ (WS κ a us ++ (WO κ a uo))))) (wc1 := WH κ a uh ++ (WR κ a ur ++ (WN κ a un ++ (WS κ a us ++ (WO κ a uo2))))) (post := ([] : va_W)) (As := [.int ((-1))]) (rest := []) (w1 := WH κ a uh ++ (WR κ a ur ++ (WN κ a un ++ (WS κ a us ++ (WO κ a uo2))))) ⟨hx, hb, hml, hown, hts⟩ hK hG hA (by simp only [List.append_assoc, List.nil_append, List.append_nil]) (by simp only [List.append_assoc, List.nil_append, List.append_nil]) (c_X4_refuse l D κ a H.size ((-1)) uh ur un us uo r1 uo2 q3) (cwV 1 hts gX4_raise_X4_refuse rfl rfl rfl (by decide +kernel) ⟨Nat.le_of_ble_eq_true rfl, Nat.le_of_ble_eq_true rfl⟩) 25 4 rfl rfl rfl rfl hl.1 rfl (Nat.le_of_ble_eq_true rfl) dX4_raise_21 ⟨Nat.zero_le _, Nat.zero_le _⟩ (fun H locs hG => ?_)
    have hz := Option.some.inj hf
    have z0 := (Prod.mk.inj hz).1
    replace hz := (Prod.mk.inj hz).2
    have z1 := (Prod.mk.inj hz).1
    replace hz := (Prod.mk.inj hz).2
    have z2 := hz
    exact x_iret hx hb hr hlk hK hG z0 (by rw [z1, z2]) dX4_raise_24
  unfold f_X4_raise at hf
  refine lv_iload_n hx hb dX4_raise_0 rfl (lv_at hl 1 rfl) ?_
  obtain ⟨r4, q5, hf⟩ := cl1_e hf
  refine x_callSi (pre := ([] : va_W)) (wc := ([] : va_W)) (wc1 := ([] : va_W)) (post := WH κ a uh ++ (WR κ a ur ++ (WN κ a un ++ (WS κ a us ++ (WO κ a uo))))) (As := [.int p1]) (rest := []) (w1 := WH κ a uh ++ (WR κ a ur ++ (WN κ a un ++ (WS κ a us ++ (WO κ a uo))))) ⟨hx, hb, hml, hown, hts⟩ hK hG hA (by simp only [List.append_assoc, List.nil_append, List.append_nil]) (by simp only [List.append_assoc, List.nil_append, List.append_nil]) (c_X4_isDesk l D κ a H.size p1 r4 q5) (va_cwS 1 hts gX4_raise_X4_isDesk rfl rfl rfl (by decide +kernel) ⟨Nat.le_of_ble_eq_true rfl, Nat.le_of_ble_eq_true rfl⟩) rfl hl.1 rfl (Nat.le_of_ble_eq_true rfl) dX4_raise_1 ⟨Nat.zero_le _, Nat.zero_le _⟩ (fun H locs hG => ?_)
  refine lv_if_eq (tgt := 19) hx hb dX4_raise_4 (by decide) (fun c6 => ?_) (fun c6 => ?_)
  · replace hf := if_t c6 hf
    exact L19   uh uo hf H locs ls hG (lv_sub hl [0] rfl)
  · replace hf := if_f c6 hf
    refine lv_iload_n hx hb dX4_raise_7 rfl (lv_at hl 2 rfl) ?_
    refine lv_ldc (v := (-1000000)) hx hb hown k117 dX4_raise_8 ?_
    refine lv_icmp_lt (tgt := 19) hx hb dX4_raise_10 (by decide) (fun c7 => ?_) (fun c7 => ?_)
    · replace hf := if_t c7 hf
      exact L19   uh uo hf H locs ls hG (lv_sub hl [0] rfl)
    · replace hf := if_f c7 hf
      refine lv_iload_n hx hb dX4_raise_13 rfl (lv_at hl 2 rfl) ?_
      refine lv_ldc (v := 1000000) hx hb hown k118 dX4_raise_14 ?_
      refine lv_icmp_le (tgt := 25) hx hb dX4_raise_16 (by decide) (fun c8 => ?_) (fun c8 => ?_)
      · replace hf := if_t c8 hf
        refine lv_aload_n hx hb dX4_raise_25 rfl (lv_at hl 0 rfl) ?_
        refine x_get (C := RX4) (T := TX4) (N := 8) (ci := 4) hx hb hts iX4 hown hK hG 25 rfl rfl 0 (by decide) k12 (v := .ref (a 0)) rfl dX4_raise_26 ?_
        refine x_get (C := RX0) (T := TX0) (N := 17) (ci := 0) hx hb hts iX0 hown hK hG 0 rfl rfl 5 (by decide) k84 (v := .ref (a 1)) rfl dX4_raise_29 ?_
        refine lv_iload_n hx hb dX4_raise_32 rfl (lv_at hl 1 rfl) ?_
        obtain ⟨v9, ev9, hin, hf⟩ := ck_e hf
        refine x_iald hx hb hK hG 1 rfl ev9 hin dX4_raise_33 ?_
        refine lv_iconst (v := (-1)) hx hb dX4_raise_34 (by decide) ?_
        refine lv_icmp_ne (tgt := 45) hx hb dX4_raise_35 (by decide) (fun c10 => ?_) (fun c10 => ?_)
        · replace hf := if_f c10 hf
          refine lv_aload_n hx hb dX4_raise_45 rfl (lv_at hl 0 rfl) ?_
          refine x_get (C := RX4) (T := TX4) (N := 8) (ci := 4) hx hb hts iX4 hown hK hG 25 rfl rfl 0 (by decide) k12 (v := .ref (a 0)) rfl dX4_raise_46 ?_
          refine lv_iload_n hx hb dX4_raise_49 rfl (lv_at hl 1 rfl) ?_
          refine lv_iload_n hx hb dX4_raise_50 rfl (lv_at hl 2 rfl) ?_
          obtain ⟨uh11, q12, hf⟩ := cl1_e hf
          refine x_callVv (pre := ([] : va_W)) (wc := WH κ a uh) (wc1 := WH κ a uh11) (post := WR κ a ur ++ (WN κ a un ++ (WS κ a us ++ (WO κ a uo)))) (As := [.int p1, .int p2]) (rest := []) (w1 := WH κ a uh11 ++ (WR κ a ur ++ (WN κ a un ++ (WS κ a us ++ (WO κ a uo))))) ⟨hx, hb, hml, hown, hts⟩ hK hG hA (by simp only [List.append_assoc, List.nil_append, List.append_nil]) (by simp only [List.append_assoc, List.nil_append, List.append_nil]) (c_X0_raiseAll l D κ a H.size p1 p2 uh uh11 q12) (cwV 2 hts gX4_raise_X0_raiseAll rfl rfl rfl (by decide +kernel) ⟨Nat.le_of_ble_eq_true rfl, Nat.le_of_ble_eq_true rfl⟩) 0 0 rfl rfl rfl rfl hl.1 rfl (Nat.le_of_ble_eq_true rfl) dX4_raise_51 ⟨Nat.zero_le _, Nat.zero_le _⟩ (fun H locs hG => ?_)
          refine lv_aload_n hx hb dX4_raise_54 rfl (lv_at hl 0 rfl) ?_
          refine x_get (C := RX4) (T := TX4) (N := 8) (ci := 4) hx hb hts iX4 hown hK hG 25 rfl rfl 0 (by decide) k12 (v := .ref (a 0)) rfl dX4_raise_55 ?_
          obtain ⟨uh13, q14, hf⟩ := cl1_e hf
          refine x_callVv (pre := ([] : va_W)) (wc := WH κ a uh11) (wc1 := WH κ a uh13) (post := WR κ a ur ++ (WN κ a un ++ (WS κ a us ++ (WO κ a uo)))) (As := []) (rest := []) (w1 := WH κ a uh13 ++ (WR κ a ur ++ (WN κ a un ++ (WS κ a us ++ (WO κ a uo))))) ⟨hx, hb, hml, hown, hts⟩ hK hG hA (by simp only [List.append_assoc, List.nil_append, List.append_nil]) (by simp only [List.append_assoc, List.nil_append, List.append_nil]) (c_X0_sweep l D κ a H.size uh11 uh13 q14) (cwV 0 hts gX4_raise_X0_sweep rfl rfl rfl (by decide +kernel) ⟨Nat.le_of_ble_eq_true rfl, Nat.le_of_ble_eq_true rfl⟩) 0 0 rfl rfl rfl rfl hl.1 rfl (Nat.le_of_ble_eq_true rfl) dX4_raise_58 ⟨Nat.zero_le _, Nat.zero_le _⟩ (fun H locs hG => ?_)
          refine lv_aload_n hx hb dX4_raise_61 rfl (lv_at hl 0 rfl) ?_
          refine x_get (C := RX4) (T := TX4) (N := 8) (ci := 4) hx hb hts iX4 hown hK hG 25 rfl rfl 0 (by decide) k12 (v := .ref (a 0)) rfl dX4_raise_62 ?_
          refine lv_iload_n hx hb dX4_raise_65 rfl (lv_at hl 1 rfl) ?_
          obtain ⟨r15, q16, hf⟩ := cl1_e hf
          refine x_callVi (pre := ([] : va_W)) (wc := WH κ a uh13) (wc1 := WH κ a uh13) (post := WR κ a ur ++ (WN κ a un ++ (WS κ a us ++ (WO κ a uo)))) (As := [.int p1]) (rest := []) (w1 := WH κ a uh13 ++ (WR κ a ur ++ (WN κ a un ++ (WS κ a us ++ (WO κ a uo))))) ⟨hx, hb, hml, hown, hts⟩ hK hG hA (by simp only [List.append_assoc, List.nil_append, List.append_nil]) (by simp only [List.append_assoc, List.nil_append, List.append_nil]) (c_X0_allIn l D κ a H.size p1 uh13 r15 q16) (cwV 1 hts gX4_raise_X0_allIn rfl rfl rfl (by decide +kernel) ⟨Nat.le_of_ble_eq_true rfl, Nat.le_of_ble_eq_true rfl⟩) 0 0 rfl rfl rfl rfl hl.1 rfl (Nat.le_of_ble_eq_true rfl) dX4_raise_66 ⟨Nat.zero_le _, Nat.zero_le _⟩ (fun H locs hG => ?_)
          have hz := Option.some.inj hf
          have z0 := (Prod.mk.inj hz).1
          replace hz := (Prod.mk.inj hz).2
          have z1 := (Prod.mk.inj hz).1
          replace hz := (Prod.mk.inj hz).2
          have z2 := hz
          exact x_iret hx hb hr hlk hK hG z0 (by rw [z1, z2]) dX4_raise_69
        · replace hf := if_t c10 hf
          refine lv_aload_n hx hb dX4_raise_38 rfl (lv_at hl 0 rfl) ?_
          refine lv_bipush (v := (-3)) hx hb dX4_raise_39 (by decide) ?_
          obtain ⟨r17, uo18, q19, hf⟩ := cl2_e hf
          refine x_callVi (pre := ([] : va_W)) (wc := WH κ a uh ++ (WR κ a ur ++ (WN κ a un ++ (WS κ a us ++ (WO κ a uo))))) (wc1 := WH κ a uh ++ (WR κ a ur ++ (WN κ a un ++ (WS κ a us ++ (WO κ a uo18))))) (post := ([] : va_W)) (As := [.int ((-3))]) (rest := []) (w1 := WH κ a uh ++ (WR κ a ur ++ (WN κ a un ++ (WS κ a us ++ (WO κ a uo18))))) ⟨hx, hb, hml, hown, hts⟩ hK hG hA (by simp only [List.append_assoc, List.nil_append, List.append_nil]) (by simp only [List.append_assoc, List.nil_append, List.append_nil]) (c_X4_refuse l D κ a H.size ((-3)) uh ur un us uo r17 uo18 q19) (cwV 1 hts gX4_raise_X4_refuse rfl rfl rfl (by decide +kernel) ⟨Nat.le_of_ble_eq_true rfl, Nat.le_of_ble_eq_true rfl⟩) 25 4 rfl rfl rfl rfl hl.1 rfl (Nat.le_of_ble_eq_true rfl) dX4_raise_41 ⟨Nat.zero_le _, Nat.zero_le _⟩ (fun H locs hG => ?_)
          have hz := Option.some.inj hf
          have z0 := (Prod.mk.inj hz).1
          replace hz := (Prod.mk.inj hz).2
          have z1 := (Prod.mk.inj hz).1
          replace hz := (Prod.mk.inj hz).2
          have z2 := hz
          exact x_iret hx hb hr hlk hK hG z0 (by rw [z1, z2]) dX4_raise_44
      · replace hf := if_f c8 hf
        exact L19   uh uo hf H locs ls hG (lv_sub hl [0] rfl)
set_option maxRecDepth 100000 in
set_option maxHeartbeats 4000000 in
theorem c_X4_meld (l : Launch) (D : va_G) (κ : Nat → ClassId) (a : Nat → Nat) (sz : Nat) (p1 : Int32) (p2 : Int32) (uh : HS) (ur : RS) (un : NS) (us : SS) (uo : OS) (r' : Int32) (uh' : HS) (uo' : OS) (hf : f_X4_meld p1 p2 uh uo = some (r', uh', uo')) : Met l yX4_meld wsX4_meld ({ frames := 4, cells := 0, slots := 0, locals := 96 } : Room) (xPc D κ [.ref (a 25), .int p1, .int p2] (WH κ a uh ++ (WR κ a ur ++ (WN κ a un ++ (WS κ a us ++ (WO κ a uo))))) sz) (xQi D κ r' (WH κ a uh' ++ (WR κ a ur ++ (WN κ a un ++ (WS κ a us ++ (WO κ a uo'))))) (va_A (WH κ a uh ++ (WR κ a ur ++ (WN κ a un ++ (WS κ a us ++ (WO κ a uo))))) sz)) 0 0 (va_A (WH κ a uh ++ (WR κ a ur ++ (WN κ a un ++ (WS κ a us ++ (WO κ a uo))))) sz) := by
  refine x_ofW (cc := cX4_meld) (maxL := 5) (ret := (some .int)) (Qf := fun A => xQi D κ r' (WH κ a uh' ++ (WR κ a ur ++ (WN κ a un ++ (WS κ a us ++ (WO κ a uo'))))) A) (by decide) rfl (Nat.le_of_ble_eq_true rfl) ?_
  intro p e s m below meth c hx hb hr hlk hml hown hts hK A hA H locs hG ls hl
  have hown : s.vm.findClass RX4 = some m.cls := hown
  have hl : lv_has ls 5 [(0, .ref (a 25)), (1, .int p1), (2, .int p2)] := hl
  have iX0 : ∀ w ∈ u_ws RX0 TX0 17, w ∈ wsX4_meld := fun _ h => List.mem_cons_of_mem _ (List.mem_append_right _ h)
  have iX4 : ∀ w ∈ u_ws RX4 TX4 8, w ∈ wsX4_meld := fun _ h => List.mem_cons_of_mem _ (List.mem_append_left _ (List.mem_append_right _ h))
  have k12 := hts (.fieldLink RX4 12 "SpineDesks" "hall" "LSpineDesks$Hall;") (List.mem_of_getElem? (i := 1) rfl)
  have k126 := hts (.fieldLink RX4 126 "SpineDesks$Hall" "steps" "I") (List.mem_of_getElem? (i := 3) rfl)
  have k84 := hts (.fieldLink RX4 84 "SpineDesks$Hall" "root" "[I") (List.mem_of_getElem? (i := 2) rfl)
  unfold f_X4_meld at hf
  refine lv_iload_n hx hb dX4_meld_0 rfl (lv_at hl 1 rfl) ?_
  refine lv_iload_n hx hb dX4_meld_1 rfl (lv_at hl 2 rfl) ?_
  obtain ⟨r1, q2, hf⟩ := cl1_e hf
  refine x_callSi (pre := ([] : va_W)) (wc := ([] : va_W)) (wc1 := ([] : va_W)) (post := WH κ a uh ++ (WR κ a ur ++ (WN κ a un ++ (WS κ a us ++ (WO κ a uo))))) (As := [.int p1, .int p2]) (rest := []) (w1 := WH κ a uh ++ (WR κ a ur ++ (WN κ a un ++ (WS κ a us ++ (WO κ a uo))))) ⟨hx, hb, hml, hown, hts⟩ hK hG hA (by simp only [List.append_assoc, List.nil_append, List.append_nil]) (by simp only [List.append_assoc, List.nil_append, List.append_nil]) (c_X4_areTwoDesks l D κ a H.size p1 p2 r1 q2) (va_cwS 2 hts gX4_meld_X4_areTwoDesks rfl rfl rfl (by decide +kernel) ⟨Nat.le_of_ble_eq_true rfl, Nat.le_of_ble_eq_true rfl⟩) rfl hl.1 rfl (Nat.le_of_ble_eq_true rfl) dX4_meld_2 ⟨Nat.zero_le _, Nat.zero_le _⟩ (fun H locs hG => ?_)
  refine lv_if_ne (tgt := 14) hx hb dX4_meld_5 (by decide) (fun c3 => ?_) (fun c3 => ?_)
  · replace hf := if_f c3 hf
    refine lv_aload_n hx hb dX4_meld_14 rfl (lv_at hl 0 rfl) ?_
    refine x_get (C := RX4) (T := TX4) (N := 8) (ci := 4) hx hb hts iX4 hown hK hG 25 rfl rfl 0 (by decide) k12 (v := .ref (a 0)) rfl dX4_meld_15 ?_
    refine x_get (C := RX0) (T := TX0) (N := 17) (ci := 0) hx hb hts iX0 hown hK hG 0 rfl rfl 5 (by decide) k84 (v := .ref (a 1)) rfl dX4_meld_18 ?_
    refine lv_iload_n hx hb dX4_meld_21 rfl (lv_at hl 2 rfl) ?_
    obtain ⟨v4, ev4, hin, hf⟩ := ck_e hf
    refine x_iald hx hb hK hG 1 rfl ev4 hin dX4_meld_22 ?_
    refine lv_iconst (v := (-1)) hx hb dX4_meld_23 (by decide) ?_
    refine lv_icmp_ne (tgt := 34) hx hb dX4_meld_24 (by decide) (fun c5 => ?_) (fun c5 => ?_)
    · replace hf := if_f c5 hf
      refine lv_aload_n hx hb dX4_meld_34 rfl (lv_at hl 0 rfl) ?_
      refine x_get (C := RX4) (T := TX4) (N := 8) (ci := 4) hx hb hts iX4 hown hK hG 25 rfl rfl 0 (by decide) k12 (v := .ref (a 0)) rfl dX4_meld_35 ?_
      refine x_get (C := RX0) (T := TX0) (N := 17) (ci := 0) hx hb hts iX0 hown hK hG 0 rfl rfl 4 (by decide) k126 (v := .int (uh.steps)) rfl dX4_meld_38 ?_
      refine lv_topi (fun y6 ey6 => ?_)
      replace hf := bnd_at ey6 hf
      refine lv_istore_n (lv' := [(3, .int y6), (0, .ref (a 25)), (1, .int p1), (2, .int p2)]) hx hb dX4_meld_41 rfl hl (by decide) rfl (fun ls hl => ?_)
      refine lv_aload_n hx hb dX4_meld_42 rfl (lv_at hl 1 rfl) ?_
      refine x_get (C := RX4) (T := TX4) (N := 8) (ci := 4) hx hb hts iX4 hown hK hG 25 rfl rfl 0 (by decide) k12 (v := .ref (a 0)) rfl dX4_meld_43 ?_
      refine lv_iload_n hx hb dX4_meld_46 rfl (lv_at hl 2 rfl) ?_
      refine lv_iload_n hx hb dX4_meld_47 rfl (lv_at hl 3 rfl) ?_
      obtain ⟨uh7, q8, hf⟩ := cl1_e hf
      refine x_callVv (pre := ([] : va_W)) (wc := WH κ a uh) (wc1 := WH κ a uh7) (post := WR κ a ur ++ (WN κ a un ++ (WS κ a us ++ (WO κ a uo)))) (As := [.int p1, .int p2]) (rest := []) (w1 := WH κ a uh7 ++ (WR κ a ur ++ (WN κ a un ++ (WS κ a us ++ (WO κ a uo))))) ⟨hx, hb, hml, hown, hts⟩ hK hG hA (by simp only [List.append_assoc, List.nil_append, List.append_nil]) (by simp only [List.append_assoc, List.nil_append, List.append_nil]) (c_X0_meldInto l D κ a H.size p1 p2 uh uh7 q8) (cwV 2 hts gX4_meld_X0_meldInto rfl rfl rfl (by decide +kernel) ⟨Nat.le_of_ble_eq_true rfl, Nat.le_of_ble_eq_true rfl⟩) 0 0 rfl rfl rfl rfl hl.1 rfl (Nat.le_of_ble_eq_true rfl) dX4_meld_48 ⟨Nat.zero_le _, Nat.zero_le _⟩ (fun H locs hG => ?_)
      refine lv_aload_n hx hb dX4_meld_51 rfl (lv_at hl 1 rfl) ?_
      refine x_get (C := RX4) (T := TX4) (N := 8) (ci := 4) hx hb hts iX4 hown hK hG 25 rfl rfl 0 (by decide) k12 (v := .ref (a 0)) rfl dX4_meld_52 ?_
      refine x_get (C := RX0) (T := TX0) (N := 17) (ci := 0) hx hb hts iX0 hown hK hG 0 rfl rfl 4 (by decide) k126 (v := .int (uh7.steps)) rfl dX4_meld_55 ?_
      refine lv_iload_n hx hb dX4_meld_58 rfl (lv_at hl 0 rfl) ?_
      refine lv_isub hx hb dX4_meld_59 ?_
      refine lv_topi (fun y9 ey9 => ?_)
      replace hf := bnd_at ey9 hf
      refine lv_istore (lv' := [(4, .int y9), (3, .int y6), (0, .ref (a 25)), (1, .int p1), (2, .int p2)]) hx hb dX4_meld_60 hl (by decide) rfl (fun ls hl => ?_)
      refine lv_aload_n hx hb dX4_meld_62 rfl (lv_at hl 2 rfl) ?_
      refine x_get (C := RX4) (T := TX4) (N := 8) (ci := 4) hx hb hts iX4 hown hK hG 25 rfl rfl 0 (by decide) k12 (v := .ref (a 0)) rfl dX4_meld_63 ?_
      obtain ⟨uh10, q11, hf⟩ := cl1_e hf
      refine x_callVv (pre := ([] : va_W)) (wc := WH κ a uh7) (wc1 := WH κ a uh10) (post := WR κ a ur ++ (WN κ a un ++ (WS κ a us ++ (WO κ a uo)))) (As := []) (rest := []) (w1 := WH κ a uh10 ++ (WR κ a ur ++ (WN κ a un ++ (WS κ a us ++ (WO κ a uo))))) ⟨hx, hb, hml, hown, hts⟩ hK hG hA (by simp only [List.append_assoc, List.nil_append, List.append_nil]) (by simp only [List.append_assoc, List.nil_append, List.append_nil]) (c_X0_sweep l D κ a H.size uh7 uh10 q11) (cwV 0 hts gX4_meld_X0_sweep rfl rfl rfl (by decide +kernel) ⟨Nat.le_of_ble_eq_true rfl, Nat.le_of_ble_eq_true rfl⟩) 0 0 rfl rfl rfl rfl hl.1 rfl (Nat.le_of_ble_eq_true rfl) dX4_meld_66 ⟨Nat.zero_le _, Nat.zero_le _⟩ (fun H locs hG => ?_)
      refine lv_iload hx hb dX4_meld_69 (lv_at hl 0 rfl) ?_
      have hz := Option.some.inj hf
      have z0 := (Prod.mk.inj hz).1
      replace hz := (Prod.mk.inj hz).2
      have z1 := (Prod.mk.inj hz).1
      replace hz := (Prod.mk.inj hz).2
      have z2 := hz
      exact x_iret hx hb hr hlk hK hG z0 (by rw [z1, z2]) dX4_meld_71
    · replace hf := if_t c5 hf
      refine lv_aload_n hx hb dX4_meld_27 rfl (lv_at hl 0 rfl) ?_
      refine lv_bipush (v := (-3)) hx hb dX4_meld_28 (by decide) ?_
      obtain ⟨r12, uo13, q14, hf⟩ := cl2_e hf
      refine x_callVi (pre := ([] : va_W)) (wc := WH κ a uh ++ (WR κ a ur ++ (WN κ a un ++ (WS κ a us ++ (WO κ a uo))))) (wc1 := WH κ a uh ++ (WR κ a ur ++ (WN κ a un ++ (WS κ a us ++ (WO κ a uo13))))) (post := ([] : va_W)) (As := [.int ((-3))]) (rest := []) (w1 := WH κ a uh ++ (WR κ a ur ++ (WN κ a un ++ (WS κ a us ++ (WO κ a uo13))))) ⟨hx, hb, hml, hown, hts⟩ hK hG hA (by simp only [List.append_assoc, List.nil_append, List.append_nil]) (by simp only [List.append_assoc, List.nil_append, List.append_nil]) (c_X4_refuse l D κ a H.size ((-3)) uh ur un us uo r12 uo13 q14) (cwV 1 hts gX4_meld_X4_refuse rfl rfl rfl (by decide +kernel) ⟨Nat.le_of_ble_eq_true rfl, Nat.le_of_ble_eq_true rfl⟩) 25 4 rfl rfl rfl rfl hl.1 rfl (Nat.le_of_ble_eq_true rfl) dX4_meld_30 ⟨Nat.zero_le _, Nat.zero_le _⟩ (fun H locs hG => ?_)
      have hz := Option.some.inj hf
      have z0 := (Prod.mk.inj hz).1
      replace hz := (Prod.mk.inj hz).2
      have z1 := (Prod.mk.inj hz).1
      replace hz := (Prod.mk.inj hz).2
      have z2 := hz
      exact x_iret hx hb hr hlk hK hG z0 (by rw [z1, z2]) dX4_meld_33
  · replace hf := if_t c3 hf
    refine lv_aload_n hx hb dX4_meld_8 rfl (lv_at hl 0 rfl) ?_
    refine lv_iconst (v := (-1)) hx hb dX4_meld_9 (by decide) ?_
    obtain ⟨r15, uo16, q17, hf⟩ := cl2_e hf
    refine x_callVi (pre := ([] : va_W)) (wc := WH κ a uh ++ (WR κ a ur ++ (WN κ a un ++ (WS κ a us ++ (WO κ a uo))))) (wc1 := WH κ a uh ++ (WR κ a ur ++ (WN κ a un ++ (WS κ a us ++ (WO κ a uo16))))) (post := ([] : va_W)) (As := [.int ((-1))]) (rest := []) (w1 := WH κ a uh ++ (WR κ a ur ++ (WN κ a un ++ (WS κ a us ++ (WO κ a uo16))))) ⟨hx, hb, hml, hown, hts⟩ hK hG hA (by simp only [List.append_assoc, List.nil_append, List.append_nil]) (by simp only [List.append_assoc, List.nil_append, List.append_nil]) (c_X4_refuse l D κ a H.size ((-1)) uh ur un us uo r15 uo16 q17) (cwV 1 hts gX4_meld_X4_refuse rfl rfl rfl (by decide +kernel) ⟨Nat.le_of_ble_eq_true rfl, Nat.le_of_ble_eq_true rfl⟩) 25 4 rfl rfl rfl rfl hl.1 rfl (Nat.le_of_ble_eq_true rfl) dX4_meld_10 ⟨Nat.zero_le _, Nat.zero_le _⟩ (fun H locs hG => ?_)
    have hz := Option.some.inj hf
    have z0 := (Prod.mk.inj hz).1
    replace hz := (Prod.mk.inj hz).2
    have z1 := (Prod.mk.inj hz).1
    replace hz := (Prod.mk.inj hz).2
    have z2 := hz
    exact x_iret hx hb hr hlk hK hG z0 (by rw [z1, z2]) dX4_meld_13
set_option maxRecDepth 100000 in
set_option maxHeartbeats 4000000 in
theorem c_X4_part (l : Launch) (D : va_G) (κ : Nat → ClassId) (a : Nat → Nat) (sz : Nat) (p1 : Int32) (p2 : Int32) (p3 : Int32) (uh : HS) (ur : RS) (un : NS) (us : SS) (uo : OS) (r' : Int32) (uh' : HS) (uo' : OS) (hf : f_X4_part p1 p2 p3 uh uo = some (r', uh', uo')) : Met l yX4_part wsX4_part ({ frames := 5, cells := 0, slots := 0, locals := 119 } : Room) (xPc D κ [.ref (a 25), .int p1, .int p2, .int p3] (WH κ a uh ++ (WR κ a ur ++ (WN κ a un ++ (WS κ a us ++ (WO κ a uo))))) sz) (xQi D κ r' (WH κ a uh' ++ (WR κ a ur ++ (WN κ a un ++ (WS κ a us ++ (WO κ a uo'))))) (va_A (WH κ a uh ++ (WR κ a ur ++ (WN κ a un ++ (WS κ a us ++ (WO κ a uo))))) sz)) 0 0 (va_A (WH κ a uh ++ (WR κ a ur ++ (WN κ a un ++ (WS κ a us ++ (WO κ a uo))))) sz) := by
  refine x_ofW (cc := cX4_part) (maxL := 6) (ret := (some .int)) (Qf := fun A => xQi D κ r' (WH κ a uh' ++ (WR κ a ur ++ (WN κ a un ++ (WS κ a us ++ (WO κ a uo'))))) A) (by decide) rfl (Nat.le_of_ble_eq_true rfl) ?_
  intro p e s m below meth c hx hb hr hlk hml hown hts hK A hA H locs hG ls hl
  have hown : s.vm.findClass RX4 = some m.cls := hown
  have hl : lv_has ls 6 [(0, .ref (a 25)), (1, .int p1), (2, .int p2), (3, .int p3)] := hl
  have iX4 : ∀ w ∈ u_ws RX4 TX4 8, w ∈ wsX4_part := fun _ h => List.mem_cons_of_mem _ (List.mem_append_left _ (List.mem_append_right _ h))
  have k12 := hts (.fieldLink RX4 12 "SpineDesks" "hall" "LSpineDesks$Hall;") (List.mem_of_getElem? (i := 1) rfl)
  have L50 : ∀ (n : Nat), ∀ (x1 : Int32) (x2 : Int32) (x3 : Int32) (x4 : Int32) (x5 : Int32) (uh : HS) (uo : OS), f_X4_part_50 n x1 x2 x3 x4 x5 uh uo = some (r', uh', uo') → ∀ (H : Heap) (locs : List Loc) (ls : Array Slot), xG D A s.heap (WH κ a uh ++ (WR κ a ur ++ (WN κ a un ++ (WS κ a us ++ (WO κ a uo))))) H locs → lv_has ls 6 [(0, .ref (a 25)), (1, .int x1), (2, .int x2), (3, .int x3), (4, .int x4), (5, .int x5)] → W p l e ({ frames := 5, cells := 0, slots := 0, locals := 119 } : Room) s m (([.ref (a 25), .int p1, .int p2, .int p3] : List Value).toArray) below meth c H locs 0 0 (MQ below (xQi D κ r' (WH κ a uh' ++ (WR κ a ur ++ (WN κ a un ++ (WS κ a us ++ (WO κ a uo'))))) A) (([.ref (a 25), .int p1, .int p2, .int p3] : List Value).toArray) s 0 0 A) (F0 m 50 ls []) := by
    intro  n
    induction n with
    | zero => intro x1 x2 x3 x4 x5 uh uo hf; cases hf
    | succ n ih =>
      intro x1 x2 x3 x4 x5 uh uo hf H locs ls hG hl
      replace hf : f_X4_part_B50 (f_X4_part_50 n) x1 x2 x3 x4 x5 uh uo = some (r', uh', uo') := hf
      unfold f_X4_part_B50 at hf
      refine lv_iload hx hb dX4_part_50 (lv_at hl 5 rfl) ?_
      refine lv_iload_n hx hb dX4_part_52 rfl (lv_at hl 3 rfl) ?_
      refine lv_icmp_ge (tgt := 73) hx hb dX4_part_53 (by decide) (fun c1 => ?_) (fun c1 => ?_)
      · replace hf := if_t c1 hf
        refine lv_iload hx hb dX4_part_73 (lv_at hl 4 rfl) ?_
        have hz := Option.some.inj hf
        have z0 := (Prod.mk.inj hz).1
        replace hz := (Prod.mk.inj hz).2
        have z1 := (Prod.mk.inj hz).1
        replace hz := (Prod.mk.inj hz).2
        have z2 := hz
        exact x_iret hx hb hr hlk hK hG z0 (by rw [z1, z2]) dX4_part_75
      · replace hf := if_f c1 hf
        refine lv_aload_n hx hb dX4_part_56 rfl (lv_at hl 0 rfl) ?_
        refine x_get (C := RX4) (T := TX4) (N := 8) (ci := 4) hx hb hts iX4 hown hK hG 25 rfl rfl 0 (by decide) k12 (v := .ref (a 0)) rfl dX4_part_57 ?_
        refine lv_iload_n hx hb dX4_part_60 rfl (lv_at hl 1 rfl) ?_
        refine lv_iload_n hx hb dX4_part_61 rfl (lv_at hl 2 rfl) ?_
        obtain ⟨r2, uh3, q4, hf⟩ := cl2_e hf
        refine x_callVi (pre := ([] : va_W)) (wc := WH κ a uh) (wc1 := WH κ a uh3) (post := WR κ a ur ++ (WN κ a un ++ (WS κ a us ++ (WO κ a uo)))) (As := [.int x1, .int x2]) (rest := []) (w1 := WH κ a uh3 ++ (WR κ a ur ++ (WN κ a un ++ (WS κ a us ++ (WO κ a uo))))) ⟨hx, hb, hml, hown, hts⟩ hK hG hA (by simp only [List.append_assoc, List.nil_append, List.append_nil]) (by simp only [List.append_assoc, List.nil_append, List.append_nil]) (c_X0_moveLeast l D κ a H.size x1 x2 uh r2 uh3 q4) (cwV 2 hts gX4_part_X0_moveLeast rfl rfl rfl (by decide +kernel) ⟨Nat.le_of_ble_eq_true rfl, Nat.le_of_ble_eq_true rfl⟩) 0 0 rfl rfl rfl rfl hl.1 rfl (Nat.le_of_ble_eq_true rfl) dX4_part_62 ⟨Nat.zero_le _, Nat.zero_le _⟩ (fun H locs hG => ?_)
        refine lv_istore (lv' := [(4, .int r2), (0, .ref (a 25)), (1, .int x1), (2, .int x2), (3, .int x3), (5, .int x5)]) hx hb dX4_part_65 hl (by decide) rfl (fun ls hl => ?_)
        obtain ⟨y5, ey5, hf⟩ := bnd_e hf
        refine lv_iinc (v := y5) (lv' := [(5, .int y5), (4, .int r2), (0, .ref (a 25)), (1, .int x1), (2, .int x2), (3, .int x3)]) hx hb dX4_part_67 hl (k := 5) rfl (by rw [ey5]; rfl) (by decide) rfl (fun ls hl => ?_)
        refine lv_goto (tgt := 50) hx hb dX4_part_70 (by decide) ?_
        exact ih x1 x2 x3 r2 y5 uh3 uo hf H locs ls hG (lv_sub hl [2, 3, 4, 5, 1, 0] rfl)
  have L19 : ∀ (uh : HS) (uo : OS), f_X4_part_19 uh uo = some (r', uh', uo') → ∀ (H : Heap) (locs : List Loc) (ls : Array Slot), xG D A s.heap (WH κ a uh ++ (WR κ a ur ++ (WN κ a un ++ (WS κ a us ++ (WO κ a uo))))) H locs → lv_has ls 6 [(0, .ref (a 25))] → W p l e ({ frames := 5, cells := 0, slots := 0, locals := 119 } : Room) s m (([.ref (a 25), .int p1, .int p2, .int p3] : List Value).toArray) below meth c H locs 0 0 (MQ below (xQi D κ r' (WH κ a uh' ++ (WR κ a ur ++ (WN κ a un ++ (WS κ a us ++ (WO κ a uo'))))) A) (([.ref (a 25), .int p1, .int p2, .int p3] : List Value).toArray) s 0 0 A) (F0 m 19 ls []) := by
    intro  uh uo hf H locs ls hG hl
    unfold f_X4_part_19 at hf
    refine lv_aload_n hx hb dX4_part_19 rfl (lv_at hl 0 rfl) ?_
    refine lv_iconst (v := (-1)) hx hb dX4_part_20 (by decide) ?_
    obtain ⟨r6, uo7, q8, hf⟩ := cl2_e hf
    refine x_callVi (pre := ([] : va_W)) (wc := WH κ a uh ++ (WR κ a ur ++ (WN κ a un ++ (WS κ a us ++ (WO κ a uo))))) (wc1 := WH κ a uh ++ (WR κ a ur ++ (WN κ a un ++ (WS κ a us ++ (WO κ a uo7))))) (post := ([] : va_W)) (As := [.int ((-1))]) (rest := []) (w1 := WH κ a uh ++ (WR κ a ur ++ (WN κ a un ++ (WS κ a us ++ (WO κ a uo7))))) ⟨hx, hb, hml, hown, hts⟩ hK hG hA (by simp only [List.append_assoc, List.nil_append, List.append_nil]) (by simp only [List.append_assoc, List.nil_append, List.append_nil]) (c_X4_refuse l D κ a H.size ((-1)) uh ur un us uo r6 uo7 q8) (cwV 1 hts gX4_part_X4_refuse rfl rfl rfl (by decide +kernel) ⟨Nat.le_of_ble_eq_true rfl, Nat.le_of_ble_eq_true rfl⟩) 25 4 rfl rfl rfl rfl hl.1 rfl (Nat.le_of_ble_eq_true rfl) dX4_part_21 ⟨Nat.zero_le _, Nat.zero_le _⟩ (fun H locs hG => ?_)
    have hz := Option.some.inj hf
    have z0 := (Prod.mk.inj hz).1
    replace hz := (Prod.mk.inj hz).2
    have z1 := (Prod.mk.inj hz).1
    replace hz := (Prod.mk.inj hz).2
    have z2 := hz
    exact x_iret hx hb hr hlk hK hG z0 (by rw [z1, z2]) dX4_part_24
  unfold f_X4_part at hf
  refine lv_iload_n hx hb dX4_part_0 rfl (lv_at hl 1 rfl) ?_
  refine lv_iload_n hx hb dX4_part_1 rfl (lv_at hl 2 rfl) ?_
  obtain ⟨r9, q10, hf⟩ := cl1_e hf
  refine x_callSi (pre := ([] : va_W)) (wc := ([] : va_W)) (wc1 := ([] : va_W)) (post := WH κ a uh ++ (WR κ a ur ++ (WN κ a un ++ (WS κ a us ++ (WO κ a uo))))) (As := [.int p1, .int p2]) (rest := []) (w1 := WH κ a uh ++ (WR κ a ur ++ (WN κ a un ++ (WS κ a us ++ (WO κ a uo))))) ⟨hx, hb, hml, hown, hts⟩ hK hG hA (by simp only [List.append_assoc, List.nil_append, List.append_nil]) (by simp only [List.append_assoc, List.nil_append, List.append_nil]) (c_X4_areTwoDesks l D κ a H.size p1 p2 r9 q10) (va_cwS 2 hts gX4_part_X4_areTwoDesks rfl rfl rfl (by decide +kernel) ⟨Nat.le_of_ble_eq_true rfl, Nat.le_of_ble_eq_true rfl⟩) rfl hl.1 rfl (Nat.le_of_ble_eq_true rfl) dX4_part_2 ⟨Nat.zero_le _, Nat.zero_le _⟩ (fun H locs hG => ?_)
  refine lv_if_eq (tgt := 19) hx hb dX4_part_5 (by decide) (fun c11 => ?_) (fun c11 => ?_)
  · replace hf := if_t c11 hf
    exact L19   uh uo hf H locs ls hG (lv_sub hl [0] rfl)
  · replace hf := if_f c11 hf
    refine lv_iload_n hx hb dX4_part_8 rfl (lv_at hl 3 rfl) ?_
    refine lv_iconst (v := 1) hx hb dX4_part_9 (by decide) ?_
    refine lv_icmp_lt (tgt := 19) hx hb dX4_part_10 (by decide) (fun c12 => ?_) (fun c12 => ?_)
    · replace hf := if_t c12 hf
      exact L19   uh uo hf H locs ls hG (lv_sub hl [0] rfl)
    · replace hf := if_f c12 hf
      refine lv_iload_n hx hb dX4_part_13 rfl (lv_at hl 3 rfl) ?_
      refine lv_bipush (v := 50) hx hb dX4_part_14 (by decide) ?_
      refine lv_icmp_le (tgt := 25) hx hb dX4_part_16 (by decide) (fun c13 => ?_) (fun c13 => ?_)
      · replace hf := if_t c13 hf
        refine lv_aload_n hx hb dX4_part_25 rfl (lv_at hl 0 rfl) ?_
        refine x_get (C := RX4) (T := TX4) (N := 8) (ci := 4) hx hb hts iX4 hown hK hG 25 rfl rfl 0 (by decide) k12 (v := .ref (a 0)) rfl dX4_part_26 ?_
        refine lv_iload_n hx hb dX4_part_29 rfl (lv_at hl 1 rfl) ?_
        obtain ⟨r14, q15, hf⟩ := cl1_e hf
        refine x_callVi (pre := ([] : va_W)) (wc := WH κ a uh) (wc1 := WH κ a uh) (post := WR κ a ur ++ (WN κ a un ++ (WS κ a us ++ (WO κ a uo)))) (As := [.int p1]) (rest := []) (w1 := WH κ a uh ++ (WR κ a ur ++ (WN κ a un ++ (WS κ a us ++ (WO κ a uo))))) ⟨hx, hb, hml, hown, hts⟩ hK hG hA (by simp only [List.append_assoc, List.nil_append, List.append_nil]) (by simp only [List.append_assoc, List.nil_append, List.append_nil]) (c_X0_plainIn l D κ a H.size p1 uh r14 q15) (cwV 1 hts gX4_part_X0_plainIn rfl rfl rfl (by decide +kernel) ⟨Nat.le_of_ble_eq_true rfl, Nat.le_of_ble_eq_true rfl⟩) 0 0 rfl rfl rfl rfl hl.1 rfl (Nat.le_of_ble_eq_true rfl) dX4_part_30 ⟨Nat.zero_le _, Nat.zero_le _⟩ (fun H locs hG => ?_)
        refine lv_iload_n hx hb dX4_part_33 rfl (lv_at hl 3 rfl) ?_
        refine lv_icmp_ge (tgt := 44) hx hb dX4_part_34 (by decide) (fun c16 => ?_) (fun c16 => ?_)
        · replace hf := if_t c16 hf
          refine lv_iconst (v := (-1)) hx hb dX4_part_44 (by decide) ?_
          refine lv_istore (lv' := [(4, .int ((-1))), (0, .ref (a 25)), (1, .int p1), (2, .int p2), (3, .int p3)]) hx hb dX4_part_45 hl (by decide) rfl (fun ls hl => ?_)
          refine lv_iconst (v := 0) hx hb dX4_part_47 (by decide) ?_
          refine lv_istore (lv' := [(5, .int 0), (4, .int ((-1))), (0, .ref (a 25)), (1, .int p1), (2, .int p2), (3, .int p3)]) hx hb dX4_part_48 hl (by decide) rfl (fun ls hl => ?_)
          exact L50  FU p1 p2 p3 ((-1)) 0 uh uo hf H locs ls hG (lv_sub hl [2, 3, 4, 5, 1, 0] rfl)
        · replace hf := if_f c16 hf
          refine lv_aload_n hx hb dX4_part_37 rfl (lv_at hl 0 rfl) ?_
          refine lv_bipush (v := (-3)) hx hb dX4_part_38 (by decide) ?_
          obtain ⟨r17, uo18, q19, hf⟩ := cl2_e hf
          refine x_callVi (pre := ([] : va_W)) (wc := WH κ a uh ++ (WR κ a ur ++ (WN κ a un ++ (WS κ a us ++ (WO κ a uo))))) (wc1 := WH κ a uh ++ (WR κ a ur ++ (WN κ a un ++ (WS κ a us ++ (WO κ a uo18))))) (post := ([] : va_W)) (As := [.int ((-3))]) (rest := []) (w1 := WH κ a uh ++ (WR κ a ur ++ (WN κ a un ++ (WS κ a us ++ (WO κ a uo18))))) ⟨hx, hb, hml, hown, hts⟩ hK hG hA (by simp only [List.append_assoc, List.nil_append, List.append_nil]) (by simp only [List.append_assoc, List.nil_append, List.append_nil]) (c_X4_refuse l D κ a H.size ((-3)) uh ur un us uo r17 uo18 q19) (cwV 1 hts gX4_part_X4_refuse rfl rfl rfl (by decide +kernel) ⟨Nat.le_of_ble_eq_true rfl, Nat.le_of_ble_eq_true rfl⟩) 25 4 rfl rfl rfl rfl hl.1 rfl (Nat.le_of_ble_eq_true rfl) dX4_part_40 ⟨Nat.zero_le _, Nat.zero_le _⟩ (fun H locs hG => ?_)
          have hz := Option.some.inj hf
          have z0 := (Prod.mk.inj hz).1
          replace hz := (Prod.mk.inj hz).2
          have z1 := (Prod.mk.inj hz).1
          replace hz := (Prod.mk.inj hz).2
          have z2 := hz
          exact x_iret hx hb hr hlk hK hG z0 (by rw [z1, z2]) dX4_part_43
      · replace hf := if_f c13 hf
        exact L19   uh uo hf H locs ls hG (lv_sub hl [0] rfl)
set_option maxRecDepth 100000 in
set_option maxHeartbeats 4000000 in
theorem c_X4_split (l : Launch) (D : va_G) (κ : Nat → ClassId) (a : Nat → Nat) (sz : Nat) (p1 : Int32) (p2 : Int32) (p3 : Int32) (uh : HS) (ur : RS) (un : NS) (us : SS) (uo : OS) (r' : Int32) (uh' : HS) (ur' : RS) (uo' : OS) (hf : f_X4_split p1 p2 p3 uh ur uo = some (r', uh', ur', uo')) : Met l yX4_split wsX4_split ({ frames := 4, cells := 0, slots := 0, locals := 104 } : Room) (xPc D κ [.ref (a 25), .int p1, .int p2, .int p3] (WH κ a uh ++ (WR κ a ur ++ (WN κ a un ++ (WS κ a us ++ (WO κ a uo))))) sz) (xQi D κ r' (WH κ a uh' ++ (WR κ a ur' ++ (WN κ a un ++ (WS κ a us ++ (WO κ a uo'))))) (va_A (WH κ a uh ++ (WR κ a ur ++ (WN κ a un ++ (WS κ a us ++ (WO κ a uo))))) sz)) 0 0 (va_A (WH κ a uh ++ (WR κ a ur ++ (WN κ a un ++ (WS κ a us ++ (WO κ a uo))))) sz) := by
  refine x_ofW (cc := cX4_split) (maxL := 5) (ret := (some .int)) (Qf := fun A => xQi D κ r' (WH κ a uh' ++ (WR κ a ur' ++ (WN κ a un ++ (WS κ a us ++ (WO κ a uo'))))) A) (by decide) rfl (Nat.le_of_ble_eq_true rfl) ?_
  intro p e s m below meth c hx hb hr hlk hml hown hts hK A hA H locs hG ls hl
  have hown : s.vm.findClass RX4 = some m.cls := hown
  have hl : lv_has ls 5 [(0, .ref (a 25)), (1, .int p1), (2, .int p2), (3, .int p3)] := hl
  have iX4 : ∀ w ∈ u_ws RX4 TX4 8, w ∈ wsX4_split := fun _ h => List.mem_cons_of_mem _ (List.mem_append_left _ (List.mem_append_left _ (List.mem_append_right _ h)))
  have k12 := hts (.fieldLink RX4 12 "SpineDesks" "hall" "LSpineDesks$Hall;") (List.mem_of_getElem? (i := 2) rfl)
  have k42 := hts (.fieldLink RX4 42 "SpineDesks" "rows" "LSpineDesks$Rows;") (List.mem_of_getElem? (i := 1) rfl)
  unfold f_X4_split at hf
  refine lv_iload_n hx hb dX4_split_0 rfl (lv_at hl 1 rfl) ?_
  refine lv_iload_n hx hb dX4_split_1 rfl (lv_at hl 2 rfl) ?_
  obtain ⟨r1, q2, hf⟩ := cl1_e hf
  refine x_callSi (pre := ([] : va_W)) (wc := ([] : va_W)) (wc1 := ([] : va_W)) (post := WH κ a uh ++ (WR κ a ur ++ (WN κ a un ++ (WS κ a us ++ (WO κ a uo))))) (As := [.int p1, .int p2]) (rest := []) (w1 := WH κ a uh ++ (WR κ a ur ++ (WN κ a un ++ (WS κ a us ++ (WO κ a uo))))) ⟨hx, hb, hml, hown, hts⟩ hK hG hA (by simp only [List.append_assoc, List.nil_append, List.append_nil]) (by simp only [List.append_assoc, List.nil_append, List.append_nil]) (c_X4_areTwoDesks l D κ a H.size p1 p2 r1 q2) (va_cwS 2 hts gX4_split_X4_areTwoDesks rfl rfl rfl (by decide +kernel) ⟨Nat.le_of_ble_eq_true rfl, Nat.le_of_ble_eq_true rfl⟩) rfl hl.1 rfl (Nat.le_of_ble_eq_true rfl) dX4_split_2 ⟨Nat.zero_le _, Nat.zero_le _⟩ (fun H locs hG => ?_)
  refine lv_if_ne (tgt := 14) hx hb dX4_split_5 (by decide) (fun c3 => ?_) (fun c3 => ?_)
  · replace hf := if_f c3 hf
    refine lv_aload_n hx hb dX4_split_14 rfl (lv_at hl 0 rfl) ?_
    refine x_get (C := RX4) (T := TX4) (N := 8) (ci := 4) hx hb hts iX4 hown hK hG 25 rfl rfl 5 (by decide) k42 (v := .ref (a 13)) rfl dX4_split_15 ?_
    refine lv_iload_n hx hb dX4_split_18 rfl (lv_at hl 1 rfl) ?_
    refine lv_iload_n hx hb dX4_split_19 rfl (lv_at hl 2 rfl) ?_
    refine lv_iload_n hx hb dX4_split_20 rfl (lv_at hl 3 rfl) ?_
    obtain ⟨r4, uh5, ur6, q7, hf⟩ := cl3_e hf
    refine x_callVi (pre := ([] : va_W)) (wc := WH κ a uh ++ (WR κ a ur)) (wc1 := WH κ a uh5 ++ (WR κ a ur6)) (post := WN κ a un ++ (WS κ a us ++ (WO κ a uo))) (As := [.int p1, .int p2, .int p3]) (rest := []) (w1 := WH κ a uh5 ++ (WR κ a ur6 ++ (WN κ a un ++ (WS κ a us ++ (WO κ a uo))))) ⟨hx, hb, hml, hown, hts⟩ hK hG hA (by simp only [List.append_assoc, List.nil_append, List.append_nil]) (by simp only [List.append_assoc, List.nil_append, List.append_nil]) (c_X2_splitOff l D κ a H.size p1 p2 p3 uh ur r4 uh5 ur6 q7) (cwV 3 hts gX4_split_X2_splitOff rfl rfl rfl (by decide +kernel) ⟨Nat.le_of_ble_eq_true rfl, Nat.le_of_ble_eq_true rfl⟩) 13 2 rfl rfl rfl rfl hl.1 rfl (Nat.le_of_ble_eq_true rfl) dX4_split_21 ⟨Nat.zero_le _, Nat.zero_le _⟩ (fun H locs hG => ?_)
    refine lv_istore (lv' := [(4, .int r4), (0, .ref (a 25)), (1, .int p1), (2, .int p2), (3, .int p3)]) hx hb dX4_split_24 hl (by decide) rfl (fun ls hl => ?_)
    refine lv_iload hx hb dX4_split_26 (lv_at hl 0 rfl) ?_
    refine lv_if_ne (tgt := 38) hx hb dX4_split_28 (by decide) (fun c8 => ?_) (fun c8 => ?_)
    · replace hf := if_f c8 hf
      refine lv_aload_n hx hb dX4_split_38 rfl (lv_at hl 1 rfl) ?_
      refine x_get (C := RX4) (T := TX4) (N := 8) (ci := 4) hx hb hts iX4 hown hK hG 25 rfl rfl 0 (by decide) k12 (v := .ref (a 0)) rfl dX4_split_39 ?_
      obtain ⟨uh9, q10, hf⟩ := cl1_e hf
      refine x_callVv (pre := ([] : va_W)) (wc := WH κ a uh5) (wc1 := WH κ a uh9) (post := WR κ a ur6 ++ (WN κ a un ++ (WS κ a us ++ (WO κ a uo)))) (As := []) (rest := []) (w1 := WH κ a uh9 ++ (WR κ a ur6 ++ (WN κ a un ++ (WS κ a us ++ (WO κ a uo))))) ⟨hx, hb, hml, hown, hts⟩ hK hG hA (by simp only [List.append_assoc, List.nil_append, List.append_nil]) (by simp only [List.append_assoc, List.nil_append, List.append_nil]) (c_X0_sweep l D κ a H.size uh5 uh9 q10) (cwV 0 hts gX4_split_X0_sweep rfl rfl rfl (by decide +kernel) ⟨Nat.le_of_ble_eq_true rfl, Nat.le_of_ble_eq_true rfl⟩) 0 0 rfl rfl rfl rfl hl.1 rfl (Nat.le_of_ble_eq_true rfl) dX4_split_42 ⟨Nat.zero_le _, Nat.zero_le _⟩ (fun H locs hG => ?_)
      refine lv_iload hx hb dX4_split_45 (lv_at hl 0 rfl) ?_
      have hz := Option.some.inj hf
      have z0 := (Prod.mk.inj hz).1
      replace hz := (Prod.mk.inj hz).2
      have z1 := (Prod.mk.inj hz).1
      replace hz := (Prod.mk.inj hz).2
      have z2 := (Prod.mk.inj hz).1
      replace hz := (Prod.mk.inj hz).2
      have z3 := hz
      exact x_iret hx hb hr hlk hK hG z0 (by rw [z1, z2, z3]) dX4_split_47
    · replace hf := if_t c8 hf
      refine lv_aload_n hx hb dX4_split_31 rfl (lv_at hl 1 rfl) ?_
      refine lv_bipush (v := (-3)) hx hb dX4_split_32 (by decide) ?_
      obtain ⟨r11, uo12, q13, hf⟩ := cl2_e hf
      refine x_callVi (pre := ([] : va_W)) (wc := WH κ a uh5 ++ (WR κ a ur6 ++ (WN κ a un ++ (WS κ a us ++ (WO κ a uo))))) (wc1 := WH κ a uh5 ++ (WR κ a ur6 ++ (WN κ a un ++ (WS κ a us ++ (WO κ a uo12))))) (post := ([] : va_W)) (As := [.int ((-3))]) (rest := []) (w1 := WH κ a uh5 ++ (WR κ a ur6 ++ (WN κ a un ++ (WS κ a us ++ (WO κ a uo12))))) ⟨hx, hb, hml, hown, hts⟩ hK hG hA (by simp only [List.append_assoc, List.nil_append, List.append_nil]) (by simp only [List.append_assoc, List.nil_append, List.append_nil]) (c_X4_refuse l D κ a H.size ((-3)) uh5 ur6 un us uo r11 uo12 q13) (cwV 1 hts gX4_split_X4_refuse rfl rfl rfl (by decide +kernel) ⟨Nat.le_of_ble_eq_true rfl, Nat.le_of_ble_eq_true rfl⟩) 25 4 rfl rfl rfl rfl hl.1 rfl (Nat.le_of_ble_eq_true rfl) dX4_split_34 ⟨Nat.zero_le _, Nat.zero_le _⟩ (fun H locs hG => ?_)
      have hz := Option.some.inj hf
      have z0 := (Prod.mk.inj hz).1
      replace hz := (Prod.mk.inj hz).2
      have z1 := (Prod.mk.inj hz).1
      replace hz := (Prod.mk.inj hz).2
      have z2 := (Prod.mk.inj hz).1
      replace hz := (Prod.mk.inj hz).2
      have z3 := hz
      exact x_iret hx hb hr hlk hK hG z0 (by rw [z1, z2, z3]) dX4_split_37
  · replace hf := if_t c3 hf
    refine lv_aload_n hx hb dX4_split_8 rfl (lv_at hl 0 rfl) ?_
    refine lv_iconst (v := (-1)) hx hb dX4_split_9 (by decide) ?_
    obtain ⟨r14, uo15, q16, hf⟩ := cl2_e hf
    refine x_callVi (pre := ([] : va_W)) (wc := WH κ a uh ++ (WR κ a ur ++ (WN κ a un ++ (WS κ a us ++ (WO κ a uo))))) (wc1 := WH κ a uh ++ (WR κ a ur ++ (WN κ a un ++ (WS κ a us ++ (WO κ a uo15))))) (post := ([] : va_W)) (As := [.int ((-1))]) (rest := []) (w1 := WH κ a uh ++ (WR κ a ur ++ (WN κ a un ++ (WS κ a us ++ (WO κ a uo15))))) ⟨hx, hb, hml, hown, hts⟩ hK hG hA (by simp only [List.append_assoc, List.nil_append, List.append_nil]) (by simp only [List.append_assoc, List.nil_append, List.append_nil]) (c_X4_refuse l D κ a H.size ((-1)) uh ur un us uo r14 uo15 q16) (cwV 1 hts gX4_split_X4_refuse rfl rfl rfl (by decide +kernel) ⟨Nat.le_of_ble_eq_true rfl, Nat.le_of_ble_eq_true rfl⟩) 25 4 rfl rfl rfl rfl hl.1 rfl (Nat.le_of_ble_eq_true rfl) dX4_split_10 ⟨Nat.zero_le _, Nat.zero_le _⟩ (fun H locs hG => ?_)
    have hz := Option.some.inj hf
    have z0 := (Prod.mk.inj hz).1
    replace hz := (Prod.mk.inj hz).2
    have z1 := (Prod.mk.inj hz).1
    replace hz := (Prod.mk.inj hz).2
    have z2 := (Prod.mk.inj hz).1
    replace hz := (Prod.mk.inj hz).2
    have z3 := hz
    exact x_iret hx hb hr hlk hK hG z0 (by rw [z1, z2, z3]) dX4_split_13
set_option maxRecDepth 100000 in
set_option maxHeartbeats 4000000 in
theorem c_X4_gather (l : Launch) (D : va_G) (κ : Nat → ClassId) (a : Nat → Nat) (sz : Nat) (p1 : Int32) (uh : HS) (ur : RS) (un : NS) (us : SS) (uo : OS) (r' : Int32) (uh' : HS) (ur' : RS) (uo' : OS) (hf : f_X4_gather p1 uh ur uo = some (r', uh', ur', uo')) : Met l yX4_gather wsX4_gather ({ frames := 4, cells := 0, slots := 0, locals := 99 } : Room) (xPc D κ [.ref (a 25), .int p1] (WH κ a uh ++ (WR κ a ur ++ (WN κ a un ++ (WS κ a us ++ (WO κ a uo))))) sz) (xQi D κ r' (WH κ a uh' ++ (WR κ a ur' ++ (WN κ a un ++ (WS κ a us ++ (WO κ a uo'))))) (va_A (WH κ a uh ++ (WR κ a ur ++ (WN κ a un ++ (WS κ a us ++ (WO κ a uo))))) sz)) 0 0 (va_A (WH κ a uh ++ (WR κ a ur ++ (WN κ a un ++ (WS κ a us ++ (WO κ a uo))))) sz) := by
  refine x_ofW (cc := cX4_gather) (maxL := 4) (ret := (some .int)) (Qf := fun A => xQi D κ r' (WH κ a uh' ++ (WR κ a ur' ++ (WN κ a un ++ (WS κ a us ++ (WO κ a uo'))))) A) (by decide) rfl (Nat.le_of_ble_eq_true rfl) ?_
  intro p e s m below meth c hx hb hr hlk hml hown hts hK A hA H locs hG ls hl
  have hown : s.vm.findClass RX4 = some m.cls := hown
  have hl : lv_has ls 4 [(0, .ref (a 25)), (1, .int p1)] := hl
  have iX0 : ∀ w ∈ u_ws RX0 TX0 17, w ∈ wsX4_gather := fun _ h => List.mem_cons_of_mem _ (List.mem_append_left _ (List.mem_append_right _ h))
  have iX4 : ∀ w ∈ u_ws RX4 TX4 8, w ∈ wsX4_gather := fun _ h => List.mem_cons_of_mem _ (List.mem_append_left _ (List.mem_append_left _ (List.mem_append_right _ h)))
  have k12 := hts (.fieldLink RX4 12 "SpineDesks" "hall" "LSpineDesks$Hall;") (List.mem_of_getElem? (i := 1) rfl)
  have k126 := hts (.fieldLink RX4 126 "SpineDesks$Hall" "steps" "I") (List.mem_of_getElem? (i := 2) rfl)
  have k42 := hts (.fieldLink RX4 42 "SpineDesks" "rows" "LSpineDesks$Rows;") (List.mem_of_getElem? (i := 3) rfl)
  unfold f_X4_gather at hf
  refine lv_iload_n hx hb dX4_gather_0 rfl (lv_at hl 1 rfl) ?_
  obtain ⟨r1, q2, hf⟩ := cl1_e hf
  refine x_callSi (pre := ([] : va_W)) (wc := ([] : va_W)) (wc1 := ([] : va_W)) (post := WH κ a uh ++ (WR κ a ur ++ (WN κ a un ++ (WS κ a us ++ (WO κ a uo))))) (As := [.int p1]) (rest := []) (w1 := WH κ a uh ++ (WR κ a ur ++ (WN κ a un ++ (WS κ a us ++ (WO κ a uo))))) ⟨hx, hb, hml, hown, hts⟩ hK hG hA (by simp only [List.append_assoc, List.nil_append, List.append_nil]) (by simp only [List.append_assoc, List.nil_append, List.append_nil]) (c_X4_isDesk l D κ a H.size p1 r1 q2) (va_cwS 1 hts gX4_gather_X4_isDesk rfl rfl rfl (by decide +kernel) ⟨Nat.le_of_ble_eq_true rfl, Nat.le_of_ble_eq_true rfl⟩) rfl hl.1 rfl (Nat.le_of_ble_eq_true rfl) dX4_gather_1 ⟨Nat.zero_le _, Nat.zero_le _⟩ (fun H locs hG => ?_)
  refine lv_if_ne (tgt := 13) hx hb dX4_gather_4 (by decide) (fun c3 => ?_) (fun c3 => ?_)
  · replace hf := if_f c3 hf
    refine lv_aload_n hx hb dX4_gather_13 rfl (lv_at hl 0 rfl) ?_
    refine x_get (C := RX4) (T := TX4) (N := 8) (ci := 4) hx hb hts iX4 hown hK hG 25 rfl rfl 0 (by decide) k12 (v := .ref (a 0)) rfl dX4_gather_14 ?_
    refine x_get (C := RX0) (T := TX0) (N := 17) (ci := 0) hx hb hts iX0 hown hK hG 0 rfl rfl 4 (by decide) k126 (v := .int (uh.steps)) rfl dX4_gather_17 ?_
    refine lv_topi (fun y4 ey4 => ?_)
    replace hf := bnd_at ey4 hf
    refine lv_istore_n (lv' := [(2, .int y4), (0, .ref (a 25)), (1, .int p1)]) hx hb dX4_gather_20 rfl hl (by decide) rfl (fun ls hl => ?_)
    refine lv_aload_n hx hb dX4_gather_21 rfl (lv_at hl 1 rfl) ?_
    refine x_get (C := RX4) (T := TX4) (N := 8) (ci := 4) hx hb hts iX4 hown hK hG 25 rfl rfl 5 (by decide) k42 (v := .ref (a 13)) rfl dX4_gather_22 ?_
    refine lv_iload_n hx hb dX4_gather_25 rfl (lv_at hl 2 rfl) ?_
    obtain ⟨r5, uh6, ur7, q8, hf⟩ := cl3_e hf
    refine x_callVi (pre := ([] : va_W)) (wc := WH κ a uh ++ (WR κ a ur)) (wc1 := WH κ a uh6 ++ (WR κ a ur7)) (post := WN κ a un ++ (WS κ a us ++ (WO κ a uo))) (As := [.int p1]) (rest := []) (w1 := WH κ a uh6 ++ (WR κ a ur7 ++ (WN κ a un ++ (WS κ a us ++ (WO κ a uo))))) ⟨hx, hb, hml, hown, hts⟩ hK hG hA (by simp only [List.append_assoc, List.nil_append, List.append_nil]) (by simp only [List.append_assoc, List.nil_append, List.append_nil]) (c_X2_gatherDesks l D κ a H.size p1 uh ur r5 uh6 ur7 q8) (cwV 1 hts gX4_gather_X2_gatherDesks rfl rfl rfl (by decide +kernel) ⟨Nat.le_of_ble_eq_true rfl, Nat.le_of_ble_eq_true rfl⟩) 13 2 rfl rfl rfl rfl hl.1 rfl (Nat.le_of_ble_eq_true rfl) dX4_gather_26 ⟨Nat.zero_le _, Nat.zero_le _⟩ (fun H locs hG => ?_)
    refine lv_if_ne (tgt := 39) hx hb dX4_gather_29 (by decide) (fun c9 => ?_) (fun c9 => ?_)
    · replace hf := if_f c9 hf
      refine lv_aload_n hx hb dX4_gather_39 rfl (lv_at hl 1 rfl) ?_
      refine x_get (C := RX4) (T := TX4) (N := 8) (ci := 4) hx hb hts iX4 hown hK hG 25 rfl rfl 0 (by decide) k12 (v := .ref (a 0)) rfl dX4_gather_40 ?_
      refine x_get (C := RX0) (T := TX0) (N := 17) (ci := 0) hx hb hts iX0 hown hK hG 0 rfl rfl 4 (by decide) k126 (v := .int (uh6.steps)) rfl dX4_gather_43 ?_
      refine lv_iload_n hx hb dX4_gather_46 rfl (lv_at hl 0 rfl) ?_
      refine lv_isub hx hb dX4_gather_47 ?_
      refine lv_topi (fun y10 ey10 => ?_)
      replace hf := bnd_at ey10 hf
      refine lv_istore_n (lv' := [(3, .int y10), (2, .int y4), (0, .ref (a 25)), (1, .int p1)]) hx hb dX4_gather_48 rfl hl (by decide) rfl (fun ls hl => ?_)
      refine lv_aload_n hx hb dX4_gather_49 rfl (lv_at hl 2 rfl) ?_
      refine x_get (C := RX4) (T := TX4) (N := 8) (ci := 4) hx hb hts iX4 hown hK hG 25 rfl rfl 0 (by decide) k12 (v := .ref (a 0)) rfl dX4_gather_50 ?_
      obtain ⟨uh11, q12, hf⟩ := cl1_e hf
      refine x_callVv (pre := ([] : va_W)) (wc := WH κ a uh6) (wc1 := WH κ a uh11) (post := WR κ a ur7 ++ (WN κ a un ++ (WS κ a us ++ (WO κ a uo)))) (As := []) (rest := []) (w1 := WH κ a uh11 ++ (WR κ a ur7 ++ (WN κ a un ++ (WS κ a us ++ (WO κ a uo))))) ⟨hx, hb, hml, hown, hts⟩ hK hG hA (by simp only [List.append_assoc, List.nil_append, List.append_nil]) (by simp only [List.append_assoc, List.nil_append, List.append_nil]) (c_X0_sweep l D κ a H.size uh6 uh11 q12) (cwV 0 hts gX4_gather_X0_sweep rfl rfl rfl (by decide +kernel) ⟨Nat.le_of_ble_eq_true rfl, Nat.le_of_ble_eq_true rfl⟩) 0 0 rfl rfl rfl rfl hl.1 rfl (Nat.le_of_ble_eq_true rfl) dX4_gather_53 ⟨Nat.zero_le _, Nat.zero_le _⟩ (fun H locs hG => ?_)
      refine lv_iload_n hx hb dX4_gather_56 rfl (lv_at hl 0 rfl) ?_
      have hz := Option.some.inj hf
      have z0 := (Prod.mk.inj hz).1
      replace hz := (Prod.mk.inj hz).2
      have z1 := (Prod.mk.inj hz).1
      replace hz := (Prod.mk.inj hz).2
      have z2 := (Prod.mk.inj hz).1
      replace hz := (Prod.mk.inj hz).2
      have z3 := hz
      exact x_iret hx hb hr hlk hK hG z0 (by rw [z1, z2, z3]) dX4_gather_57
    · replace hf := if_t c9 hf
      refine lv_aload_n hx hb dX4_gather_32 rfl (lv_at hl 1 rfl) ?_
      refine lv_bipush (v := (-3)) hx hb dX4_gather_33 (by decide) ?_
      obtain ⟨r13, uo14, q15, hf⟩ := cl2_e hf
      refine x_callVi (pre := ([] : va_W)) (wc := WH κ a uh6 ++ (WR κ a ur7 ++ (WN κ a un ++ (WS κ a us ++ (WO κ a uo))))) (wc1 := WH κ a uh6 ++ (WR κ a ur7 ++ (WN κ a un ++ (WS κ a us ++ (WO κ a uo14))))) (post := ([] : va_W)) (As := [.int ((-3))]) (rest := []) (w1 := WH κ a uh6 ++ (WR κ a ur7 ++ (WN κ a un ++ (WS κ a us ++ (WO κ a uo14))))) ⟨hx, hb, hml, hown, hts⟩ hK hG hA (by simp only [List.append_assoc, List.nil_append, List.append_nil]) (by simp only [List.append_assoc, List.nil_append, List.append_nil]) (c_X4_refuse l D κ a H.size ((-3)) uh6 ur7 un us uo r13 uo14 q15) (cwV 1 hts gX4_gather_X4_refuse rfl rfl rfl (by decide +kernel) ⟨Nat.le_of_ble_eq_true rfl, Nat.le_of_ble_eq_true rfl⟩) 25 4 rfl rfl rfl rfl hl.1 rfl (Nat.le_of_ble_eq_true rfl) dX4_gather_35 ⟨Nat.zero_le _, Nat.zero_le _⟩ (fun H locs hG => ?_)
      have hz := Option.some.inj hf
      have z0 := (Prod.mk.inj hz).1
      replace hz := (Prod.mk.inj hz).2
      have z1 := (Prod.mk.inj hz).1
      replace hz := (Prod.mk.inj hz).2
      have z2 := (Prod.mk.inj hz).1
      replace hz := (Prod.mk.inj hz).2
      have z3 := hz
      exact x_iret hx hb hr hlk hK hG z0 (by rw [z1, z2, z3]) dX4_gather_38
  · replace hf := if_t c3 hf
    refine lv_aload_n hx hb dX4_gather_7 rfl (lv_at hl 0 rfl) ?_
    refine lv_iconst (v := (-1)) hx hb dX4_gather_8 (by decide) ?_
    obtain ⟨r16, uo17, q18, hf⟩ := cl2_e hf
    refine x_callVi (pre := ([] : va_W)) (wc := WH κ a uh ++ (WR κ a ur ++ (WN κ a un ++ (WS κ a us ++ (WO κ a uo))))) (wc1 := WH κ a uh ++ (WR κ a ur ++ (WN κ a un ++ (WS κ a us ++ (WO κ a uo17))))) (post := ([] : va_W)) (As := [.int ((-1))]) (rest := []) (w1 := WH κ a uh ++ (WR κ a ur ++ (WN κ a un ++ (WS κ a us ++ (WO κ a uo17))))) ⟨hx, hb, hml, hown, hts⟩ hK hG hA (by simp only [List.append_assoc, List.nil_append, List.append_nil]) (by simp only [List.append_assoc, List.nil_append, List.append_nil]) (c_X4_refuse l D κ a H.size ((-1)) uh ur un us uo r16 uo17 q18) (cwV 1 hts gX4_gather_X4_refuse rfl rfl rfl (by decide +kernel) ⟨Nat.le_of_ble_eq_true rfl, Nat.le_of_ble_eq_true rfl⟩) 25 4 rfl rfl rfl rfl hl.1 rfl (Nat.le_of_ble_eq_true rfl) dX4_gather_9 ⟨Nat.zero_le _, Nat.zero_le _⟩ (fun H locs hG => ?_)
    have hz := Option.some.inj hf
    have z0 := (Prod.mk.inj hz).1
    replace hz := (Prod.mk.inj hz).2
    have z1 := (Prod.mk.inj hz).1
    replace hz := (Prod.mk.inj hz).2
    have z2 := (Prod.mk.inj hz).1
    replace hz := (Prod.mk.inj hz).2
    have z3 := hz
    exact x_iret hx hb hr hlk hK hG z0 (by rw [z1, z2, z3]) dX4_gather_12
set_option maxRecDepth 100000 in
set_option maxHeartbeats 4000000 in
theorem c_X4_arc (l : Launch) (D : va_G) (κ : Nat → ClassId) (a : Nat → Nat) (sz : Nat) (p1 : Int32) (p2 : Int32) (p3 : Int32) (uh : HS) (ur : RS) (un : NS) (us : SS) (uo : OS) (r' : Int32) (un' : NS) (uo' : OS) (hf : f_X4_arc p1 p2 p3 un uo = some (r', un', uo')) : Met l yX4_arc wsX4_arc ({ frames := 1, cells := 0, slots := 0, locals := 22 } : Room) (xPc D κ [.ref (a 25), .int p1, .int p2, .int p3] (WH κ a uh ++ (WR κ a ur ++ (WN κ a un ++ (WS κ a us ++ (WO κ a uo))))) sz) (xQi D κ r' (WH κ a uh ++ (WR κ a ur ++ (WN κ a un' ++ (WS κ a us ++ (WO κ a uo'))))) (va_A (WH κ a uh ++ (WR κ a ur ++ (WN κ a un ++ (WS κ a us ++ (WO κ a uo))))) sz)) 0 0 (va_A (WH κ a uh ++ (WR κ a ur ++ (WN κ a un ++ (WS κ a us ++ (WO κ a uo))))) sz) := by
  refine x_ofW (cc := cX4_arc) (maxL := 5) (ret := (some .int)) (Qf := fun A => xQi D κ r' (WH κ a uh ++ (WR κ a ur ++ (WN κ a un' ++ (WS κ a us ++ (WO κ a uo'))))) A) (by decide) rfl (Nat.le_of_ble_eq_true rfl) ?_
  intro p e s m below meth c hx hb hr hlk hml hown hts hK A hA H locs hG ls hl
  have hown : s.vm.findClass RX4 = some m.cls := hown
  have hl : lv_has ls 5 [(0, .ref (a 25)), (1, .int p1), (2, .int p2), (3, .int p3)] := hl
  have iX1 : ∀ w ∈ u_ws RX1 TX1 3, w ∈ wsX4_arc := fun _ h => List.mem_cons_of_mem _ (List.mem_append_right _ h)
  have iX4 : ∀ w ∈ u_ws RX4 TX4 8, w ∈ wsX4_arc := fun _ h => List.mem_cons_of_mem _ (List.mem_append_left _ (List.mem_append_right _ h))
  have k157 := hts (.fieldLink RX4 157 "SpineDesks$Net" "from" "[I") (List.mem_of_getElem? (i := 2) rfl)
  have k160 := hts (.fieldLink RX4 160 "SpineDesks$Net" "to" "[I") (List.mem_of_getElem? (i := 3) rfl)
  have k163 := hts (.fieldLink RX4 163 "SpineDesks$Net" "cost" "[I") (List.mem_of_getElem? (i := 4) rfl)
  have k25 := hts (.fieldLink RX4 25 "SpineDesks" "net" "LSpineDesks$Net;") (List.mem_of_getElem? (i := 1) rfl)
  have L26 : ∀ (un : NS) (uo : OS), f_X4_arc_26 un uo = some (r', un', uo') → ∀ (H : Heap) (locs : List Loc) (ls : Array Slot), xG D A s.heap (WH κ a uh ++ (WR κ a ur ++ (WN κ a un ++ (WS κ a us ++ (WO κ a uo))))) H locs → lv_has ls 5 [(0, .ref (a 25))] → W p l e ({ frames := 1, cells := 0, slots := 0, locals := 22 } : Room) s m (([.ref (a 25), .int p1, .int p2, .int p3] : List Value).toArray) below meth c H locs 0 0 (MQ below (xQi D κ r' (WH κ a uh ++ (WR κ a ur ++ (WN κ a un' ++ (WS κ a us ++ (WO κ a uo'))))) A) (([.ref (a 25), .int p1, .int p2, .int p3] : List Value).toArray) s 0 0 A) (F0 m 26 ls []) := by
    intro  un uo hf H locs ls hG hl
    unfold f_X4_arc_26 at hf
    refine lv_aload_n hx hb dX4_arc_26 rfl (lv_at hl 0 rfl) ?_
    refine lv_iconst (v := (-1)) hx hb dX4_arc_27 (by decide) ?_
    obtain ⟨r1, uo2, q3, hf⟩ := cl2_e hf
    refine x_callVi (pre := ([] : va_W)) (wc := WH κ a uh ++ (WR κ a ur ++ (WN κ a un ++ (WS κ a us ++ (WO κ a uo))))) (wc1 := WH κ a uh ++ (WR κ a ur ++ (WN κ a un ++ (WS κ a us ++ (WO κ a uo2))))) (post := ([] : va_W)) (As := [.int ((-1))]) (rest := []) (w1 := WH κ a uh ++ (WR κ a ur ++ (WN κ a un ++ (WS κ a us ++ (WO κ a uo2))))) ⟨hx, hb, hml, hown, hts⟩ hK hG hA (by simp only [List.append_assoc, List.nil_append, List.append_nil]) (by simp only [List.append_assoc, List.nil_append, List.append_nil]) (c_X4_refuse l D κ a H.size ((-1)) uh ur un us uo r1 uo2 q3) (cwV 1 hts gX4_arc_X4_refuse rfl rfl rfl (by decide +kernel) ⟨Nat.le_of_ble_eq_true rfl, Nat.le_of_ble_eq_true rfl⟩) 25 4 rfl rfl rfl rfl hl.1 rfl (Nat.le_of_ble_eq_true rfl) dX4_arc_28 ⟨Nat.zero_le _, Nat.zero_le _⟩ (fun H locs hG => ?_)
    have hz := Option.some.inj hf
    have z0 := (Prod.mk.inj hz).1
    replace hz := (Prod.mk.inj hz).2
    have z1 := (Prod.mk.inj hz).1
    replace hz := (Prod.mk.inj hz).2
    have z2 := hz
    exact x_iret hx hb hr hlk hK hG z0 (by rw [z1, z2]) dX4_arc_31
  unfold f_X4_arc at hf
  refine lv_iload_n hx hb dX4_arc_0 rfl (lv_at hl 1 rfl) ?_
  obtain ⟨r4, q5, hf⟩ := cl1_e hf
  refine x_callSi (pre := ([] : va_W)) (wc := ([] : va_W)) (wc1 := ([] : va_W)) (post := WH κ a uh ++ (WR κ a ur ++ (WN κ a un ++ (WS κ a us ++ (WO κ a uo))))) (As := [.int p1]) (rest := []) (w1 := WH κ a uh ++ (WR κ a ur ++ (WN κ a un ++ (WS κ a us ++ (WO κ a uo))))) ⟨hx, hb, hml, hown, hts⟩ hK hG hA (by simp only [List.append_assoc, List.nil_append, List.append_nil]) (by simp only [List.append_assoc, List.nil_append, List.append_nil]) (c_X4_isPlace l D κ a H.size p1 r4 q5) (va_cwS 1 hts gX4_arc_X4_isPlace rfl rfl rfl (by decide +kernel) ⟨Nat.le_of_ble_eq_true rfl, Nat.le_of_ble_eq_true rfl⟩) rfl hl.1 rfl (Nat.le_of_ble_eq_true rfl) dX4_arc_1 ⟨Nat.zero_le _, Nat.zero_le _⟩ (fun H locs hG => ?_)
  refine lv_if_eq (tgt := 26) hx hb dX4_arc_4 (by decide) (fun c6 => ?_) (fun c6 => ?_)
  · replace hf := if_t c6 hf
    exact L26   un uo hf H locs ls hG (lv_sub hl [0] rfl)
  · replace hf := if_f c6 hf
    refine lv_iload_n hx hb dX4_arc_7 rfl (lv_at hl 2 rfl) ?_
    obtain ⟨r7, q8, hf⟩ := cl1_e hf
    refine x_callSi (pre := ([] : va_W)) (wc := ([] : va_W)) (wc1 := ([] : va_W)) (post := WH κ a uh ++ (WR κ a ur ++ (WN κ a un ++ (WS κ a us ++ (WO κ a uo))))) (As := [.int p2]) (rest := []) (w1 := WH κ a uh ++ (WR κ a ur ++ (WN κ a un ++ (WS κ a us ++ (WO κ a uo))))) ⟨hx, hb, hml, hown, hts⟩ hK hG hA (by simp only [List.append_assoc, List.nil_append, List.append_nil]) (by simp only [List.append_assoc, List.nil_append, List.append_nil]) (c_X4_isPlace l D κ a H.size p2 r7 q8) (va_cwS 1 hts gX4_arc_X4_isPlace rfl rfl rfl (by decide +kernel) ⟨Nat.le_of_ble_eq_true rfl, Nat.le_of_ble_eq_true rfl⟩) rfl hl.1 rfl (Nat.le_of_ble_eq_true rfl) dX4_arc_8 ⟨Nat.zero_le _, Nat.zero_le _⟩ (fun H locs hG => ?_)
    refine lv_if_eq (tgt := 26) hx hb dX4_arc_11 (by decide) (fun c9 => ?_) (fun c9 => ?_)
    · replace hf := if_t c9 hf
      exact L26   un uo hf H locs ls hG (lv_sub hl [0] rfl)
    · replace hf := if_f c9 hf
      refine lv_iload_n hx hb dX4_arc_14 rfl (lv_at hl 1 rfl) ?_
      refine lv_iload_n hx hb dX4_arc_15 rfl (lv_at hl 2 rfl) ?_
      refine lv_icmp_eq (tgt := 26) hx hb dX4_arc_16 (by decide) (fun c10 => ?_) (fun c10 => ?_)
      · replace hf := if_t c10 hf
        exact L26   un uo hf H locs ls hG (lv_sub hl [0] rfl)
      · replace hf := if_f c10 hf
        refine lv_iload_n hx hb dX4_arc_19 rfl (lv_at hl 3 rfl) ?_
        obtain ⟨r11, q12, hf⟩ := cl1_e hf
        refine x_callSi (pre := ([] : va_W)) (wc := ([] : va_W)) (wc1 := ([] : va_W)) (post := WH κ a uh ++ (WR κ a ur ++ (WN κ a un ++ (WS κ a us ++ (WO κ a uo))))) (As := [.int p3]) (rest := []) (w1 := WH κ a uh ++ (WR κ a ur ++ (WN κ a un ++ (WS κ a us ++ (WO κ a uo))))) ⟨hx, hb, hml, hown, hts⟩ hK hG hA (by simp only [List.append_assoc, List.nil_append, List.append_nil]) (by simp only [List.append_assoc, List.nil_append, List.append_nil]) (c_X4_isCost l D κ a H.size p3 r11 q12) (va_cwS 1 hts gX4_arc_X4_isCost rfl rfl rfl (by decide +kernel) ⟨Nat.le_of_ble_eq_true rfl, Nat.le_of_ble_eq_true rfl⟩) rfl hl.1 rfl (Nat.le_of_ble_eq_true rfl) dX4_arc_20 ⟨Nat.zero_le _, Nat.zero_le _⟩ (fun H locs hG => ?_)
        refine lv_if_ne (tgt := 32) hx hb dX4_arc_23 (by decide) (fun c13 => ?_) (fun c13 => ?_)
        · replace hf := if_f c13 hf
          refine lv_aload_n hx hb dX4_arc_32 rfl (lv_at hl 0 rfl) ?_
          refine x_get (C := RX4) (T := TX4) (N := 8) (ci := 4) hx hb hts iX4 hown hK hG 25 rfl rfl 2 (by decide) k25 (v := .ref (a 19)) rfl dX4_arc_33 ?_
          obtain ⟨r14, q15, hf⟩ := cl1_e hf
          refine x_callVi (pre := WH κ a uh ++ (WR κ a ur)) (wc := WN κ a un) (wc1 := WN κ a un) (post := WS κ a us ++ (WO κ a uo)) (As := []) (rest := []) (w1 := WH κ a uh ++ (WR κ a ur ++ (WN κ a un ++ (WS κ a us ++ (WO κ a uo))))) ⟨hx, hb, hml, hown, hts⟩ hK hG hA (by simp only [List.append_assoc, List.nil_append, List.append_nil]) (by simp only [List.append_assoc, List.nil_append, List.append_nil]) (c_X1_firstFree l D κ a H.size un r14 q15) (cwV 0 hts gX4_arc_X1_firstFree rfl rfl rfl (by decide +kernel) ⟨Nat.le_of_ble_eq_true rfl, Nat.le_of_ble_eq_true rfl⟩) 0 1 rfl rfl rfl rfl hl.1 rfl (Nat.le_of_ble_eq_true rfl) dX4_arc_36 ⟨Nat.zero_le _, Nat.zero_le _⟩ (fun H locs hG => ?_)
          refine lv_istore (lv' := [(4, .int r14), (0, .ref (a 25)), (1, .int p1), (2, .int p2), (3, .int p3)]) hx hb dX4_arc_39 hl (by decide) rfl (fun ls hl => ?_)
          refine lv_iload hx hb dX4_arc_41 (lv_at hl 0 rfl) ?_
          refine lv_iconst (v := (-1)) hx hb dX4_arc_43 (by decide) ?_
          refine lv_icmp_ne (tgt := 54) hx hb dX4_arc_44 (by decide) (fun c16 => ?_) (fun c16 => ?_)
          · replace hf := if_f c16 hf
            refine lv_aload_n hx hb dX4_arc_54 rfl (lv_at hl 1 rfl) ?_
            refine x_get (C := RX4) (T := TX4) (N := 8) (ci := 4) hx hb hts iX4 hown hK hG 25 rfl rfl 2 (by decide) k25 (v := .ref (a 19)) rfl dX4_arc_55 ?_
            refine x_get (C := RX1) (T := TX1) (N := 3) (ci := 1) hx hb hts iX1 hown hK hG 19 rfl rfl 0 (by decide) k157 (v := .ref (a 20)) rfl dX4_arc_58 ?_
            refine lv_iload hx hb dX4_arc_61 (lv_at hl 0 rfl) ?_
            refine lv_iload_n hx hb dX4_arc_63 rfl (lv_at hl 2 rfl) ?_
            obtain ⟨un17, eun17, hin, hf⟩ := ck_e hf
            refine x_iast hx hb hK hG 20 rfl (w1 := WH κ a uh ++ (WR κ a ur ++ (WN κ a un17 ++ (WS κ a us ++ (WO κ a uo))))) (by rw [eun17]; rfl) hin dX4_arc_64 (fun H locs hG => ?_)
            refine lv_aload_n hx hb dX4_arc_65 rfl (lv_at hl 1 rfl) ?_
            refine x_get (C := RX4) (T := TX4) (N := 8) (ci := 4) hx hb hts iX4 hown hK hG 25 rfl rfl 2 (by decide) k25 (v := .ref (a 19)) rfl dX4_arc_66 ?_
            refine x_get (C := RX1) (T := TX1) (N := 3) (ci := 1) hx hb hts iX1 hown hK hG 19 rfl rfl 1 (by decide) k160 (v := .ref (a 21)) rfl dX4_arc_69 ?_
            refine lv_iload hx hb dX4_arc_72 (lv_at hl 0 rfl) ?_
            refine lv_iload_n hx hb dX4_arc_74 rfl (lv_at hl 3 rfl) ?_
            obtain ⟨un18, eun18, hin, hf⟩ := ck_e hf
            refine x_iast hx hb hK hG 21 rfl (w1 := WH κ a uh ++ (WR κ a ur ++ (WN κ a un18 ++ (WS κ a us ++ (WO κ a uo))))) (by rw [eun18]; rfl) hin dX4_arc_75 (fun H locs hG => ?_)
            refine lv_aload_n hx hb dX4_arc_76 rfl (lv_at hl 1 rfl) ?_
            refine x_get (C := RX4) (T := TX4) (N := 8) (ci := 4) hx hb hts iX4 hown hK hG 25 rfl rfl 2 (by decide) k25 (v := .ref (a 19)) rfl dX4_arc_77 ?_
            refine x_get (C := RX1) (T := TX1) (N := 3) (ci := 1) hx hb hts iX1 hown hK hG 19 rfl rfl 2 (by decide) k163 (v := .ref (a 22)) rfl dX4_arc_80 ?_
            refine lv_iload hx hb dX4_arc_83 (lv_at hl 0 rfl) ?_
            refine lv_iload_n hx hb dX4_arc_85 rfl (lv_at hl 4 rfl) ?_
            obtain ⟨un19, eun19, hin, hf⟩ := ck_e hf
            refine x_iast hx hb hK hG 22 rfl (w1 := WH κ a uh ++ (WR κ a ur ++ (WN κ a un19 ++ (WS κ a us ++ (WO κ a uo))))) (by rw [eun19]; rfl) hin dX4_arc_86 (fun H locs hG => ?_)
            refine lv_iload hx hb dX4_arc_87 (lv_at hl 0 rfl) ?_
            have hz := Option.some.inj hf
            have z0 := (Prod.mk.inj hz).1
            replace hz := (Prod.mk.inj hz).2
            have z1 := (Prod.mk.inj hz).1
            replace hz := (Prod.mk.inj hz).2
            have z2 := hz
            exact x_iret hx hb hr hlk hK hG z0 (by rw [z1, z2]) dX4_arc_89
          · replace hf := if_t c16 hf
            refine lv_aload_n hx hb dX4_arc_47 rfl (lv_at hl 1 rfl) ?_
            refine lv_bipush (v := (-5)) hx hb dX4_arc_48 (by decide) ?_
            obtain ⟨r20, uo21, q22, hf⟩ := cl2_e hf
            refine x_callVi (pre := ([] : va_W)) (wc := WH κ a uh ++ (WR κ a ur ++ (WN κ a un ++ (WS κ a us ++ (WO κ a uo))))) (wc1 := WH κ a uh ++ (WR κ a ur ++ (WN κ a un ++ (WS κ a us ++ (WO κ a uo21))))) (post := ([] : va_W)) (As := [.int ((-5))]) (rest := []) (w1 := WH κ a uh ++ (WR κ a ur ++ (WN κ a un ++ (WS κ a us ++ (WO κ a uo21))))) ⟨hx, hb, hml, hown, hts⟩ hK hG hA (by simp only [List.append_assoc, List.nil_append, List.append_nil]) (by simp only [List.append_assoc, List.nil_append, List.append_nil]) (c_X4_refuse l D κ a H.size ((-5)) uh ur un us uo r20 uo21 q22) (cwV 1 hts gX4_arc_X4_refuse rfl rfl rfl (by decide +kernel) ⟨Nat.le_of_ble_eq_true rfl, Nat.le_of_ble_eq_true rfl⟩) 25 4 rfl rfl rfl rfl hl.1 rfl (Nat.le_of_ble_eq_true rfl) dX4_arc_50 ⟨Nat.zero_le _, Nat.zero_le _⟩ (fun H locs hG => ?_)
            have hz := Option.some.inj hf
            have z0 := (Prod.mk.inj hz).1
            replace hz := (Prod.mk.inj hz).2
            have z1 := (Prod.mk.inj hz).1
            replace hz := (Prod.mk.inj hz).2
            have z2 := hz
            exact x_iret hx hb hr hlk hK hG z0 (by rw [z1, z2]) dX4_arc_53
        · replace hf := if_t c13 hf
          exact L26   un uo hf H locs ls hG (lv_sub hl [0] rfl)
set_option maxRecDepth 100000 in
set_option maxHeartbeats 4000000 in
theorem c_X4_unarc (l : Launch) (D : va_G) (κ : Nat → ClassId) (a : Nat → Nat) (sz : Nat) (p1 : Int32) (uh : HS) (ur : RS) (un : NS) (us : SS) (uo : OS) (r' : Int32) (un' : NS) (uo' : OS) (hf : f_X4_unarc p1 un uo = some (r', un', uo')) : Met l yX4_unarc wsX4_unarc ({ frames := 1, cells := 0, slots := 0, locals := 22 } : Room) (xPc D κ [.ref (a 25), .int p1] (WH κ a uh ++ (WR κ a ur ++ (WN κ a un ++ (WS κ a us ++ (WO κ a uo))))) sz) (xQi D κ r' (WH κ a uh ++ (WR κ a ur ++ (WN κ a un' ++ (WS κ a us ++ (WO κ a uo'))))) (va_A (WH κ a uh ++ (WR κ a ur ++ (WN κ a un ++ (WS κ a us ++ (WO κ a uo))))) sz)) 0 0 (va_A (WH κ a uh ++ (WR κ a ur ++ (WN κ a un ++ (WS κ a us ++ (WO κ a uo))))) sz) := by
  refine x_ofW (cc := cX4_unarc) (maxL := 2) (ret := (some .int)) (Qf := fun A => xQi D κ r' (WH κ a uh ++ (WR κ a ur ++ (WN κ a un' ++ (WS κ a us ++ (WO κ a uo'))))) A) (by decide) rfl (Nat.le_of_ble_eq_true rfl) ?_
  intro p e s m below meth c hx hb hr hlk hml hown hts hK A hA H locs hG ls hl
  have hown : s.vm.findClass RX4 = some m.cls := hown
  have hl : lv_has ls 2 [(0, .ref (a 25)), (1, .int p1)] := hl
  have iX1 : ∀ w ∈ u_ws RX1 TX1 3, w ∈ wsX4_unarc := fun _ h => List.mem_cons_of_mem _ (List.mem_append_right _ h)
  have iX4 : ∀ w ∈ u_ws RX4 TX4 8, w ∈ wsX4_unarc := fun _ h => List.mem_cons_of_mem _ (List.mem_append_left _ (List.mem_append_right _ h))
  have k157 := hts (.fieldLink RX4 157 "SpineDesks$Net" "from" "[I") (List.mem_of_getElem? (i := 2) rfl)
  have k25 := hts (.fieldLink RX4 25 "SpineDesks" "net" "LSpineDesks$Net;") (List.mem_of_getElem? (i := 1) rfl)
  unfold f_X4_unarc at hf
  refine lv_aload_n hx hb dX4_unarc_0 rfl (lv_at hl 0 rfl) ?_
  refine x_get (C := RX4) (T := TX4) (N := 8) (ci := 4) hx hb hts iX4 hown hK hG 25 rfl rfl 2 (by decide) k25 (v := .ref (a 19)) rfl dX4_unarc_1 ?_
  refine lv_iload_n hx hb dX4_unarc_4 rfl (lv_at hl 1 rfl) ?_
  obtain ⟨r1, q2, hf⟩ := cl1_e hf
  refine x_callVi (pre := WH κ a uh ++ (WR κ a ur)) (wc := WN κ a un) (wc1 := WN κ a un) (post := WS κ a us ++ (WO κ a uo)) (As := [.int p1]) (rest := []) (w1 := WH κ a uh ++ (WR κ a ur ++ (WN κ a un ++ (WS κ a us ++ (WO κ a uo))))) ⟨hx, hb, hml, hown, hts⟩ hK hG hA (by simp only [List.append_assoc, List.nil_append, List.append_nil]) (by simp only [List.append_assoc, List.nil_append, List.append_nil]) (c_X1_isThere l D κ a H.size p1 un r1 q2) (cwV 1 hts gX4_unarc_X1_isThere rfl rfl rfl (by decide +kernel) ⟨Nat.le_of_ble_eq_true rfl, Nat.le_of_ble_eq_true rfl⟩) 0 1 rfl rfl rfl rfl hl.1 rfl (Nat.le_of_ble_eq_true rfl) dX4_unarc_5 ⟨Nat.zero_le _, Nat.zero_le _⟩ (fun H locs hG => ?_)
  refine lv_if_ne (tgt := 18) hx hb dX4_unarc_8 (by decide) (fun c3 => ?_) (fun c3 => ?_)
  · replace hf := if_f c3 hf
    refine lv_aload_n hx hb dX4_unarc_18 rfl (lv_at hl 0 rfl) ?_
    refine x_get (C := RX4) (T := TX4) (N := 8) (ci := 4) hx hb hts iX4 hown hK hG 25 rfl rfl 2 (by decide) k25 (v := .ref (a 19)) rfl dX4_unarc_19 ?_
    refine x_get (C := RX1) (T := TX1) (N := 3) (ci := 1) hx hb hts iX1 hown hK hG 19 rfl rfl 0 (by decide) k157 (v := .ref (a 20)) rfl dX4_unarc_22 ?_
    refine lv_iload_n hx hb dX4_unarc_25 rfl (lv_at hl 1 rfl) ?_
    refine lv_iconst (v := (-1)) hx hb dX4_unarc_26 (by decide) ?_
    obtain ⟨un4, eun4, hin, hf⟩ := ck_e hf
    refine x_iast hx hb hK hG 20 rfl (w1 := WH κ a uh ++ (WR κ a ur ++ (WN κ a un4 ++ (WS κ a us ++ (WO κ a uo))))) (by rw [eun4]; rfl) hin dX4_unarc_27 (fun H locs hG => ?_)
    refine lv_aload_n hx hb dX4_unarc_28 rfl (lv_at hl 0 rfl) ?_
    refine x_get (C := RX4) (T := TX4) (N := 8) (ci := 4) hx hb hts iX4 hown hK hG 25 rfl rfl 2 (by decide) k25 (v := .ref (a 19)) rfl dX4_unarc_29 ?_
    obtain ⟨r5, q6, hf⟩ := cl1_e hf
    refine x_callVi (pre := WH κ a uh ++ (WR κ a ur)) (wc := WN κ a un4) (wc1 := WN κ a un4) (post := WS κ a us ++ (WO κ a uo)) (As := []) (rest := []) (w1 := WH κ a uh ++ (WR κ a ur ++ (WN κ a un4 ++ (WS κ a us ++ (WO κ a uo))))) ⟨hx, hb, hml, hown, hts⟩ hK hG hA (by simp only [List.append_assoc, List.nil_append, List.append_nil]) (by simp only [List.append_assoc, List.nil_append, List.append_nil]) (c_X1_size l D κ a H.size un4 r5 q6) (cwV 0 hts gX4_unarc_X1_size rfl rfl rfl (by decide +kernel) ⟨Nat.le_of_ble_eq_true rfl, Nat.le_of_ble_eq_true rfl⟩) 0 1 rfl rfl rfl rfl hl.1 rfl (Nat.le_of_ble_eq_true rfl) dX4_unarc_32 ⟨Nat.zero_le _, Nat.zero_le _⟩ (fun H locs hG => ?_)
    have hz := Option.some.inj hf
    have z0 := (Prod.mk.inj hz).1
    replace hz := (Prod.mk.inj hz).2
    have z1 := (Prod.mk.inj hz).1
    replace hz := (Prod.mk.inj hz).2
    have z2 := hz
    exact x_iret hx hb hr hlk hK hG z0 (by rw [z1, z2]) dX4_unarc_35
  · replace hf := if_t c3 hf
    refine lv_aload_n hx hb dX4_unarc_11 rfl (lv_at hl 0 rfl) ?_
    refine lv_bipush (v := (-2)) hx hb dX4_unarc_12 (by decide) ?_
    obtain ⟨r7, uo8, q9, hf⟩ := cl2_e hf
    refine x_callVi (pre := ([] : va_W)) (wc := WH κ a uh ++ (WR κ a ur ++ (WN κ a un ++ (WS κ a us ++ (WO κ a uo))))) (wc1 := WH κ a uh ++ (WR κ a ur ++ (WN κ a un ++ (WS κ a us ++ (WO κ a uo8))))) (post := ([] : va_W)) (As := [.int ((-2))]) (rest := []) (w1 := WH κ a uh ++ (WR κ a ur ++ (WN κ a un ++ (WS κ a us ++ (WO κ a uo8))))) ⟨hx, hb, hml, hown, hts⟩ hK hG hA (by simp only [List.append_assoc, List.nil_append, List.append_nil]) (by simp only [List.append_assoc, List.nil_append, List.append_nil]) (c_X4_refuse l D κ a H.size ((-2)) uh ur un us uo r7 uo8 q9) (cwV 1 hts gX4_unarc_X4_refuse rfl rfl rfl (by decide +kernel) ⟨Nat.le_of_ble_eq_true rfl, Nat.le_of_ble_eq_true rfl⟩) 25 4 rfl rfl rfl rfl hl.1 rfl (Nat.le_of_ble_eq_true rfl) dX4_unarc_14 ⟨Nat.zero_le _, Nat.zero_le _⟩ (fun H locs hG => ?_)
    have hz := Option.some.inj hf
    have z0 := (Prod.mk.inj hz).1
    replace hz := (Prod.mk.inj hz).2
    have z1 := (Prod.mk.inj hz).1
    replace hz := (Prod.mk.inj hz).2
    have z2 := hz
    exact x_iret hx hb hr hlk hK hG z0 (by rw [z1, z2]) dX4_unarc_17
set_option maxRecDepth 100000 in
set_option maxHeartbeats 4000000 in
theorem c_X4_price (l : Launch) (D : va_G) (κ : Nat → ClassId) (a : Nat → Nat) (sz : Nat) (p1 : Int32) (p2 : Int32) (uh : HS) (ur : RS) (un : NS) (us : SS) (uo : OS) (r' : Int32) (un' : NS) (uo' : OS) (hf : f_X4_price p1 p2 un uo = some (r', un', uo')) : Met l yX4_price wsX4_price ({ frames := 1, cells := 0, slots := 0, locals := 22 } : Room) (xPc D κ [.ref (a 25), .int p1, .int p2] (WH κ a uh ++ (WR κ a ur ++ (WN κ a un ++ (WS κ a us ++ (WO κ a uo))))) sz) (xQi D κ r' (WH κ a uh ++ (WR κ a ur ++ (WN κ a un' ++ (WS κ a us ++ (WO κ a uo'))))) (va_A (WH κ a uh ++ (WR κ a ur ++ (WN κ a un ++ (WS κ a us ++ (WO κ a uo))))) sz)) 0 0 (va_A (WH κ a uh ++ (WR κ a ur ++ (WN κ a un ++ (WS κ a us ++ (WO κ a uo))))) sz) := by
  refine x_ofW (cc := cX4_price) (maxL := 4) (ret := (some .int)) (Qf := fun A => xQi D κ r' (WH κ a uh ++ (WR κ a ur ++ (WN κ a un' ++ (WS κ a us ++ (WO κ a uo'))))) A) (by decide) rfl (Nat.le_of_ble_eq_true rfl) ?_
  intro p e s m below meth c hx hb hr hlk hml hown hts hK A hA H locs hG ls hl
  have hown : s.vm.findClass RX4 = some m.cls := hown
  have hl : lv_has ls 4 [(0, .ref (a 25)), (1, .int p1), (2, .int p2)] := hl
  have iX1 : ∀ w ∈ u_ws RX1 TX1 3, w ∈ wsX4_price := fun _ h => List.mem_cons_of_mem _ (List.mem_append_right _ h)
  have iX4 : ∀ w ∈ u_ws RX4 TX4 8, w ∈ wsX4_price := fun _ h => List.mem_cons_of_mem _ (List.mem_append_left _ (List.mem_append_right _ h))
  have k163 := hts (.fieldLink RX4 163 "SpineDesks$Net" "cost" "[I") (List.mem_of_getElem? (i := 2) rfl)
  have k25 := hts (.fieldLink RX4 25 "SpineDesks" "net" "LSpineDesks$Net;") (List.mem_of_getElem? (i := 1) rfl)
  unfold f_X4_price at hf
  refine lv_iload_n hx hb dX4_price_0 rfl (lv_at hl 2 rfl) ?_
  obtain ⟨r1, q2, hf⟩ := cl1_e hf
  refine x_callSi (pre := ([] : va_W)) (wc := ([] : va_W)) (wc1 := ([] : va_W)) (post := WH κ a uh ++ (WR κ a ur ++ (WN κ a un ++ (WS κ a us ++ (WO κ a uo))))) (As := [.int p2]) (rest := []) (w1 := WH κ a uh ++ (WR κ a ur ++ (WN κ a un ++ (WS κ a us ++ (WO κ a uo))))) ⟨hx, hb, hml, hown, hts⟩ hK hG hA (by simp only [List.append_assoc, List.nil_append, List.append_nil]) (by simp only [List.append_assoc, List.nil_append, List.append_nil]) (c_X4_isCost l D κ a H.size p2 r1 q2) (va_cwS 1 hts gX4_price_X4_isCost rfl rfl rfl (by decide +kernel) ⟨Nat.le_of_ble_eq_true rfl, Nat.le_of_ble_eq_true rfl⟩) rfl hl.1 rfl (Nat.le_of_ble_eq_true rfl) dX4_price_1 ⟨Nat.zero_le _, Nat.zero_le _⟩ (fun H locs hG => ?_)
  refine lv_if_ne (tgt := 13) hx hb dX4_price_4 (by decide) (fun c3 => ?_) (fun c3 => ?_)
  · replace hf := if_f c3 hf
    refine lv_aload_n hx hb dX4_price_13 rfl (lv_at hl 0 rfl) ?_
    refine x_get (C := RX4) (T := TX4) (N := 8) (ci := 4) hx hb hts iX4 hown hK hG 25 rfl rfl 2 (by decide) k25 (v := .ref (a 19)) rfl dX4_price_14 ?_
    refine lv_iload_n hx hb dX4_price_17 rfl (lv_at hl 1 rfl) ?_
    obtain ⟨r4, q5, hf⟩ := cl1_e hf
    refine x_callVi (pre := WH κ a uh ++ (WR κ a ur)) (wc := WN κ a un) (wc1 := WN κ a un) (post := WS κ a us ++ (WO κ a uo)) (As := [.int p1]) (rest := []) (w1 := WH κ a uh ++ (WR κ a ur ++ (WN κ a un ++ (WS κ a us ++ (WO κ a uo))))) ⟨hx, hb, hml, hown, hts⟩ hK hG hA (by simp only [List.append_assoc, List.nil_append, List.append_nil]) (by simp only [List.append_assoc, List.nil_append, List.append_nil]) (c_X1_isThere l D κ a H.size p1 un r4 q5) (cwV 1 hts gX4_price_X1_isThere rfl rfl rfl (by decide +kernel) ⟨Nat.le_of_ble_eq_true rfl, Nat.le_of_ble_eq_true rfl⟩) 0 1 rfl rfl rfl rfl hl.1 rfl (Nat.le_of_ble_eq_true rfl) dX4_price_18 ⟨Nat.zero_le _, Nat.zero_le _⟩ (fun H locs hG => ?_)
    refine lv_if_ne (tgt := 31) hx hb dX4_price_21 (by decide) (fun c6 => ?_) (fun c6 => ?_)
    · replace hf := if_f c6 hf
      refine lv_aload_n hx hb dX4_price_31 rfl (lv_at hl 0 rfl) ?_
      refine x_get (C := RX4) (T := TX4) (N := 8) (ci := 4) hx hb hts iX4 hown hK hG 25 rfl rfl 2 (by decide) k25 (v := .ref (a 19)) rfl dX4_price_32 ?_
      refine x_get (C := RX1) (T := TX1) (N := 3) (ci := 1) hx hb hts iX1 hown hK hG 19 rfl rfl 2 (by decide) k163 (v := .ref (a 22)) rfl dX4_price_35 ?_
      refine lv_iload_n hx hb dX4_price_38 rfl (lv_at hl 1 rfl) ?_
      obtain ⟨v7, ev7, hin, hf⟩ := ck_e hf
      refine x_iald hx hb hK hG 22 rfl ev7 hin dX4_price_39 ?_
      refine lv_istore_n (lv' := [(3, .int v7), (0, .ref (a 25)), (1, .int p1), (2, .int p2)]) hx hb dX4_price_40 rfl hl (by decide) rfl (fun ls hl => ?_)
      refine lv_iload_n hx hb dX4_price_41 rfl (lv_at hl 0 rfl) ?_
      refine lv_iload_n hx hb dX4_price_42 rfl (lv_at hl 3 rfl) ?_
      refine lv_icmp_ne (tgt := 53) hx hb dX4_price_43 (by decide) (fun c8 => ?_) (fun c8 => ?_)
      · replace hf := if_f c8 hf
        refine lv_aload_n hx hb dX4_price_53 rfl (lv_at hl 1 rfl) ?_
        refine x_get (C := RX4) (T := TX4) (N := 8) (ci := 4) hx hb hts iX4 hown hK hG 25 rfl rfl 2 (by decide) k25 (v := .ref (a 19)) rfl dX4_price_54 ?_
        refine x_get (C := RX1) (T := TX1) (N := 3) (ci := 1) hx hb hts iX1 hown hK hG 19 rfl rfl 2 (by decide) k163 (v := .ref (a 22)) rfl dX4_price_57 ?_
        refine lv_iload_n hx hb dX4_price_60 rfl (lv_at hl 2 rfl) ?_
        refine lv_iload_n hx hb dX4_price_61 rfl (lv_at hl 3 rfl) ?_
        obtain ⟨un9, eun9, hin, hf⟩ := ck_e hf
        refine x_iast hx hb hK hG 22 rfl (w1 := WH κ a uh ++ (WR κ a ur ++ (WN κ a un9 ++ (WS κ a us ++ (WO κ a uo))))) (by rw [eun9]; rfl) hin dX4_price_62 (fun H locs hG => ?_)
        refine lv_iload_n hx hb dX4_price_63 rfl (lv_at hl 0 rfl) ?_
        have hz := Option.some.inj hf
        have z0 := (Prod.mk.inj hz).1
        replace hz := (Prod.mk.inj hz).2
        have z1 := (Prod.mk.inj hz).1
        replace hz := (Prod.mk.inj hz).2
        have z2 := hz
        exact x_iret hx hb hr hlk hK hG z0 (by rw [z1, z2]) dX4_price_64
      · replace hf := if_t c8 hf
        refine lv_aload_n hx hb dX4_price_46 rfl (lv_at hl 1 rfl) ?_
        refine lv_bipush (v := (-4)) hx hb dX4_price_47 (by decide) ?_
        obtain ⟨r10, uo11, q12, hf⟩ := cl2_e hf
        refine x_callVi (pre := ([] : va_W)) (wc := WH κ a uh ++ (WR κ a ur ++ (WN κ a un ++ (WS κ a us ++ (WO κ a uo))))) (wc1 := WH κ a uh ++ (WR κ a ur ++ (WN κ a un ++ (WS κ a us ++ (WO κ a uo11))))) (post := ([] : va_W)) (As := [.int ((-4))]) (rest := []) (w1 := WH κ a uh ++ (WR κ a ur ++ (WN κ a un ++ (WS κ a us ++ (WO κ a uo11))))) ⟨hx, hb, hml, hown, hts⟩ hK hG hA (by simp only [List.append_assoc, List.nil_append, List.append_nil]) (by simp only [List.append_assoc, List.nil_append, List.append_nil]) (c_X4_refuse l D κ a H.size ((-4)) uh ur un us uo r10 uo11 q12) (cwV 1 hts gX4_price_X4_refuse rfl rfl rfl (by decide +kernel) ⟨Nat.le_of_ble_eq_true rfl, Nat.le_of_ble_eq_true rfl⟩) 25 4 rfl rfl rfl rfl hl.1 rfl (Nat.le_of_ble_eq_true rfl) dX4_price_49 ⟨Nat.zero_le _, Nat.zero_le _⟩ (fun H locs hG => ?_)
        have hz := Option.some.inj hf
        have z0 := (Prod.mk.inj hz).1
        replace hz := (Prod.mk.inj hz).2
        have z1 := (Prod.mk.inj hz).1
        replace hz := (Prod.mk.inj hz).2
        have z2 := hz
        exact x_iret hx hb hr hlk hK hG z0 (by rw [z1, z2]) dX4_price_52
    · replace hf := if_t c6 hf
      refine lv_aload_n hx hb dX4_price_24 rfl (lv_at hl 0 rfl) ?_
      refine lv_bipush (v := (-2)) hx hb dX4_price_25 (by decide) ?_
      obtain ⟨r13, uo14, q15, hf⟩ := cl2_e hf
      refine x_callVi (pre := ([] : va_W)) (wc := WH κ a uh ++ (WR κ a ur ++ (WN κ a un ++ (WS κ a us ++ (WO κ a uo))))) (wc1 := WH κ a uh ++ (WR κ a ur ++ (WN κ a un ++ (WS κ a us ++ (WO κ a uo14))))) (post := ([] : va_W)) (As := [.int ((-2))]) (rest := []) (w1 := WH κ a uh ++ (WR κ a ur ++ (WN κ a un ++ (WS κ a us ++ (WO κ a uo14))))) ⟨hx, hb, hml, hown, hts⟩ hK hG hA (by simp only [List.append_assoc, List.nil_append, List.append_nil]) (by simp only [List.append_assoc, List.nil_append, List.append_nil]) (c_X4_refuse l D κ a H.size ((-2)) uh ur un us uo r13 uo14 q15) (cwV 1 hts gX4_price_X4_refuse rfl rfl rfl (by decide +kernel) ⟨Nat.le_of_ble_eq_true rfl, Nat.le_of_ble_eq_true rfl⟩) 25 4 rfl rfl rfl rfl hl.1 rfl (Nat.le_of_ble_eq_true rfl) dX4_price_27 ⟨Nat.zero_le _, Nat.zero_le _⟩ (fun H locs hG => ?_)
      have hz := Option.some.inj hf
      have z0 := (Prod.mk.inj hz).1
      replace hz := (Prod.mk.inj hz).2
      have z1 := (Prod.mk.inj hz).1
      replace hz := (Prod.mk.inj hz).2
      have z2 := hz
      exact x_iret hx hb hr hlk hK hG z0 (by rw [z1, z2]) dX4_price_30
  · replace hf := if_t c3 hf
    refine lv_aload_n hx hb dX4_price_7 rfl (lv_at hl 0 rfl) ?_
    refine lv_iconst (v := (-1)) hx hb dX4_price_8 (by decide) ?_
    obtain ⟨r16, uo17, q18, hf⟩ := cl2_e hf
    refine x_callVi (pre := ([] : va_W)) (wc := WH κ a uh ++ (WR κ a ur ++ (WN κ a un ++ (WS κ a us ++ (WO κ a uo))))) (wc1 := WH κ a uh ++ (WR κ a ur ++ (WN κ a un ++ (WS κ a us ++ (WO κ a uo17))))) (post := ([] : va_W)) (As := [.int ((-1))]) (rest := []) (w1 := WH κ a uh ++ (WR κ a ur ++ (WN κ a un ++ (WS κ a us ++ (WO κ a uo17))))) ⟨hx, hb, hml, hown, hts⟩ hK hG hA (by simp only [List.append_assoc, List.nil_append, List.append_nil]) (by simp only [List.append_assoc, List.nil_append, List.append_nil]) (c_X4_refuse l D κ a H.size ((-1)) uh ur un us uo r16 uo17 q18) (cwV 1 hts gX4_price_X4_refuse rfl rfl rfl (by decide +kernel) ⟨Nat.le_of_ble_eq_true rfl, Nat.le_of_ble_eq_true rfl⟩) 25 4 rfl rfl rfl rfl hl.1 rfl (Nat.le_of_ble_eq_true rfl) dX4_price_9 ⟨Nat.zero_le _, Nat.zero_le _⟩ (fun H locs hG => ?_)
    have hz := Option.some.inj hf
    have z0 := (Prod.mk.inj hz).1
    replace hz := (Prod.mk.inj hz).2
    have z1 := (Prod.mk.inj hz).1
    replace hz := (Prod.mk.inj hz).2
    have z2 := hz
    exact x_iret hx hb hr hlk hK hG z0 (by rw [z1, z2]) dX4_price_12
set_option maxRecDepth 100000 in
set_option maxHeartbeats 4000000 in
theorem c_X4_desk (l : Launch) (D : va_G) (κ : Nat → ClassId) (a : Nat → Nat) (sz : Nat) (p1 : Int32) (p2 : Int32) (uh : HS) (ur : RS) (un : NS) (us : SS) (uo : OS) (r' : Int32) (ur' : RS) (hf : f_X4_desk p1 p2 uh ur uo = some (r', ur')) : Met l yX4_desk wsX4_desk ({ frames := 2, cells := 0, slots := 0, locals := 51 } : Room) (xPc D κ [.ref (a 25), .int p1, .int p2] (WH κ a uh ++ (WR κ a ur ++ (WN κ a un ++ (WS κ a us ++ (WO κ a uo))))) sz) (xQi D κ r' (WH κ a uh ++ (WR κ a ur' ++ (WN κ a un ++ (WS κ a us ++ (WO κ a uo))))) (va_A (WH κ a uh ++ (WR κ a ur ++ (WN κ a un ++ (WS κ a us ++ (WO κ a uo))))) sz)) 0 0 (va_A (WH κ a uh ++ (WR κ a ur ++ (WN κ a un ++ (WS κ a us ++ (WO κ a uo))))) sz) := by
  refine x_ofW (cc := cX4_desk) (maxL := 3) (ret := (some .int)) (Qf := fun A => xQi D κ r' (WH κ a uh ++ (WR κ a ur' ++ (WN κ a un ++ (WS κ a us ++ (WO κ a uo))))) A) (by decide) rfl (Nat.le_of_ble_eq_true rfl) ?_
  intro p e s m below meth c hx hb hr hlk hml hown hts hK A hA H locs hG ls hl
  have hown : s.vm.findClass RX4 = some m.cls := hown
  have hl : lv_has ls 3 [(0, .ref (a 25)), (1, .int p1), (2, .int p2)] := hl
  have iX0 : ∀ w ∈ u_ws RX0 TX0 17, w ∈ wsX4_desk := fun _ h => List.mem_cons_of_mem _ (List.mem_append_left _ (List.mem_append_right _ h))
  have iX4 : ∀ w ∈ u_ws RX4 TX4 8, w ∈ wsX4_desk := fun _ h => List.mem_cons_of_mem _ (List.mem_append_left _ (List.mem_append_left _ (List.mem_append_right _ h)))
  have k12 := hts (.fieldLink RX4 12 "SpineDesks" "hall" "LSpineDesks$Hall;") (List.mem_of_getElem? (i := 1) rfl)
  have k42 := hts (.fieldLink RX4 42 "SpineDesks" "rows" "LSpineDesks$Rows;") (List.mem_of_getElem? (i := 3) rfl)
  have k84 := hts (.fieldLink RX4 84 "SpineDesks$Hall" "root" "[I") (List.mem_of_getElem? (i := 2) rfl)
  unfold f_X4_desk at hf
  refine lv_iload_n hx hb dX4_desk_0 rfl (lv_at hl 1 rfl) ?_
  obtain ⟨r1, q2, hf⟩ := cl1_e hf
  refine x_callSi (pre := ([] : va_W)) (wc := ([] : va_W)) (wc1 := ([] : va_W)) (post := WH κ a uh ++ (WR κ a ur ++ (WN κ a un ++ (WS κ a us ++ (WO κ a uo))))) (As := [.int p1]) (rest := []) (w1 := WH κ a uh ++ (WR κ a ur ++ (WN κ a un ++ (WS κ a us ++ (WO κ a uo))))) ⟨hx, hb, hml, hown, hts⟩ hK hG hA (by simp only [List.append_assoc, List.nil_append, List.append_nil]) (by simp only [List.append_assoc, List.nil_append, List.append_nil]) (c_X4_isDesk l D κ a H.size p1 r1 q2) (va_cwS 1 hts gX4_desk_X4_isDesk rfl rfl rfl (by decide +kernel) ⟨Nat.le_of_ble_eq_true rfl, Nat.le_of_ble_eq_true rfl⟩) rfl hl.1 rfl (Nat.le_of_ble_eq_true rfl) dX4_desk_1 ⟨Nat.zero_le _, Nat.zero_le _⟩ (fun H locs hG => ?_)
  refine lv_if_ne (tgt := 9) hx hb dX4_desk_4 (by decide) (fun c3 => ?_) (fun c3 => ?_)
  · replace hf := if_f c3 hf
    refine lv_iload_n hx hb dX4_desk_9 rfl (lv_at hl 2 rfl) ?_
    by_cases c4 : p2 = 0
    · replace hf := if_t c4 hf
      refine lv_tableIn (tgt := 60) (off := 50) hx hb dX4_desk_10 (by rw [c4]; decide) (by rw [c4]; decide) (by rw [c4]; rfl) (by decide) ?_
      refine lv_aload_n hx hb dX4_desk_60 rfl (lv_at hl 0 rfl) ?_
      refine x_get (C := RX4) (T := TX4) (N := 8) (ci := 4) hx hb hts iX4 hown hK hG 25 rfl rfl 0 (by decide) k12 (v := .ref (a 0)) rfl dX4_desk_61 ?_
      refine x_get (C := RX0) (T := TX0) (N := 17) (ci := 0) hx hb hts iX0 hown hK hG 0 rfl rfl 5 (by decide) k84 (v := .ref (a 1)) rfl dX4_desk_64 ?_
      refine lv_iload_n hx hb dX4_desk_67 rfl (lv_at hl 1 rfl) ?_
      obtain ⟨v5, ev5, hin, hf⟩ := ck_e hf
      refine x_iald hx hb hK hG 1 rfl ev5 hin dX4_desk_68 ?_
      have hz := Option.some.inj hf
      have z0 := (Prod.mk.inj hz).1
      replace hz := (Prod.mk.inj hz).2
      have z1 := hz
      exact x_iret hx hb hr hlk hK hG z0 (by rw [z1]) dX4_desk_69
    replace hf := if_f c4 hf
    by_cases c6 : p2 = 1
    · replace hf := if_t c6 hf
      refine lv_tableIn (tgt := 70) (off := 60) hx hb dX4_desk_10 (by rw [c6]; decide) (by rw [c6]; decide) (by rw [c6]; rfl) (by decide) ?_
      refine lv_aload_n hx hb dX4_desk_70 rfl (lv_at hl 0 rfl) ?_
      refine x_get (C := RX4) (T := TX4) (N := 8) (ci := 4) hx hb hts iX4 hown hK hG 25 rfl rfl 0 (by decide) k12 (v := .ref (a 0)) rfl dX4_desk_71 ?_
      refine lv_iload_n hx hb dX4_desk_74 rfl (lv_at hl 1 rfl) ?_
      obtain ⟨r7, q8, hf⟩ := cl1_e hf
      refine x_callVi (pre := ([] : va_W)) (wc := WH κ a uh) (wc1 := WH κ a uh) (post := WR κ a ur ++ (WN κ a un ++ (WS κ a us ++ (WO κ a uo)))) (As := [.int p1]) (rest := []) (w1 := WH κ a uh ++ (WR κ a ur ++ (WN κ a un ++ (WS κ a us ++ (WO κ a uo))))) ⟨hx, hb, hml, hown, hts⟩ hK hG hA (by simp only [List.append_assoc, List.nil_append, List.append_nil]) (by simp only [List.append_assoc, List.nil_append, List.append_nil]) (c_X0_plainIn l D κ a H.size p1 uh r7 q8) (cwV 1 hts gX4_desk_X0_plainIn rfl rfl rfl (by decide +kernel) ⟨Nat.le_of_ble_eq_true rfl, Nat.le_of_ble_eq_true rfl⟩) 0 0 rfl rfl rfl rfl hl.1 rfl (Nat.le_of_ble_eq_true rfl) dX4_desk_75 ⟨Nat.zero_le _, Nat.zero_le _⟩ (fun H locs hG => ?_)
      have hz := Option.some.inj hf
      have z0 := (Prod.mk.inj hz).1
      replace hz := (Prod.mk.inj hz).2
      have z1 := hz
      exact x_iret hx hb hr hlk hK hG z0 (by rw [z1]) dX4_desk_78
    replace hf := if_f c6 hf
    by_cases c9 : p2 = 2
    · replace hf := if_t c9 hf
      refine lv_tableIn (tgt := 79) (off := 69) hx hb dX4_desk_10 (by rw [c9]; decide) (by rw [c9]; decide) (by rw [c9]; rfl) (by decide) ?_
      refine lv_aload_n hx hb dX4_desk_79 rfl (lv_at hl 0 rfl) ?_
      refine x_get (C := RX4) (T := TX4) (N := 8) (ci := 4) hx hb hts iX4 hown hK hG 25 rfl rfl 0 (by decide) k12 (v := .ref (a 0)) rfl dX4_desk_80 ?_
      refine lv_iload_n hx hb dX4_desk_83 rfl (lv_at hl 1 rfl) ?_
      obtain ⟨r10, q11, hf⟩ := cl1_e hf
      refine x_callVi (pre := ([] : va_W)) (wc := WH κ a uh) (wc1 := WH κ a uh) (post := WR κ a ur ++ (WN κ a un ++ (WS κ a us ++ (WO κ a uo)))) (As := [.int p1]) (rest := []) (w1 := WH κ a uh ++ (WR κ a ur ++ (WN κ a un ++ (WS κ a us ++ (WO κ a uo))))) ⟨hx, hb, hml, hown, hts⟩ hK hG hA (by simp only [List.append_assoc, List.nil_append, List.append_nil]) (by simp only [List.append_assoc, List.nil_append, List.append_nil]) (c_X0_allIn l D κ a H.size p1 uh r10 q11) (cwV 1 hts gX4_desk_X0_allIn rfl rfl rfl (by decide +kernel) ⟨Nat.le_of_ble_eq_true rfl, Nat.le_of_ble_eq_true rfl⟩) 0 0 rfl rfl rfl rfl hl.1 rfl (Nat.le_of_ble_eq_true rfl) dX4_desk_84 ⟨Nat.zero_le _, Nat.zero_le _⟩ (fun H locs hG => ?_)
      refine lv_aload_n hx hb dX4_desk_87 rfl (lv_at hl 0 rfl) ?_
      refine x_get (C := RX4) (T := TX4) (N := 8) (ci := 4) hx hb hts iX4 hown hK hG 25 rfl rfl 0 (by decide) k12 (v := .ref (a 0)) rfl dX4_desk_88 ?_
      refine lv_iload_n hx hb dX4_desk_91 rfl (lv_at hl 1 rfl) ?_
      obtain ⟨r12, q13, hf⟩ := cl1_e hf
      refine x_callVi (pre := ([] : va_W)) (wc := WH κ a uh) (wc1 := WH κ a uh) (post := WR κ a ur ++ (WN κ a un ++ (WS κ a us ++ (WO κ a uo)))) (As := [.int p1]) (rest := [.int r10]) (w1 := WH κ a uh ++ (WR κ a ur ++ (WN κ a un ++ (WS κ a us ++ (WO κ a uo))))) ⟨hx, hb, hml, hown, hts⟩ hK hG hA (by simp only [List.append_assoc, List.nil_append, List.append_nil]) (by simp only [List.append_assoc, List.nil_append, List.append_nil]) (c_X0_plainIn l D κ a H.size p1 uh r12 q13) (cwV 1 hts gX4_desk_X0_plainIn rfl rfl rfl (by decide +kernel) ⟨Nat.le_of_ble_eq_true rfl, Nat.le_of_ble_eq_true rfl⟩) 0 0 rfl rfl rfl rfl hl.1 rfl (Nat.le_of_ble_eq_true rfl) dX4_desk_92 ⟨Nat.zero_le _, Nat.zero_le _⟩ (fun H locs hG => ?_)
      refine lv_isub hx hb dX4_desk_95 ?_
      have hz := Option.some.inj hf
      have z0 := (Prod.mk.inj hz).1
      replace hz := (Prod.mk.inj hz).2
      have z1 := hz
      exact x_iret hx hb hr hlk hK hG z0 (by rw [z1]) dX4_desk_96
    replace hf := if_f c9 hf
    by_cases c14 : p2 = 3
    · replace hf := if_t c14 hf
      refine lv_tableIn (tgt := 97) (off := 87) hx hb dX4_desk_10 (by rw [c14]; decide) (by rw [c14]; decide) (by rw [c14]; rfl) (by decide) ?_
      refine lv_aload_n hx hb dX4_desk_97 rfl (lv_at hl 0 rfl) ?_
      refine x_get (C := RX4) (T := TX4) (N := 8) (ci := 4) hx hb hts iX4 hown hK hG 25 rfl rfl 0 (by decide) k12 (v := .ref (a 0)) rfl dX4_desk_98 ?_
      refine lv_aload_n hx hb dX4_desk_101 rfl (lv_at hl 0 rfl) ?_
      refine x_get (C := RX4) (T := TX4) (N := 8) (ci := 4) hx hb hts iX4 hown hK hG 25 rfl rfl 0 (by decide) k12 (v := .ref (a 0)) rfl dX4_desk_102 ?_
      refine x_get (C := RX0) (T := TX0) (N := 17) (ci := 0) hx hb hts iX0 hown hK hG 0 rfl rfl 5 (by decide) k84 (v := .ref (a 1)) rfl dX4_desk_105 ?_
      refine lv_iload_n hx hb dX4_desk_108 rfl (lv_at hl 1 rfl) ?_
      obtain ⟨v15, ev15, hin, hf⟩ := ck_e hf
      refine x_iald hx hb hK hG 1 rfl ev15 hin dX4_desk_109 ?_
      obtain ⟨r16, q17, hf⟩ := cl1_e hf
      refine x_callVi (pre := ([] : va_W)) (wc := WH κ a uh) (wc1 := WH κ a uh) (post := WR κ a ur ++ (WN κ a un ++ (WS κ a us ++ (WO κ a uo)))) (As := [.int v15]) (rest := []) (w1 := WH κ a uh ++ (WR κ a ur ++ (WN κ a un ++ (WS κ a us ++ (WO κ a uo))))) ⟨hx, hb, hml, hown, hts⟩ hK hG hA (by simp only [List.append_assoc, List.nil_append, List.append_nil]) (by simp only [List.append_assoc, List.nil_append, List.append_nil]) (c_X0_rankOf l D κ a H.size v15 uh r16 q17) (cwV 1 hts gX4_desk_X0_rankOf rfl rfl rfl (by decide +kernel) ⟨Nat.le_of_ble_eq_true rfl, Nat.le_of_ble_eq_true rfl⟩) 0 0 rfl rfl rfl rfl hl.1 rfl (Nat.le_of_ble_eq_true rfl) dX4_desk_110 ⟨Nat.zero_le _, Nat.zero_le _⟩ (fun H locs hG => ?_)
      have hz := Option.some.inj hf
      have z0 := (Prod.mk.inj hz).1
      replace hz := (Prod.mk.inj hz).2
      have z1 := hz
      exact x_iret hx hb hr hlk hK hG z0 (by rw [z1]) dX4_desk_113
    replace hf := if_f c14 hf
    by_cases c18 : p2 = 4
    · replace hf := if_t c18 hf
      refine lv_tableIn (tgt := 114) (off := 104) hx hb dX4_desk_10 (by rw [c18]; decide) (by rw [c18]; decide) (by rw [c18]; rfl) (by decide) ?_
      refine lv_aload_n hx hb dX4_desk_114 rfl (lv_at hl 0 rfl) ?_
      refine x_get (C := RX4) (T := TX4) (N := 8) (ci := 4) hx hb hts iX4 hown hK hG 25 rfl rfl 5 (by decide) k42 (v := .ref (a 13)) rfl dX4_desk_115 ?_
      refine lv_iload_n hx hb dX4_desk_118 rfl (lv_at hl 1 rfl) ?_
      obtain ⟨r19, ur20, q21, hf⟩ := cl2_e hf
      refine x_callVi (pre := ([] : va_W)) (wc := WH κ a uh ++ (WR κ a ur)) (wc1 := WH κ a uh ++ (WR κ a ur20)) (post := WN κ a un ++ (WS κ a us ++ (WO κ a uo))) (As := [.int p1]) (rest := []) (w1 := WH κ a uh ++ (WR κ a ur20 ++ (WN κ a un ++ (WS κ a us ++ (WO κ a uo))))) ⟨hx, hb, hml, hown, hts⟩ hK hG hA (by simp only [List.append_assoc, List.nil_append, List.append_nil]) (by simp only [List.append_assoc, List.nil_append, List.append_nil]) (c_X2_height l D κ a H.size p1 uh ur r19 ur20 q21) (cwV 1 hts gX4_desk_X2_height rfl rfl rfl (by decide +kernel) ⟨Nat.le_of_ble_eq_true rfl, Nat.le_of_ble_eq_true rfl⟩) 13 2 rfl rfl rfl rfl hl.1 rfl (Nat.le_of_ble_eq_true rfl) dX4_desk_119 ⟨Nat.zero_le _, Nat.zero_le _⟩ (fun H locs hG => ?_)
      have hz := Option.some.inj hf
      have z0 := (Prod.mk.inj hz).1
      replace hz := (Prod.mk.inj hz).2
      have z1 := hz
      exact x_iret hx hb hr hlk hK hG z0 (by rw [z1]) dX4_desk_122
    replace hf := if_f c18 hf
    by_cases c22 : p2 = 5
    · replace hf := if_t c22 hf
      refine lv_tableIn (tgt := 123) (off := 113) hx hb dX4_desk_10 (by rw [c22]; decide) (by rw [c22]; decide) (by rw [c22]; rfl) (by decide) ?_
      refine lv_aload_n hx hb dX4_desk_123 rfl (lv_at hl 0 rfl) ?_
      refine x_get (C := RX4) (T := TX4) (N := 8) (ci := 4) hx hb hts iX4 hown hK hG 25 rfl rfl 5 (by decide) k42 (v := .ref (a 13)) rfl dX4_desk_124 ?_
      refine lv_iload_n hx hb dX4_desk_127 rfl (lv_at hl 1 rfl) ?_
      obtain ⟨r23, q24, hf⟩ := cl1_e hf
      refine x_callVi (pre := ([] : va_W)) (wc := WH κ a uh ++ (WR κ a ur)) (wc1 := WH κ a uh ++ (WR κ a ur)) (post := WN κ a un ++ (WS κ a us ++ (WO κ a uo))) (As := [.int p1]) (rest := []) (w1 := WH κ a uh ++ (WR κ a ur ++ (WN κ a un ++ (WS κ a us ++ (WO κ a uo))))) ⟨hx, hb, hml, hown, hts⟩ hK hG hA (by simp only [List.append_assoc, List.nil_append, List.append_nil]) (by simp only [List.append_assoc, List.nil_append, List.append_nil]) (c_X2_rightSpine l D κ a H.size p1 uh ur r23 q24) (cwV 1 hts gX4_desk_X2_rightSpine rfl rfl rfl (by decide +kernel) ⟨Nat.le_of_ble_eq_true rfl, Nat.le_of_ble_eq_true rfl⟩) 13 2 rfl rfl rfl rfl hl.1 rfl (Nat.le_of_ble_eq_true rfl) dX4_desk_128 ⟨Nat.zero_le _, Nat.zero_le _⟩ (fun H locs hG => ?_)
      have hz := Option.some.inj hf
      have z0 := (Prod.mk.inj hz).1
      replace hz := (Prod.mk.inj hz).2
      have z1 := hz
      exact x_iret hx hb hr hlk hK hG z0 (by rw [z1]) dX4_desk_131
    replace hf := if_f c22 hf
    by_cases c25 : p2 = 6
    · replace hf := if_t c25 hf
      refine lv_tableIn (tgt := 132) (off := 122) hx hb dX4_desk_10 (by rw [c25]; decide) (by rw [c25]; decide) (by rw [c25]; rfl) (by decide) ?_
      refine lv_aload_n hx hb dX4_desk_132 rfl (lv_at hl 0 rfl) ?_
      refine x_get (C := RX4) (T := TX4) (N := 8) (ci := 4) hx hb hts iX4 hown hK hG 25 rfl rfl 5 (by decide) k42 (v := .ref (a 13)) rfl dX4_desk_133 ?_
      refine lv_iload_n hx hb dX4_desk_136 rfl (lv_at hl 1 rfl) ?_
      obtain ⟨r26, q27, hf⟩ := cl1_e hf
      refine x_callVi (pre := ([] : va_W)) (wc := WH κ a uh ++ (WR κ a ur)) (wc1 := WH κ a uh ++ (WR κ a ur)) (post := WN κ a un ++ (WS κ a us ++ (WO κ a uo))) (As := [.int p1]) (rest := []) (w1 := WH κ a uh ++ (WR κ a ur ++ (WN κ a un ++ (WS κ a us ++ (WO κ a uo))))) ⟨hx, hb, hml, hown, hts⟩ hK hG hA (by simp only [List.append_assoc, List.nil_append, List.append_nil]) (by simp only [List.append_assoc, List.nil_append, List.append_nil]) (c_X2_balanced l D κ a H.size p1 uh ur r26 q27) (cwV 1 hts gX4_desk_X2_balanced rfl rfl rfl (by decide +kernel) ⟨Nat.le_of_ble_eq_true rfl, Nat.le_of_ble_eq_true rfl⟩) 13 2 rfl rfl rfl rfl hl.1 rfl (Nat.le_of_ble_eq_true rfl) dX4_desk_137 ⟨Nat.zero_le _, Nat.zero_le _⟩ (fun H locs hG => ?_)
      have hz := Option.some.inj hf
      have z0 := (Prod.mk.inj hz).1
      replace hz := (Prod.mk.inj hz).2
      have z1 := hz
      exact x_iret hx hb hr hlk hK hG z0 (by rw [z1]) dX4_desk_140
    replace hf := if_f c25 hf
    by_cases c28 : p2 = 7
    · replace hf := if_t c28 hf
      refine lv_tableIn (tgt := 141) (off := 131) hx hb dX4_desk_10 (by rw [c28]; decide) (by rw [c28]; decide) (by rw [c28]; rfl) (by decide) ?_
      refine lv_aload_n hx hb dX4_desk_141 rfl (lv_at hl 0 rfl) ?_
      refine x_get (C := RX4) (T := TX4) (N := 8) (ci := 4) hx hb hts iX4 hown hK hG 25 rfl rfl 5 (by decide) k42 (v := .ref (a 13)) rfl dX4_desk_142 ?_
      refine lv_iload_n hx hb dX4_desk_145 rfl (lv_at hl 1 rfl) ?_
      obtain ⟨r29, q30, hf⟩ := cl1_e hf
      refine x_callVi (pre := ([] : va_W)) (wc := WH κ a uh ++ (WR κ a ur)) (wc1 := WH κ a uh ++ (WR κ a ur)) (post := WN κ a un ++ (WS κ a us ++ (WO κ a uo))) (As := [.int p1]) (rest := []) (w1 := WH κ a uh ++ (WR κ a ur ++ (WN κ a un ++ (WS κ a us ++ (WO κ a uo))))) ⟨hx, hb, hml, hown, hts⟩ hK hG hA (by simp only [List.append_assoc, List.nil_append, List.append_nil]) (by simp only [List.append_assoc, List.nil_append, List.append_nil]) (c_X2_leaves l D κ a H.size p1 uh ur r29 q30) (cwV 1 hts gX4_desk_X2_leaves rfl rfl rfl (by decide +kernel) ⟨Nat.le_of_ble_eq_true rfl, Nat.le_of_ble_eq_true rfl⟩) 13 2 rfl rfl rfl rfl hl.1 rfl (Nat.le_of_ble_eq_true rfl) dX4_desk_146 ⟨Nat.zero_le _, Nat.zero_le _⟩ (fun H locs hG => ?_)
      have hz := Option.some.inj hf
      have z0 := (Prod.mk.inj hz).1
      replace hz := (Prod.mk.inj hz).2
      have z1 := hz
      exact x_iret hx hb hr hlk hK hG z0 (by rw [z1]) dX4_desk_149
    replace hf := if_f c28 hf
    by_cases c31 : p2 = 8
    · replace hf := if_t c31 hf
      refine lv_tableIn (tgt := 150) (off := 140) hx hb dX4_desk_10 (by rw [c31]; decide) (by rw [c31]; decide) (by rw [c31]; rfl) (by decide) ?_
      refine lv_aload_n hx hb dX4_desk_150 rfl (lv_at hl 0 rfl) ?_
      refine x_get (C := RX4) (T := TX4) (N := 8) (ci := 4) hx hb hts iX4 hown hK hG 25 rfl rfl 5 (by decide) k42 (v := .ref (a 13)) rfl dX4_desk_151 ?_
      refine lv_iload_n hx hb dX4_desk_154 rfl (lv_at hl 1 rfl) ?_
      obtain ⟨r32, ur33, q34, hf⟩ := cl2_e hf
      refine x_callVi (pre := ([] : va_W)) (wc := WH κ a uh ++ (WR κ a ur)) (wc1 := WH κ a uh ++ (WR κ a ur33)) (post := WN κ a un ++ (WS κ a us ++ (WO κ a uo))) (As := [.int p1]) (rest := []) (w1 := WH κ a uh ++ (WR κ a ur33 ++ (WN κ a un ++ (WS κ a us ++ (WO κ a uo))))) ⟨hx, hb, hml, hown, hts⟩ hK hG hA (by simp only [List.append_assoc, List.nil_append, List.append_nil]) (by simp only [List.append_assoc, List.nil_append, List.append_nil]) (c_X2_rightHeavy l D κ a H.size p1 uh ur r32 ur33 q34) (cwV 1 hts gX4_desk_X2_rightHeavy rfl rfl rfl (by decide +kernel) ⟨Nat.le_of_ble_eq_true rfl, Nat.le_of_ble_eq_true rfl⟩) 13 2 rfl rfl rfl rfl hl.1 rfl (Nat.le_of_ble_eq_true rfl) dX4_desk_155 ⟨Nat.zero_le _, Nat.zero_le _⟩ (fun H locs hG => ?_)
      have hz := Option.some.inj hf
      have z0 := (Prod.mk.inj hz).1
      replace hz := (Prod.mk.inj hz).2
      have z1 := hz
      exact x_iret hx hb hr hlk hK hG z0 (by rw [z1]) dX4_desk_158
    replace hf := if_f c31 hf
    refine lv_tableOut (tgt := 159) hx hb dX4_desk_10 (x_sw (k := 8) (by decide) (fun j hj => ?_)) (by decide) ?_
    · match j, hj with
      | 0, _ => exact c4
      | 1, _ => exact c6
      | 2, _ => exact c9
      | 3, _ => exact c14
      | 4, _ => exact c18
      | 5, _ => exact c22
      | 6, _ => exact c25
      | 7, _ => exact c28
      | 8, _ => exact c31
      | j + 9, hj => exact absurd hj (by omega)
    · refine lv_iconst (v := (-1)) hx hb dX4_desk_159 (by decide) ?_
      have hz := Option.some.inj hf
      have z0 := (Prod.mk.inj hz).1
      replace hz := (Prod.mk.inj hz).2
      have z1 := hz
      exact x_iret hx hb hr hlk hK hG z0 (by rw [z1]) dX4_desk_160
  · replace hf := if_t c3 hf
    refine lv_iconst (v := (-1)) hx hb dX4_desk_7 (by decide) ?_
    have hz := Option.some.inj hf
    have z0 := (Prod.mk.inj hz).1
    replace hz := (Prod.mk.inj hz).2
    have z1 := hz
    exact x_iret hx hb hr hlk hK hG z0 (by rw [z1]) dX4_desk_8
set_option maxRecDepth 100000 in
set_option maxHeartbeats 4000000 in
theorem c_X4_along (l : Launch) (D : va_G) (κ : Nat → ClassId) (a : Nat → Nat) (sz : Nat) (p1 : Int32) (p2 : Int32) (p3 : Int32) (uh : HS) (ur : RS) (un : NS) (us : SS) (uo : OS) (r' : Int32)  (hf : f_X4_along p1 p2 p3 uh uo = some (r')) : Met l yX4_along wsX4_along ({ frames := 1, cells := 0, slots := 0, locals := 20 } : Room) (xPc D κ [.ref (a 25), .int p1, .int p2, .int p3] (WH κ a uh ++ (WR κ a ur ++ (WN κ a un ++ (WS κ a us ++ (WO κ a uo))))) sz) (xQi D κ r' (WH κ a uh ++ (WR κ a ur ++ (WN κ a un ++ (WS κ a us ++ (WO κ a uo))))) (va_A (WH κ a uh ++ (WR κ a ur ++ (WN κ a un ++ (WS κ a us ++ (WO κ a uo))))) sz)) 0 0 (va_A (WH κ a uh ++ (WR κ a ur ++ (WN κ a un ++ (WS κ a us ++ (WO κ a uo))))) sz) := by
  refine x_ofW (cc := cX4_along) (maxL := 6) (ret := (some .int)) (Qf := fun A => xQi D κ r' (WH κ a uh ++ (WR κ a ur ++ (WN κ a un ++ (WS κ a us ++ (WO κ a uo))))) A) (by decide) rfl (Nat.le_of_ble_eq_true rfl) ?_
  intro p e s m below meth c hx hb hr hlk hml hown hts hK A hA H locs hG ls hl
  have hown : s.vm.findClass RX4 = some m.cls := hown
  have hl : lv_has ls 6 [(0, .ref (a 25)), (1, .int p1), (2, .int p2), (3, .int p3)] := hl
  have iX0 : ∀ w ∈ u_ws RX0 TX0 17, w ∈ wsX4_along := fun _ h => List.mem_cons_of_mem _ (List.mem_append_right _ h)
  have iX4 : ∀ w ∈ u_ws RX4 TX4 8, w ∈ wsX4_along := fun _ h => List.mem_cons_of_mem _ (List.mem_append_left _ (List.mem_append_right _ h))
  have k12 := hts (.fieldLink RX4 12 "SpineDesks" "hall" "LSpineDesks$Hall;") (List.mem_of_getElem? (i := 1) rfl)
  have k191 := hts (.fieldLink RX4 191 "SpineDesks$Hall" "left" "[I") (List.mem_of_getElem? (i := 4) rfl)
  have k194 := hts (.fieldLink RX4 194 "SpineDesks$Hall" "right" "[I") (List.mem_of_getElem? (i := 3) rfl)
  have k84 := hts (.fieldLink RX4 84 "SpineDesks$Hall" "root" "[I") (List.mem_of_getElem? (i := 2) rfl)
  have L91 : ∀ (x2 : Int32) (x4 : Int32), f_X4_along_91 uh uo x2 x4 = some (r') → ∀ (H : Heap) (locs : List Loc) (ls : Array Slot), xG D A s.heap (WH κ a uh ++ (WR κ a ur ++ (WN κ a un ++ (WS κ a us ++ (WO κ a uo))))) H locs → lv_has ls 6 [(2, .int x2), (4, .int x4)] → W p l e ({ frames := 1, cells := 0, slots := 0, locals := 20 } : Room) s m (([.ref (a 25), .int p1, .int p2, .int p3] : List Value).toArray) below meth c H locs 0 0 (MQ below (xQi D κ r' (WH κ a uh ++ (WR κ a ur ++ (WN κ a un ++ (WS κ a us ++ (WO κ a uo))))) A) (([.ref (a 25), .int p1, .int p2, .int p3] : List Value).toArray) s 0 0 A) (F0 m 91 ls []) := by
    intro  x2 x4 hf H locs ls hG hl
    unfold f_X4_along_91 at hf
    refine lv_iload_n hx hb dX4_along_91 rfl (lv_at hl 0 rfl) ?_
    refine lv_sipush (v := 300) hx hb dX4_along_92 (by decide) ?_
    refine lv_icmp_ge (tgt := 103) hx hb dX4_along_95 (by decide) (fun c1 => ?_) (fun c1 => ?_)
    · replace hf := if_t c1 hf
      refine lv_iconst (v := (-1)) hx hb dX4_along_103 (by decide) ?_
      have z0 := Option.some.inj hf
      exact x_iret hx hb hr hlk hK hG z0 rfl dX4_along_104
    · replace hf := if_f c1 hf
      refine lv_iload hx hb dX4_along_98 (lv_at hl 1 rfl) ?_
      refine lv_goto (tgt := 104) hx hb dX4_along_100 (by decide) ?_
      have z0 := Option.some.inj hf
      exact x_iret hx hb hr hlk hK hG z0 rfl dX4_along_104
  have L83 : ∀ (rec36 : Int32 → Int32 → Int32 → Int32 → Option (Int32)) (hr36 : ∀ (y2 : Int32) (y3 : Int32) (y4 : Int32) (y5 : Int32), rec36 y2 y3 y4 y5 = some (r') → ∀ (H : Heap) (locs : List Loc) (ls : Array Slot), xG D A s.heap (WH κ a uh ++ (WR κ a ur ++ (WN κ a un ++ (WS κ a us ++ (WO κ a uo))))) H locs → lv_has ls 6 [(0, .ref (a 25)), (2, .int y2), (3, .int y3), (4, .int y4), (5, .int y5)] → W p l e ({ frames := 1, cells := 0, slots := 0, locals := 20 } : Room) s m (([.ref (a 25), .int p1, .int p2, .int p3] : List Value).toArray) below meth c H locs 0 0 (MQ below (xQi D κ r' (WH κ a uh ++ (WR κ a ur ++ (WN κ a un ++ (WS κ a us ++ (WO κ a uo))))) A) (([.ref (a 25), .int p1, .int p2, .int p3] : List Value).toArray) s 0 0 A) (F0 m 36 ls [])), ∀ (x2 : Int32) (x3 : Int32) (x5 : Int32) (s0 : Int32), f_X4_along_83 uh uo rec36 x2 x3 x5 s0 = some (r') → ∀ (H : Heap) (locs : List Loc) (ls : Array Slot), xG D A s.heap (WH κ a uh ++ (WR κ a ur ++ (WN κ a un ++ (WS κ a us ++ (WO κ a uo))))) H locs → lv_has ls 6 [(0, .ref (a 25)), (2, .int x2), (3, .int x3), (5, .int x5)] → W p l e ({ frames := 1, cells := 0, slots := 0, locals := 20 } : Room) s m (([.ref (a 25), .int p1, .int p2, .int p3] : List Value).toArray) below meth c H locs 0 0 (MQ below (xQi D κ r' (WH κ a uh ++ (WR κ a ur ++ (WN κ a un ++ (WS κ a us ++ (WO κ a uo))))) A) (([.ref (a 25), .int p1, .int p2, .int p3] : List Value).toArray) s 0 0 A) (F0 m 83 ls [.int s0]) := by
    intro rec36 hr36 x2 x3 x5 s0 hf H locs ls hG hl
    unfold f_X4_along_83 at hf
    refine lv_istore (lv' := [(4, .int s0), (0, .ref (a 25)), (2, .int x2), (3, .int x3), (5, .int x5)]) hx hb dX4_along_83 hl (by decide) rfl (fun ls hl => ?_)
    obtain ⟨y2, ey2, hf⟩ := bnd_e hf
    refine lv_iinc (v := y2) (lv' := [(5, .int y2), (4, .int s0), (0, .ref (a 25)), (2, .int x2), (3, .int x3)]) hx hb dX4_along_85 hl (k := 4) rfl (by rw [ey2]; rfl) (by decide) rfl (fun ls hl => ?_)
    refine lv_goto (tgt := 36) hx hb dX4_along_88 (by decide) ?_
    exact hr36 x2 x3 s0 y2 hf H locs ls hG (lv_sub hl [2, 3, 4, 1, 0] rfl)
  have L36 : ∀ (n : Nat), ∀ (x2 : Int32) (x3 : Int32) (x4 : Int32) (x5 : Int32), f_X4_along_36 uh uo n x2 x3 x4 x5 = some (r') → ∀ (H : Heap) (locs : List Loc) (ls : Array Slot), xG D A s.heap (WH κ a uh ++ (WR κ a ur ++ (WN κ a un ++ (WS κ a us ++ (WO κ a uo))))) H locs → lv_has ls 6 [(0, .ref (a 25)), (2, .int x2), (3, .int x3), (4, .int x4), (5, .int x5)] → W p l e ({ frames := 1, cells := 0, slots := 0, locals := 20 } : Room) s m (([.ref (a 25), .int p1, .int p2, .int p3] : List Value).toArray) below meth c H locs 0 0 (MQ below (xQi D κ r' (WH κ a uh ++ (WR κ a ur ++ (WN κ a un ++ (WS κ a us ++ (WO κ a uo))))) A) (([.ref (a 25), .int p1, .int p2, .int p3] : List Value).toArray) s 0 0 A) (F0 m 36 ls []) := by
    intro  n
    induction n with
    | zero => intro x2 x3 x4 x5 hf; cases hf
    | succ n ih =>
      intro x2 x3 x4 x5 hf H locs ls hG hl
      replace hf : f_X4_along_B36 uh uo (f_X4_along_36 uh uo n) x2 x3 x4 x5 = some (r') := hf
      unfold f_X4_along_B36 at hf
      refine lv_iload hx hb dX4_along_36 (lv_at hl 4 rfl) ?_
      refine lv_sipush (v := 300) hx hb dX4_along_38 (by decide) ?_
      refine lv_icmp_ge (tgt := 91) hx hb dX4_along_41 (by decide) (fun c3 => ?_) (fun c3 => ?_)
      · replace hf := if_t c3 hf
        exact L91   x2 x4 hf H locs ls hG (lv_sub hl [1, 3] rfl)
      · replace hf := if_f c3 hf
        refine lv_iload hx hb dX4_along_44 (lv_at hl 4 rfl) ?_
        refine lv_iload_n hx hb dX4_along_46 rfl (lv_at hl 1 rfl) ?_
        refine lv_icmp_ge (tgt := 91) hx hb dX4_along_47 (by decide) (fun c4 => ?_) (fun c4 => ?_)
        · replace hf := if_t c4 hf
          exact L91   x2 x4 hf H locs ls hG (lv_sub hl [1, 3] rfl)
        · replace hf := if_f c4 hf
          refine lv_iload hx hb dX4_along_50 (lv_at hl 3 rfl) ?_
          refine lv_iconst (v := (-1)) hx hb dX4_along_52 (by decide) ?_
          refine lv_icmp_eq (tgt := 91) hx hb dX4_along_53 (by decide) (fun c5 => ?_) (fun c5 => ?_)
          · replace hf := if_t c5 hf
            exact L91   x2 x4 hf H locs ls hG (lv_sub hl [1, 3] rfl)
          · replace hf := if_f c5 hf
            refine lv_iload_n hx hb dX4_along_56 rfl (lv_at hl 2 rfl) ?_
            refine lv_if_ne (tgt := 73) hx hb dX4_along_57 (by decide) (fun c6 => ?_) (fun c6 => ?_)
            · replace hf := if_f c6 hf
              refine lv_aload_n hx hb dX4_along_73 rfl (lv_at hl 0 rfl) ?_
              refine x_get (C := RX4) (T := TX4) (N := 8) (ci := 4) hx hb hts iX4 hown hK hG 25 rfl rfl 0 (by decide) k12 (v := .ref (a 0)) rfl dX4_along_74 ?_
              refine x_get (C := RX0) (T := TX0) (N := 17) (ci := 0) hx hb hts iX0 hown hK hG 0 rfl rfl 10 (by decide) k191 (v := .ref (a 6)) rfl dX4_along_77 ?_
              refine lv_iload hx hb dX4_along_80 (lv_at hl 3 rfl) ?_
              obtain ⟨v7, ev7, hin, hf⟩ := ck_e hf
              refine x_iald hx hb hK hG 6 rfl ev7 hin dX4_along_82 ?_
              exact L83 (f_X4_along_36 uh uo n) ih  x2 x3 x5 v7 hf H locs ls hG (lv_sub hl [0, 1, 2, 4] rfl)
            · replace hf := if_t c6 hf
              refine lv_aload_n hx hb dX4_along_60 rfl (lv_at hl 0 rfl) ?_
              refine x_get (C := RX4) (T := TX4) (N := 8) (ci := 4) hx hb hts iX4 hown hK hG 25 rfl rfl 0 (by decide) k12 (v := .ref (a 0)) rfl dX4_along_61 ?_
              refine x_get (C := RX0) (T := TX0) (N := 17) (ci := 0) hx hb hts iX0 hown hK hG 0 rfl rfl 11 (by decide) k194 (v := .ref (a 7)) rfl dX4_along_64 ?_
              refine lv_iload hx hb dX4_along_67 (lv_at hl 3 rfl) ?_
              obtain ⟨v8, ev8, hin, hf⟩ := ck_e hf
              refine x_iald hx hb hK hG 7 rfl ev8 hin dX4_along_69 ?_
              refine lv_goto (tgt := 83) hx hb dX4_along_70 (by decide) ?_
              exact L83 (f_X4_along_36 uh uo n) ih  x2 x3 x5 v8 hf H locs ls hG (lv_sub hl [0, 1, 2, 4] rfl)
  unfold f_X4_along at hf
  refine lv_iload_n hx hb dX4_along_0 rfl (lv_at hl 1 rfl) ?_
  obtain ⟨r9, q10, hf⟩ := cl1_e hf
  refine x_callSi (pre := ([] : va_W)) (wc := ([] : va_W)) (wc1 := ([] : va_W)) (post := WH κ a uh ++ (WR κ a ur ++ (WN κ a un ++ (WS κ a us ++ (WO κ a uo))))) (As := [.int p1]) (rest := []) (w1 := WH κ a uh ++ (WR κ a ur ++ (WN κ a un ++ (WS κ a us ++ (WO κ a uo))))) ⟨hx, hb, hml, hown, hts⟩ hK hG hA (by simp only [List.append_assoc, List.nil_append, List.append_nil]) (by simp only [List.append_assoc, List.nil_append, List.append_nil]) (c_X4_isDesk l D κ a H.size p1 r9 q10) (va_cwS 1 hts gX4_along_X4_isDesk rfl rfl rfl (by decide +kernel) ⟨Nat.le_of_ble_eq_true rfl, Nat.le_of_ble_eq_true rfl⟩) rfl hl.1 rfl (Nat.le_of_ble_eq_true rfl) dX4_along_1 ⟨Nat.zero_le _, Nat.zero_le _⟩ (fun H locs hG => ?_)
  refine lv_if_eq (tgt := 20) hx hb dX4_along_4 (by decide) (fun c11 => ?_) (fun c11 => ?_)
  · replace hf := if_t c11 hf
    refine lv_iconst (v := (-1)) hx hb dX4_along_20 (by decide) ?_
    have z0 := Option.some.inj hf
    exact x_iret hx hb hr hlk hK hG z0 rfl dX4_along_21
  · replace hf := if_f c11 hf
    refine lv_iload_n hx hb dX4_along_7 rfl (lv_at hl 2 rfl) ?_
    refine lv_if_lt (tgt := 20) hx hb dX4_along_8 (by decide) (fun c12 => ?_) (fun c12 => ?_)
    · replace hf := if_t c12 hf
      refine lv_iconst (v := (-1)) hx hb dX4_along_20 (by decide) ?_
      have z0 := Option.some.inj hf
      exact x_iret hx hb hr hlk hK hG z0 rfl dX4_along_21
    · replace hf := if_f c12 hf
      refine lv_iload_n hx hb dX4_along_11 rfl (lv_at hl 3 rfl) ?_
      refine lv_if_lt (tgt := 20) hx hb dX4_along_12 (by decide) (fun c13 => ?_) (fun c13 => ?_)
      · replace hf := if_t c13 hf
        refine lv_iconst (v := (-1)) hx hb dX4_along_20 (by decide) ?_
        have z0 := Option.some.inj hf
        exact x_iret hx hb hr hlk hK hG z0 rfl dX4_along_21
      · replace hf := if_f c13 hf
        refine lv_iload_n hx hb dX4_along_15 rfl (lv_at hl 3 rfl) ?_
        refine lv_iconst (v := 1) hx hb dX4_along_16 (by decide) ?_
        refine lv_icmp_le (tgt := 22) hx hb dX4_along_17 (by decide) (fun c14 => ?_) (fun c14 => ?_)
        · replace hf := if_t c14 hf
          refine lv_aload_n hx hb dX4_along_22 rfl (lv_at hl 0 rfl) ?_
          refine x_get (C := RX4) (T := TX4) (N := 8) (ci := 4) hx hb hts iX4 hown hK hG 25 rfl rfl 0 (by decide) k12 (v := .ref (a 0)) rfl dX4_along_23 ?_
          refine x_get (C := RX0) (T := TX0) (N := 17) (ci := 0) hx hb hts iX0 hown hK hG 0 rfl rfl 5 (by decide) k84 (v := .ref (a 1)) rfl dX4_along_26 ?_
          refine lv_iload_n hx hb dX4_along_29 rfl (lv_at hl 1 rfl) ?_
          obtain ⟨v15, ev15, hin, hf⟩ := ck_e hf
          refine x_iald hx hb hK hG 1 rfl ev15 hin dX4_along_30 ?_
          refine lv_istore (lv' := [(4, .int v15), (0, .ref (a 25)), (1, .int p1), (2, .int p2), (3, .int p3)]) hx hb dX4_along_31 hl (by decide) rfl (fun ls hl => ?_)
          refine lv_iconst (v := 0) hx hb dX4_along_33 (by decide) ?_
          refine lv_istore (lv' := [(5, .int 0), (4, .int v15), (0, .ref (a 25)), (1, .int p1), (2, .int p2), (3, .int p3)]) hx hb dX4_along_34 hl (by decide) rfl (fun ls hl => ?_)
          exact L36  FU p2 p3 v15 0 hf H locs ls hG (lv_sub hl [2, 4, 5, 1, 0] rfl)
        · replace hf := if_f c14 hf
          refine lv_iconst (v := (-1)) hx hb dX4_along_20 (by decide) ?_
          have z0 := Option.some.inj hf
          exact x_iret hx hb hr hlk hK hG z0 rfl dX4_along_21
set_option maxRecDepth 100000 in
set_option maxHeartbeats 4000000 in
theorem c_X4_ranked (l : Launch) (D : va_G) (κ : Nat → ClassId) (a : Nat → Nat) (sz : Nat) (p1 : Int32) (p2 : Int32) (uh : HS) (ur : RS) (un : NS) (us : SS) (uo : OS) (r' : Int32)  (hf : f_X4_ranked p1 p2 uh uo = some (r')) : Met l yX4_ranked wsX4_ranked ({ frames := 1, cells := 0, slots := 0, locals := 24 } : Room) (xPc D κ [.ref (a 25), .int p1, .int p2] (WH κ a uh ++ (WR κ a ur ++ (WN κ a un ++ (WS κ a us ++ (WO κ a uo))))) sz) (xQi D κ r' (WH κ a uh ++ (WR κ a ur ++ (WN κ a un ++ (WS κ a us ++ (WO κ a uo))))) (va_A (WH κ a uh ++ (WR κ a ur ++ (WN κ a un ++ (WS κ a us ++ (WO κ a uo))))) sz)) 0 0 (va_A (WH κ a uh ++ (WR κ a ur ++ (WN κ a un ++ (WS κ a us ++ (WO κ a uo))))) sz) := by
  refine x_ofW (cc := cX4_ranked) (maxL := 3) (ret := (some .int)) (Qf := fun A => xQi D κ r' (WH κ a uh ++ (WR κ a ur ++ (WN κ a un ++ (WS κ a us ++ (WO κ a uo))))) A) (by decide) rfl (Nat.le_of_ble_eq_true rfl) ?_
  intro p e s m below meth c hx hb hr hlk hml hown hts hK A hA H locs hG ls hl
  have hown : s.vm.findClass RX4 = some m.cls := hown
  have hl : lv_has ls 3 [(0, .ref (a 25)), (1, .int p1), (2, .int p2)] := hl
  have iX4 : ∀ w ∈ u_ws RX4 TX4 8, w ∈ wsX4_ranked := fun _ h => List.mem_cons_of_mem _ (List.mem_append_left _ (List.mem_append_right _ h))
  have k12 := hts (.fieldLink RX4 12 "SpineDesks" "hall" "LSpineDesks$Hall;") (List.mem_of_getElem? (i := 1) rfl)
  unfold f_X4_ranked at hf
  refine lv_iload_n hx hb dX4_ranked_0 rfl (lv_at hl 1 rfl) ?_
  obtain ⟨r1, q2, hf⟩ := cl1_e hf
  refine x_callSi (pre := ([] : va_W)) (wc := ([] : va_W)) (wc1 := ([] : va_W)) (post := WH κ a uh ++ (WR κ a ur ++ (WN κ a un ++ (WS κ a us ++ (WO κ a uo))))) (As := [.int p1]) (rest := []) (w1 := WH κ a uh ++ (WR κ a ur ++ (WN κ a un ++ (WS κ a us ++ (WO κ a uo))))) ⟨hx, hb, hml, hown, hts⟩ hK hG hA (by simp only [List.append_assoc, List.nil_append, List.append_nil]) (by simp only [List.append_assoc, List.nil_append, List.append_nil]) (c_X4_isDesk l D κ a H.size p1 r1 q2) (va_cwS 1 hts gX4_ranked_X4_isDesk rfl rfl rfl (by decide +kernel) ⟨Nat.le_of_ble_eq_true rfl, Nat.le_of_ble_eq_true rfl⟩) rfl hl.1 rfl (Nat.le_of_ble_eq_true rfl) dX4_ranked_1 ⟨Nat.zero_le _, Nat.zero_le _⟩ (fun H locs hG => ?_)
  refine lv_if_eq (tgt := 12) hx hb dX4_ranked_4 (by decide) (fun c3 => ?_) (fun c3 => ?_)
  · replace hf := if_t c3 hf
    refine lv_iconst (v := (-1)) hx hb dX4_ranked_12 (by decide) ?_
    have z0 := Option.some.inj hf
    exact x_iret hx hb hr hlk hK hG z0 rfl dX4_ranked_13
  · replace hf := if_f c3 hf
    refine lv_iload_n hx hb dX4_ranked_7 rfl (lv_at hl 2 rfl) ?_
    refine lv_iconst (v := 1) hx hb dX4_ranked_8 (by decide) ?_
    refine lv_icmp_ge (tgt := 14) hx hb dX4_ranked_9 (by decide) (fun c4 => ?_) (fun c4 => ?_)
    · replace hf := if_t c4 hf
      refine lv_aload_n hx hb dX4_ranked_14 rfl (lv_at hl 0 rfl) ?_
      refine x_get (C := RX4) (T := TX4) (N := 8) (ci := 4) hx hb hts iX4 hown hK hG 25 rfl rfl 0 (by decide) k12 (v := .ref (a 0)) rfl dX4_ranked_15 ?_
      refine lv_iload_n hx hb dX4_ranked_18 rfl (lv_at hl 1 rfl) ?_
      refine lv_iload_n hx hb dX4_ranked_19 rfl (lv_at hl 2 rfl) ?_
      obtain ⟨r5, q6, hf⟩ := cl1_e hf
      refine x_callVi (pre := ([] : va_W)) (wc := WH κ a uh) (wc1 := WH κ a uh) (post := WR κ a ur ++ (WN κ a un ++ (WS κ a us ++ (WO κ a uo)))) (As := [.int p1, .int p2]) (rest := []) (w1 := WH κ a uh ++ (WR κ a ur ++ (WN κ a un ++ (WS κ a us ++ (WO κ a uo))))) ⟨hx, hb, hml, hown, hts⟩ hK hG hA (by simp only [List.append_assoc, List.nil_append, List.append_nil]) (by simp only [List.append_assoc, List.nil_append, List.append_nil]) (c_X0_rankedIn l D κ a H.size p1 p2 uh r5 q6) (cwV 2 hts gX4_ranked_X0_rankedIn rfl rfl rfl (by decide +kernel) ⟨Nat.le_of_ble_eq_true rfl, Nat.le_of_ble_eq_true rfl⟩) 0 0 rfl rfl rfl rfl hl.1 rfl (Nat.le_of_ble_eq_true rfl) dX4_ranked_20 ⟨Nat.zero_le _, Nat.zero_le _⟩ (fun H locs hG => ?_)
      have z0 := Option.some.inj hf
      exact x_iret hx hb hr hlk hK hG z0 rfl dX4_ranked_23
    · replace hf := if_f c4 hf
      refine lv_iconst (v := (-1)) hx hb dX4_ranked_12 (by decide) ?_
      have z0 := Option.some.inj hf
      exact x_iret hx hb hr hlk hK hG z0 rfl dX4_ranked_13
set_option maxRecDepth 100000 in
set_option maxHeartbeats 4000000 in
theorem c_X4_least (l : Launch) (D : va_G) (κ : Nat → ClassId) (a : Nat → Nat) (sz : Nat) (p1 : Int32) (p2 : Int32) (uh : HS) (ur : RS) (un : NS) (us : SS) (uo : OS) (r' : Int32) (ur' : RS) (hf : f_X4_least p1 p2 uh ur uo = some (r', ur')) : Met l yX4_least wsX4_least ({ frames := 4, cells := 0, slots := 0, locals := 93 } : Room) (xPc D κ [.ref (a 25), .int p1, .int p2] (WH κ a uh ++ (WR κ a ur ++ (WN κ a un ++ (WS κ a us ++ (WO κ a uo))))) sz) (xQi D κ r' (WH κ a uh ++ (WR κ a ur' ++ (WN κ a un ++ (WS κ a us ++ (WO κ a uo))))) (va_A (WH κ a uh ++ (WR κ a ur ++ (WN κ a un ++ (WS κ a us ++ (WO κ a uo))))) sz)) 0 0 (va_A (WH κ a uh ++ (WR κ a ur ++ (WN κ a un ++ (WS κ a us ++ (WO κ a uo))))) sz) := by
  refine x_ofW (cc := cX4_least) (maxL := 4) (ret := (some .int)) (Qf := fun A => xQi D κ r' (WH κ a uh ++ (WR κ a ur' ++ (WN κ a un ++ (WS κ a us ++ (WO κ a uo))))) A) (by decide) rfl (Nat.le_of_ble_eq_true rfl) ?_
  intro p e s m below meth c hx hb hr hlk hml hown hts hK A hA H locs hG ls hl
  have hown : s.vm.findClass RX4 = some m.cls := hown
  have hl : lv_has ls 4 [(0, .ref (a 25)), (1, .int p1), (2, .int p2)] := hl
  have iX2 : ∀ w ∈ u_ws RX2 TX2 6, w ∈ wsX4_least := fun _ h => List.mem_cons_of_mem _ (List.mem_append_left _ (List.mem_append_right _ h))
  have iX4 : ∀ w ∈ u_ws RX4 TX4 8, w ∈ wsX4_least := fun _ h => List.mem_cons_of_mem _ (List.mem_append_left _ (List.mem_append_left _ (List.mem_append_right _ h)))
  have k230 := hts (.fieldLink RX4 230 "SpineDesks$Rows" "one" "[I") (List.mem_of_getElem? (i := 2) rfl)
  have k42 := hts (.fieldLink RX4 42 "SpineDesks" "rows" "LSpineDesks$Rows;") (List.mem_of_getElem? (i := 1) rfl)
  unfold f_X4_least at hf
  refine lv_iload_n hx hb dX4_least_0 rfl (lv_at hl 1 rfl) ?_
  obtain ⟨r1, q2, hf⟩ := cl1_e hf
  refine x_callSi (pre := ([] : va_W)) (wc := ([] : va_W)) (wc1 := ([] : va_W)) (post := WH κ a uh ++ (WR κ a ur ++ (WN κ a un ++ (WS κ a us ++ (WO κ a uo))))) (As := [.int p1]) (rest := []) (w1 := WH κ a uh ++ (WR κ a ur ++ (WN κ a un ++ (WS κ a us ++ (WO κ a uo))))) ⟨hx, hb, hml, hown, hts⟩ hK hG hA (by simp only [List.append_assoc, List.nil_append, List.append_nil]) (by simp only [List.append_assoc, List.nil_append, List.append_nil]) (c_X4_isDesk l D κ a H.size p1 r1 q2) (va_cwS 1 hts gX4_least_X4_isDesk rfl rfl rfl (by decide +kernel) ⟨Nat.le_of_ble_eq_true rfl, Nat.le_of_ble_eq_true rfl⟩) rfl hl.1 rfl (Nat.le_of_ble_eq_true rfl) dX4_least_1 ⟨Nat.zero_le _, Nat.zero_le _⟩ (fun H locs hG => ?_)
  refine lv_if_eq (tgt := 11) hx hb dX4_least_4 (by decide) (fun c3 => ?_) (fun c3 => ?_)
  · replace hf := if_t c3 hf
    refine lv_iconst (v := (-1)) hx hb dX4_least_11 (by decide) ?_
    have hz := Option.some.inj hf
    have z0 := (Prod.mk.inj hz).1
    replace hz := (Prod.mk.inj hz).2
    have z1 := hz
    exact x_iret hx hb hr hlk hK hG z0 (by rw [z1]) dX4_least_12
  · replace hf := if_f c3 hf
    refine lv_iload_n hx hb dX4_least_7 rfl (lv_at hl 2 rfl) ?_
    refine lv_if_ge (tgt := 13) hx hb dX4_least_8 (by decide) (fun c4 => ?_) (fun c4 => ?_)
    · replace hf := if_t c4 hf
      refine lv_aload_n hx hb dX4_least_13 rfl (lv_at hl 0 rfl) ?_
      refine x_get (C := RX4) (T := TX4) (N := 8) (ci := 4) hx hb hts iX4 hown hK hG 25 rfl rfl 5 (by decide) k42 (v := .ref (a 13)) rfl dX4_least_14 ?_
      refine lv_iload_n hx hb dX4_least_17 rfl (lv_at hl 1 rfl) ?_
      obtain ⟨r5, ur6, q7, hf⟩ := cl2_e hf
      refine x_callVi (pre := ([] : va_W)) (wc := WH κ a uh ++ (WR κ a ur)) (wc1 := WH κ a uh ++ (WR κ a ur6)) (post := WN κ a un ++ (WS κ a us ++ (WO κ a uo))) (As := [.int p1]) (rest := []) (w1 := WH κ a uh ++ (WR κ a ur6 ++ (WN κ a un ++ (WS κ a us ++ (WO κ a uo))))) ⟨hx, hb, hml, hown, hts⟩ hK hG hA (by simp only [List.append_assoc, List.nil_append, List.append_nil]) (by simp only [List.append_assoc, List.nil_append, List.append_nil]) (c_X2_sortPlain l D κ a H.size p1 uh ur r5 ur6 q7) (cwV 1 hts gX4_least_X2_sortPlain rfl rfl rfl (by decide +kernel) ⟨Nat.le_of_ble_eq_true rfl, Nat.le_of_ble_eq_true rfl⟩) 13 2 rfl rfl rfl rfl hl.1 rfl (Nat.le_of_ble_eq_true rfl) dX4_least_18 ⟨Nat.zero_le _, Nat.zero_le _⟩ (fun H locs hG => ?_)
      refine lv_istore_n (lv' := [(3, .int r5), (0, .ref (a 25)), (1, .int p1), (2, .int p2)]) hx hb dX4_least_21 rfl hl (by decide) rfl (fun ls hl => ?_)
      refine lv_iload_n hx hb dX4_least_22 rfl (lv_at hl 3 rfl) ?_
      refine lv_iload_n hx hb dX4_least_23 rfl (lv_at hl 0 rfl) ?_
      refine lv_icmp_ge (tgt := 39) hx hb dX4_least_24 (by decide) (fun c8 => ?_) (fun c8 => ?_)
      · replace hf := if_t c8 hf
        refine lv_iconst (v := (-1)) hx hb dX4_least_39 (by decide) ?_
        have hz := Option.some.inj hf
        have z0 := (Prod.mk.inj hz).1
        replace hz := (Prod.mk.inj hz).2
        have z1 := hz
        exact x_iret hx hb hr hlk hK hG z0 (by rw [z1]) dX4_least_40
      · replace hf := if_f c8 hf
        refine lv_aload_n hx hb dX4_least_27 rfl (lv_at hl 1 rfl) ?_
        refine x_get (C := RX4) (T := TX4) (N := 8) (ci := 4) hx hb hts iX4 hown hK hG 25 rfl rfl 5 (by decide) k42 (v := .ref (a 13)) rfl dX4_least_28 ?_
        refine x_get (C := RX2) (T := TX2) (N := 6) (ci := 2) hx hb hts iX2 hown hK hG 13 rfl rfl 1 (by decide) k230 (v := .ref (a 14)) rfl dX4_least_31 ?_
        refine lv_iload_n hx hb dX4_least_34 rfl (lv_at hl 3 rfl) ?_
        obtain ⟨v9, ev9, hin, hf⟩ := ck_e hf
        refine x_iald hx hb hK hG 14 rfl ev9 hin dX4_least_35 ?_
        refine lv_goto (tgt := 40) hx hb dX4_least_36 (by decide) ?_
        have hz := Option.some.inj hf
        have z0 := (Prod.mk.inj hz).1
        replace hz := (Prod.mk.inj hz).2
        have z1 := hz
        exact x_iret hx hb hr hlk hK hG z0 (by rw [z1]) dX4_least_40
    · replace hf := if_f c4 hf
      refine lv_iconst (v := (-1)) hx hb dX4_least_11 (by decide) ?_
      have hz := Option.some.inj hf
      have z0 := (Prod.mk.inj hz).1
      replace hz := (Prod.mk.inj hz).2
      have z1 := hz
      exact x_iret hx hb hr hlk hK hG z0 (by rw [z1]) dX4_least_12
set_option maxRecDepth 100000 in
set_option maxHeartbeats 4000000 in
theorem c_X4_below (l : Launch) (D : va_G) (κ : Nat → ClassId) (a : Nat → Nat) (sz : Nat) (p1 : Int32) (p2 : Int64) (uh : HS) (ur : RS) (un : NS) (us : SS) (uo : OS) (r' : Int32)  (hf : f_X4_below p1 p2 uh uo = some (r')) : Met l yX4_below wsX4_below ({ frames := 2, cells := 0, slots := 0, locals := 47 } : Room) (xPc D κ [.ref (a 25), .int p1, .long p2] (WH κ a uh ++ (WR κ a ur ++ (WN κ a un ++ (WS κ a us ++ (WO κ a uo))))) sz) (xQi D κ r' (WH κ a uh ++ (WR κ a ur ++ (WN κ a un ++ (WS κ a us ++ (WO κ a uo))))) (va_A (WH κ a uh ++ (WR κ a ur ++ (WN κ a un ++ (WS κ a us ++ (WO κ a uo))))) sz)) 0 0 (va_A (WH κ a uh ++ (WR κ a ur ++ (WN κ a un ++ (WS κ a us ++ (WO κ a uo))))) sz) := by
  refine x_ofW (cc := cX4_below) (maxL := 4) (ret := (some .int)) (Qf := fun A => xQi D κ r' (WH κ a uh ++ (WR κ a ur ++ (WN κ a un ++ (WS κ a us ++ (WO κ a uo))))) A) (by decide) rfl (Nat.le_of_ble_eq_true rfl) ?_
  intro p e s m below meth c hx hb hr hlk hml hown hts hK A hA H locs hG ls hl
  have hown : s.vm.findClass RX4 = some m.cls := hown
  have hl : lv_has ls 4 [(0, .ref (a 25)), (1, .int p1), (2, .long p2)] := hl
  have iX4 : ∀ w ∈ u_ws RX4 TX4 8, w ∈ wsX4_below := fun _ h => List.mem_cons_of_mem _ (List.mem_append_left _ (List.mem_append_right _ h))
  have k12 := hts (.fieldLink RX4 12 "SpineDesks" "hall" "LSpineDesks$Hall;") (List.mem_of_getElem? (i := 1) rfl)
  unfold f_X4_below at hf
  refine lv_iload_n hx hb dX4_below_0 rfl (lv_at hl 1 rfl) ?_
  obtain ⟨r1, q2, hf⟩ := cl1_e hf
  refine x_callSi (pre := ([] : va_W)) (wc := ([] : va_W)) (wc1 := ([] : va_W)) (post := WH κ a uh ++ (WR κ a ur ++ (WN κ a un ++ (WS κ a us ++ (WO κ a uo))))) (As := [.int p1]) (rest := []) (w1 := WH κ a uh ++ (WR κ a ur ++ (WN κ a un ++ (WS κ a us ++ (WO κ a uo))))) ⟨hx, hb, hml, hown, hts⟩ hK hG hA (by simp only [List.append_assoc, List.nil_append, List.append_nil]) (by simp only [List.append_assoc, List.nil_append, List.append_nil]) (c_X4_isDesk l D κ a H.size p1 r1 q2) (va_cwS 1 hts gX4_below_X4_isDesk rfl rfl rfl (by decide +kernel) ⟨Nat.le_of_ble_eq_true rfl, Nat.le_of_ble_eq_true rfl⟩) rfl hl.1 rfl (Nat.le_of_ble_eq_true rfl) dX4_below_1 ⟨Nat.zero_le _, Nat.zero_le _⟩ (fun H locs hG => ?_)
  refine lv_if_eq (tgt := 19) hx hb dX4_below_4 (by decide) (fun c3 => ?_) (fun c3 => ?_)
  · replace hf := if_t c3 hf
    refine lv_iconst (v := (-1)) hx hb dX4_below_19 (by decide) ?_
    have z0 := Option.some.inj hf
    exact x_iret hx hb hr hlk hK hG z0 rfl dX4_below_20
  · replace hf := if_f c3 hf
    refine lv_aload_n hx hb dX4_below_7 rfl (lv_at hl 0 rfl) ?_
    refine x_get (C := RX4) (T := TX4) (N := 8) (ci := 4) hx hb hts iX4 hown hK hG 25 rfl rfl 0 (by decide) k12 (v := .ref (a 0)) rfl dX4_below_8 ?_
    refine lv_iload_n hx hb dX4_below_11 rfl (lv_at hl 1 rfl) ?_
    refine lv_lload_n hx hb dX4_below_12 rfl (lv_at hl 2 rfl) ?_
    obtain ⟨r4, q5, hf⟩ := cl1_e hf
    refine x_callVi (pre := ([] : va_W)) (wc := WH κ a uh) (wc1 := WH κ a uh) (post := WR κ a ur ++ (WN κ a un ++ (WS κ a us ++ (WO κ a uo)))) (As := [.int p1, .long p2]) (rest := []) (w1 := WH κ a uh ++ (WR κ a ur ++ (WN κ a un ++ (WS κ a us ++ (WO κ a uo))))) ⟨hx, hb, hml, hown, hts⟩ hK hG hA (by simp only [List.append_assoc, List.nil_append, List.append_nil]) (by simp only [List.append_assoc, List.nil_append, List.append_nil]) (c_X0_plainBelow l D κ a H.size p1 p2 uh r4 q5) (cwV 2 hts gX4_below_X0_plainBelow rfl rfl rfl (by decide +kernel) ⟨Nat.le_of_ble_eq_true rfl, Nat.le_of_ble_eq_true rfl⟩) 0 0 rfl rfl rfl rfl hl.1 rfl (Nat.le_of_ble_eq_true rfl) dX4_below_13 ⟨Nat.zero_le _, Nat.zero_le _⟩ (fun H locs hG => ?_)
    refine lv_goto (tgt := 20) hx hb dX4_below_16 (by decide) ?_
    have z0 := Option.some.inj hf
    exact x_iret hx hb hr hlk hK hG z0 rfl dX4_below_20
set_option maxRecDepth 100000 in
set_option maxHeartbeats 4000000 in
theorem c_X4_pair (l : Launch) (D : va_G) (κ : Nat → ClassId) (a : Nat → Nat) (sz : Nat) (p1 : Int32) (p2 : Int32) (p3 : Int32) (p4 : Int32) (uh : HS) (ur : RS) (un : NS) (us : SS) (uo : OS) (r' : Int64) (ur' : RS) (hf : f_X4_pair p1 p2 p3 p4 uh ur uo = some (r', ur')) : Met l yX4_pair wsX4_pair ({ frames := 4, cells := 0, slots := 0, locals := 100 } : Room) (xPc D κ [.ref (a 25), .int p1, .int p2, .int p3, .int p4] (WH κ a uh ++ (WR κ a ur ++ (WN κ a un ++ (WS κ a us ++ (WO κ a uo))))) sz) (xQl D κ r' (WH κ a uh ++ (WR κ a ur' ++ (WN κ a un ++ (WS κ a us ++ (WO κ a uo))))) (va_A (WH κ a uh ++ (WR κ a ur ++ (WN κ a un ++ (WS κ a us ++ (WO κ a uo))))) sz)) 0 0 (va_A (WH κ a uh ++ (WR κ a ur ++ (WN κ a un ++ (WS κ a us ++ (WO κ a uo))))) sz) := by
  refine x_ofW (cc := cX4_pair) (maxL := 5) (ret := (some .long)) (Qf := fun A => xQl D κ r' (WH κ a uh ++ (WR κ a ur' ++ (WN κ a un ++ (WS κ a us ++ (WO κ a uo))))) A) (by decide) rfl (Nat.le_of_ble_eq_true rfl) ?_
  intro p e s m below meth c hx hb hr hlk hml hown hts hK A hA H locs hG ls hl
  have hown : s.vm.findClass RX4 = some m.cls := hown
  have hl : lv_has ls 5 [(0, .ref (a 25)), (1, .int p1), (2, .int p2), (3, .int p3), (4, .int p4)] := hl
  have iX4 : ∀ w ∈ u_ws RX4 TX4 8, w ∈ wsX4_pair := fun _ h => List.mem_cons_of_mem _ (List.mem_append_left _ (List.mem_append_left _ (List.mem_append_right _ h)))
  have k237 := hts (.constantLong RX4 237 (-9223372036854775808)) (List.mem_of_getElem? (i := 1) rfl)
  have k42 := hts (.fieldLink RX4 42 "SpineDesks" "rows" "LSpineDesks$Rows;") (List.mem_of_getElem? (i := 2) rfl)
  unfold f_X4_pair at hf
  refine lv_iload_n hx hb dX4_pair_0 rfl (lv_at hl 1 rfl) ?_
  obtain ⟨r1, q2, hf⟩ := cl1_e hf
  refine x_callSi (pre := ([] : va_W)) (wc := ([] : va_W)) (wc1 := ([] : va_W)) (post := WH κ a uh ++ (WR κ a ur ++ (WN κ a un ++ (WS κ a us ++ (WO κ a uo))))) (As := [.int p1]) (rest := []) (w1 := WH κ a uh ++ (WR κ a ur ++ (WN κ a un ++ (WS κ a us ++ (WO κ a uo))))) ⟨hx, hb, hml, hown, hts⟩ hK hG hA (by simp only [List.append_assoc, List.nil_append, List.append_nil]) (by simp only [List.append_assoc, List.nil_append, List.append_nil]) (c_X4_isDesk l D κ a H.size p1 r1 q2) (va_cwS 1 hts gX4_pair_X4_isDesk rfl rfl rfl (by decide +kernel) ⟨Nat.le_of_ble_eq_true rfl, Nat.le_of_ble_eq_true rfl⟩) rfl hl.1 rfl (Nat.le_of_ble_eq_true rfl) dX4_pair_1 ⟨Nat.zero_le _, Nat.zero_le _⟩ (fun H locs hG => ?_)
  refine lv_if_eq (tgt := 35) hx hb dX4_pair_4 (by decide) (fun c3 => ?_) (fun c3 => ?_)
  · replace hf := if_t c3 hf
    refine lv_ldc2 (v := (-9223372036854775808)) hx hb hown k237 dX4_pair_35 ?_
    have hz := Option.some.inj hf
    have z0 := (Prod.mk.inj hz).1
    replace hz := (Prod.mk.inj hz).2
    have z1 := hz
    exact x_lret hx hb hr hlk hK hG z0 (by rw [z1]) dX4_pair_38
  · replace hf := if_f c3 hf
    refine lv_iload_n hx hb dX4_pair_7 rfl (lv_at hl 2 rfl) ?_
    obtain ⟨r4, q5, hf⟩ := cl1_e hf
    refine x_callSi (pre := ([] : va_W)) (wc := ([] : va_W)) (wc1 := ([] : va_W)) (post := WH κ a uh ++ (WR κ a ur ++ (WN κ a un ++ (WS κ a us ++ (WO κ a uo))))) (As := [.int p2]) (rest := []) (w1 := WH κ a uh ++ (WR κ a ur ++ (WN κ a un ++ (WS κ a us ++ (WO κ a uo))))) ⟨hx, hb, hml, hown, hts⟩ hK hG hA (by simp only [List.append_assoc, List.nil_append, List.append_nil]) (by simp only [List.append_assoc, List.nil_append, List.append_nil]) (c_X4_isDesk l D κ a H.size p2 r4 q5) (va_cwS 1 hts gX4_pair_X4_isDesk rfl rfl rfl (by decide +kernel) ⟨Nat.le_of_ble_eq_true rfl, Nat.le_of_ble_eq_true rfl⟩) rfl hl.1 rfl (Nat.le_of_ble_eq_true rfl) dX4_pair_8 ⟨Nat.zero_le _, Nat.zero_le _⟩ (fun H locs hG => ?_)
    refine lv_if_eq (tgt := 35) hx hb dX4_pair_11 (by decide) (fun c6 => ?_) (fun c6 => ?_)
    · replace hf := if_t c6 hf
      refine lv_ldc2 (v := (-9223372036854775808)) hx hb hown k237 dX4_pair_35 ?_
      have hz := Option.some.inj hf
      have z0 := (Prod.mk.inj hz).1
      replace hz := (Prod.mk.inj hz).2
      have z1 := hz
      exact x_lret hx hb hr hlk hK hG z0 (by rw [z1]) dX4_pair_38
    · replace hf := if_f c6 hf
      refine lv_iload_n hx hb dX4_pair_14 rfl (lv_at hl 3 rfl) ?_
      refine lv_if_lt (tgt := 35) hx hb dX4_pair_15 (by decide) (fun c7 => ?_) (fun c7 => ?_)
      · replace hf := if_t c7 hf
        refine lv_ldc2 (v := (-9223372036854775808)) hx hb hown k237 dX4_pair_35 ?_
        have hz := Option.some.inj hf
        have z0 := (Prod.mk.inj hz).1
        replace hz := (Prod.mk.inj hz).2
        have z1 := hz
        exact x_lret hx hb hr hlk hK hG z0 (by rw [z1]) dX4_pair_38
      · replace hf := if_f c7 hf
        refine lv_iload_n hx hb dX4_pair_18 rfl (lv_at hl 3 rfl) ?_
        refine lv_bipush (v := 40) hx hb dX4_pair_19 (by decide) ?_
        refine lv_icmp_ge (tgt := 35) hx hb dX4_pair_21 (by decide) (fun c8 => ?_) (fun c8 => ?_)
        · replace hf := if_t c8 hf
          refine lv_ldc2 (v := (-9223372036854775808)) hx hb hown k237 dX4_pair_35 ?_
          have hz := Option.some.inj hf
          have z0 := (Prod.mk.inj hz).1
          replace hz := (Prod.mk.inj hz).2
          have z1 := hz
          exact x_lret hx hb hr hlk hK hG z0 (by rw [z1]) dX4_pair_38
        · replace hf := if_f c8 hf
          refine lv_iload hx hb dX4_pair_24 (lv_at hl 4 rfl) ?_
          refine lv_if_lt (tgt := 35) hx hb dX4_pair_26 (by decide) (fun c9 => ?_) (fun c9 => ?_)
          · replace hf := if_t c9 hf
            refine lv_ldc2 (v := (-9223372036854775808)) hx hb hown k237 dX4_pair_35 ?_
            have hz := Option.some.inj hf
            have z0 := (Prod.mk.inj hz).1
            replace hz := (Prod.mk.inj hz).2
            have z1 := hz
            exact x_lret hx hb hr hlk hK hG z0 (by rw [z1]) dX4_pair_38
          · replace hf := if_f c9 hf
            refine lv_iload hx hb dX4_pair_29 (lv_at hl 4 rfl) ?_
            refine lv_iconst (v := 2) hx hb dX4_pair_31 (by decide) ?_
            refine lv_icmp_le (tgt := 39) hx hb dX4_pair_32 (by decide) (fun c10 => ?_) (fun c10 => ?_)
            · replace hf := if_t c10 hf
              refine lv_aload_n hx hb dX4_pair_39 rfl (lv_at hl 0 rfl) ?_
              refine x_get (C := RX4) (T := TX4) (N := 8) (ci := 4) hx hb hts iX4 hown hK hG 25 rfl rfl 5 (by decide) k42 (v := .ref (a 13)) rfl dX4_pair_40 ?_
              refine lv_iload_n hx hb dX4_pair_43 rfl (lv_at hl 1 rfl) ?_
              refine lv_iload_n hx hb dX4_pair_44 rfl (lv_at hl 2 rfl) ?_
              refine lv_iload_n hx hb dX4_pair_45 rfl (lv_at hl 3 rfl) ?_
              refine lv_iload hx hb dX4_pair_46 (lv_at hl 4 rfl) ?_
              obtain ⟨r11, ur12, q13, hf⟩ := cl2_e hf
              refine x_callVl (pre := ([] : va_W)) (wc := WH κ a uh ++ (WR κ a ur)) (wc1 := WH κ a uh ++ (WR κ a ur12)) (post := WN κ a un ++ (WS κ a us ++ (WO κ a uo))) (As := [.int p1, .int p2, .int p3, .int p4]) (rest := []) (w1 := WH κ a uh ++ (WR κ a ur12 ++ (WN κ a un ++ (WS κ a us ++ (WO κ a uo))))) ⟨hx, hb, hml, hown, hts⟩ hK hG hA (by simp only [List.append_assoc, List.nil_append, List.append_nil]) (by simp only [List.append_assoc, List.nil_append, List.append_nil]) (c_X2_pairAt l D κ a H.size p1 p2 p3 p4 uh ur r11 ur12 q13) (cwV 4 hts gX4_pair_X2_pairAt rfl rfl rfl (by decide +kernel) ⟨Nat.le_of_ble_eq_true rfl, Nat.le_of_ble_eq_true rfl⟩) 13 2 rfl rfl rfl rfl hl.1 rfl (Nat.le_of_ble_eq_true rfl) dX4_pair_48 ⟨Nat.zero_le _, Nat.zero_le _⟩ (fun H locs hG => ?_)
              have hz := Option.some.inj hf
              have z0 := (Prod.mk.inj hz).1
              replace hz := (Prod.mk.inj hz).2
              have z1 := hz
              exact x_lret hx hb hr hlk hK hG z0 (by rw [z1]) dX4_pair_51
            · replace hf := if_f c10 hf
              refine lv_ldc2 (v := (-9223372036854775808)) hx hb hown k237 dX4_pair_35 ?_
              have hz := Option.some.inj hf
              have z0 := (Prod.mk.inj hz).1
              replace hz := (Prod.mk.inj hz).2
              have z1 := hz
              exact x_lret hx hb hr hlk hK hG z0 (by rw [z1]) dX4_pair_38
set_option maxRecDepth 100000 in
set_option maxHeartbeats 4000000 in
theorem c_X4_tagged (l : Launch) (D : va_G) (κ : Nat → ClassId) (a : Nat → Nat) (sz : Nat) (p1 : Int32) (p2 : Int32) (uh : HS) (ur : RS) (un : NS) (us : SS) (uo : OS) (r' : Int32)  (hf : f_X4_tagged p1 p2 uh uo = some (r')) : Met l yX4_tagged wsX4_tagged ({ frames := 2, cells := 0, slots := 0, locals := 46 } : Room) (xPc D κ [.ref (a 25), .int p1, .int p2] (WH κ a uh ++ (WR κ a ur ++ (WN κ a un ++ (WS κ a us ++ (WO κ a uo))))) sz) (xQi D κ r' (WH κ a uh ++ (WR κ a ur ++ (WN κ a un ++ (WS κ a us ++ (WO κ a uo))))) (va_A (WH κ a uh ++ (WR κ a ur ++ (WN κ a un ++ (WS κ a us ++ (WO κ a uo))))) sz)) 0 0 (va_A (WH κ a uh ++ (WR κ a ur ++ (WN κ a un ++ (WS κ a us ++ (WO κ a uo))))) sz) := by
  refine x_ofW (cc := cX4_tagged) (maxL := 7) (ret := (some .int)) (Qf := fun A => xQi D κ r' (WH κ a uh ++ (WR κ a ur ++ (WN κ a un ++ (WS κ a us ++ (WO κ a uo))))) A) (by decide) rfl (Nat.le_of_ble_eq_true rfl) ?_
  intro p e s m below meth c hx hb hr hlk hml hown hts hK A hA H locs hG ls hl
  have hown : s.vm.findClass RX4 = some m.cls := hown
  have hl : lv_has ls 7 [(0, .ref (a 25)), (1, .int p1), (2, .int p2)] := hl
  have iX4 : ∀ w ∈ u_ws RX4 TX4 8, w ∈ wsX4_tagged := fun _ h => List.mem_cons_of_mem _ (List.mem_append_left _ (List.mem_append_right _ h))
  have k12 := hts (.fieldLink RX4 12 "SpineDesks" "hall" "LSpineDesks$Hall;") (List.mem_of_getElem? (i := 1) rfl)
  have L59 : ∀ (rec26 : Int32 → Int32 → Int32 → Int32 → Int32 → Option (Int32)) (hr26 : ∀ (y1 : Int32) (y2 : Int32) (y3 : Int32) (y4 : Int32) (y5 : Int32), rec26 y1 y2 y3 y4 y5 = some (r') → ∀ (H : Heap) (locs : List Loc) (ls : Array Slot), xG D A s.heap (WH κ a uh ++ (WR κ a ur ++ (WN κ a un ++ (WS κ a us ++ (WO κ a uo))))) H locs → lv_has ls 7 [(0, .ref (a 25)), (1, .int y1), (2, .int y2), (3, .int y3), (4, .int y4), (5, .int y5)] → W p l e ({ frames := 2, cells := 0, slots := 0, locals := 46 } : Room) s m (([.ref (a 25), .int p1, .int p2] : List Value).toArray) below meth c H locs 0 0 (MQ below (xQi D κ r' (WH κ a uh ++ (WR κ a ur ++ (WN κ a un ++ (WS κ a us ++ (WO κ a uo))))) A) (([.ref (a 25), .int p1, .int p2] : List Value).toArray) s 0 0 A) (F0 m 26 ls [])), ∀ (x1 : Int32) (x2 : Int32) (x3 : Int32) (x4 : Int32) (x5 : Int32), f_X4_tagged_59 uh uo rec26 x1 x2 x3 x4 x5 = some (r') → ∀ (H : Heap) (locs : List Loc) (ls : Array Slot), xG D A s.heap (WH κ a uh ++ (WR κ a ur ++ (WN κ a un ++ (WS κ a us ++ (WO κ a uo))))) H locs → lv_has ls 7 [(0, .ref (a 25)), (1, .int x1), (2, .int x2), (3, .int x3), (4, .int x4), (5, .int x5)] → W p l e ({ frames := 2, cells := 0, slots := 0, locals := 46 } : Room) s m (([.ref (a 25), .int p1, .int p2] : List Value).toArray) below meth c H locs 0 0 (MQ below (xQi D κ r' (WH κ a uh ++ (WR κ a ur ++ (WN κ a un ++ (WS κ a us ++ (WO κ a uo))))) A) (([.ref (a 25), .int p1, .int p2] : List Value).toArray) s 0 0 A) (F0 m 59 ls []) := by
    intro rec26 hr26 x1 x2 x3 x4 x5 hf H locs ls hG hl
    unfold f_X4_tagged_59 at hf
    obtain ⟨y1, ey1, hf⟩ := bnd_e hf
    refine lv_iinc (v := y1) (lv' := [(5, .int y1), (0, .ref (a 25)), (1, .int x1), (2, .int x2), (3, .int x3), (4, .int x4)]) hx hb dX4_tagged_59 hl (k := 5) rfl (by rw [ey1]; rfl) (by decide) rfl (fun ls hl => ?_)
    refine lv_goto (tgt := 26) hx hb dX4_tagged_62 (by decide) ?_
    exact hr26 x1 x2 x3 x4 y1 hf H locs ls hG (lv_sub hl [1, 2, 3, 4, 5, 0] rfl)
  have L26 : ∀ (n : Nat), ∀ (x1 : Int32) (x2 : Int32) (x3 : Int32) (x4 : Int32) (x5 : Int32), f_X4_tagged_26 uh uo n x1 x2 x3 x4 x5 = some (r') → ∀ (H : Heap) (locs : List Loc) (ls : Array Slot), xG D A s.heap (WH κ a uh ++ (WR κ a ur ++ (WN κ a un ++ (WS κ a us ++ (WO κ a uo))))) H locs → lv_has ls 7 [(0, .ref (a 25)), (1, .int x1), (2, .int x2), (3, .int x3), (4, .int x4), (5, .int x5)] → W p l e ({ frames := 2, cells := 0, slots := 0, locals := 46 } : Room) s m (([.ref (a 25), .int p1, .int p2] : List Value).toArray) below meth c H locs 0 0 (MQ below (xQi D κ r' (WH κ a uh ++ (WR κ a ur ++ (WN κ a un ++ (WS κ a us ++ (WO κ a uo))))) A) (([.ref (a 25), .int p1, .int p2] : List Value).toArray) s 0 0 A) (F0 m 26 ls []) := by
    intro  n
    induction n with
    | zero => intro x1 x2 x3 x4 x5 hf; cases hf
    | succ n ih =>
      intro x1 x2 x3 x4 x5 hf H locs ls hG hl
      replace hf : f_X4_tagged_B26 uh uo (f_X4_tagged_26 uh uo n) x1 x2 x3 x4 x5 = some (r') := hf
      unfold f_X4_tagged_B26 at hf
      refine lv_iload hx hb dX4_tagged_26 (lv_at hl 5 rfl) ?_
      refine lv_bipush (v := 6) hx hb dX4_tagged_28 (by decide) ?_
      refine lv_icmp_ge (tgt := 65) hx hb dX4_tagged_30 (by decide) (fun c2 => ?_) (fun c2 => ?_)
      · replace hf := if_t c2 hf
        refine lv_iload_n hx hb dX4_tagged_65 rfl (lv_at hl 2 rfl) ?_
        refine lv_if_eq (tgt := 74) hx hb dX4_tagged_66 (by decide) (fun c3 => ?_) (fun c3 => ?_)
        · replace hf := if_t c3 hf
          refine lv_iload_n hx hb dX4_tagged_74 rfl (lv_at hl 3 rfl) ?_
          refine lv_goto (tgt := 80) hx hb dX4_tagged_75 (by decide) ?_
          have z0 := Option.some.inj hf
          exact x_iret hx hb hr hlk hK hG z0 rfl dX4_tagged_80
        · replace hf := if_f c3 hf
          refine lv_iload_n hx hb dX4_tagged_69 rfl (lv_at hl 3 rfl) ?_
          refine lv_iconst (v := (-1)) hx hb dX4_tagged_70 (by decide) ?_
          refine lv_icmp_ne (tgt := 78) hx hb dX4_tagged_71 (by decide) (fun c4 => ?_) (fun c4 => ?_)
          · replace hf := if_f c4 hf
            refine lv_iload hx hb dX4_tagged_78 (lv_at hl 4 rfl) ?_
            have z0 := Option.some.inj hf
            exact x_iret hx hb hr hlk hK hG z0 rfl dX4_tagged_80
          · replace hf := if_t c4 hf
            refine lv_iload_n hx hb dX4_tagged_74 rfl (lv_at hl 3 rfl) ?_
            refine lv_goto (tgt := 80) hx hb dX4_tagged_75 (by decide) ?_
            have z0 := Option.some.inj hf
            exact x_iret hx hb hr hlk hK hG z0 rfl dX4_tagged_80
      · replace hf := if_f c2 hf
        refine lv_aload_n hx hb dX4_tagged_33 rfl (lv_at hl 0 rfl) ?_
        refine x_get (C := RX4) (T := TX4) (N := 8) (ci := 4) hx hb hts iX4 hown hK hG 25 rfl rfl 0 (by decide) k12 (v := .ref (a 0)) rfl dX4_tagged_34 ?_
        refine lv_iload hx hb dX4_tagged_37 (lv_at hl 5 rfl) ?_
        refine lv_iload_n hx hb dX4_tagged_39 rfl (lv_at hl 1 rfl) ?_
        obtain ⟨r5, q6, hf⟩ := cl1_e hf
        refine x_callVi (pre := ([] : va_W)) (wc := WH κ a uh) (wc1 := WH κ a uh) (post := WR κ a ur ++ (WN κ a un ++ (WS κ a us ++ (WO κ a uo)))) (As := [.int x5, .int x1]) (rest := []) (w1 := WH κ a uh ++ (WR κ a ur ++ (WN κ a un ++ (WS κ a us ++ (WO κ a uo))))) ⟨hx, hb, hml, hown, hts⟩ hK hG hA (by simp only [List.append_assoc, List.nil_append, List.append_nil]) (by simp only [List.append_assoc, List.nil_append, List.append_nil]) (c_X0_plainWithTag l D κ a H.size x5 x1 uh r5 q6) (cwV 2 hts gX4_tagged_X0_plainWithTag rfl rfl rfl (by decide +kernel) ⟨Nat.le_of_ble_eq_true rfl, Nat.le_of_ble_eq_true rfl⟩) 0 0 rfl rfl rfl rfl hl.1 rfl (Nat.le_of_ble_eq_true rfl) dX4_tagged_40 ⟨Nat.zero_le _, Nat.zero_le _⟩ (fun H locs hG => ?_)
        refine lv_istore (lv' := [(6, .int r5), (0, .ref (a 25)), (1, .int x1), (2, .int x2), (3, .int x3), (4, .int x4), (5, .int x5)]) hx hb dX4_tagged_43 hl (by decide) rfl (fun ls hl => ?_)
        refine lv_iload hx hb dX4_tagged_45 (lv_at hl 0 rfl) ?_
        refine lv_iload hx hb dX4_tagged_47 (lv_at hl 5 rfl) ?_
        refine lv_icmp_le (tgt := 59) hx hb dX4_tagged_49 (by decide) (fun c7 => ?_) (fun c7 => ?_)
        · replace hf := if_t c7 hf
          exact L59 (f_X4_tagged_26 uh uo n) ih  x1 x2 x3 x4 x5 hf H locs ls hG (lv_sub hl [1, 2, 3, 4, 5, 6] rfl)
        · replace hf := if_f c7 hf
          refine lv_iload hx hb dX4_tagged_52 (lv_at hl 6 rfl) ?_
          refine lv_istore_n (lv' := [(3, .int x5), (6, .int r5), (0, .ref (a 25)), (1, .int x1), (2, .int x2), (4, .int x4), (5, .int x5)]) hx hb dX4_tagged_54 rfl hl (by decide) rfl (fun ls hl => ?_)
          refine lv_iload hx hb dX4_tagged_55 (lv_at hl 1 rfl) ?_
          refine lv_istore (lv' := [(4, .int r5), (3, .int x5), (6, .int r5), (0, .ref (a 25)), (1, .int x1), (2, .int x2), (5, .int x5)]) hx hb dX4_tagged_57 hl (by decide) rfl (fun ls hl => ?_)
          exact L59 (f_X4_tagged_26 uh uo n) ih  x1 x2 x5 r5 x5 hf H locs ls hG (lv_sub hl [3, 4, 5, 1, 0, 6] rfl)
  unfold f_X4_tagged at hf
  refine lv_iload_n hx hb dX4_tagged_0 rfl (lv_at hl 1 rfl) ?_
  obtain ⟨r8, q9, hf⟩ := cl1_e hf
  refine x_callSi (pre := ([] : va_W)) (wc := ([] : va_W)) (wc1 := ([] : va_W)) (post := WH κ a uh ++ (WR κ a ur ++ (WN κ a un ++ (WS κ a us ++ (WO κ a uo))))) (As := [.int p1]) (rest := []) (w1 := WH κ a uh ++ (WR κ a ur ++ (WN κ a un ++ (WS κ a us ++ (WO κ a uo))))) ⟨hx, hb, hml, hown, hts⟩ hK hG hA (by simp only [List.append_assoc, List.nil_append, List.append_nil]) (by simp only [List.append_assoc, List.nil_append, List.append_nil]) (c_X4_isTag l D κ a H.size p1 r8 q9) (va_cwS 1 hts gX4_tagged_X4_isTag rfl rfl rfl (by decide +kernel) ⟨Nat.le_of_ble_eq_true rfl, Nat.le_of_ble_eq_true rfl⟩) rfl hl.1 rfl (Nat.le_of_ble_eq_true rfl) dX4_tagged_1 ⟨Nat.zero_le _, Nat.zero_le _⟩ (fun H locs hG => ?_)
  refine lv_if_eq (tgt := 16) hx hb dX4_tagged_4 (by decide) (fun c10 => ?_) (fun c10 => ?_)
  · replace hf := if_t c10 hf
    refine lv_iconst (v := (-1)) hx hb dX4_tagged_16 (by decide) ?_
    have z0 := Option.some.inj hf
    exact x_iret hx hb hr hlk hK hG z0 rfl dX4_tagged_17
  · replace hf := if_f c10 hf
    refine lv_iload_n hx hb dX4_tagged_7 rfl (lv_at hl 2 rfl) ?_
    refine lv_if_lt (tgt := 16) hx hb dX4_tagged_8 (by decide) (fun c11 => ?_) (fun c11 => ?_)
    · replace hf := if_t c11 hf
      refine lv_iconst (v := (-1)) hx hb dX4_tagged_16 (by decide) ?_
      have z0 := Option.some.inj hf
      exact x_iret hx hb hr hlk hK hG z0 rfl dX4_tagged_17
    · replace hf := if_f c11 hf
      refine lv_iload_n hx hb dX4_tagged_11 rfl (lv_at hl 2 rfl) ?_
      refine lv_iconst (v := 1) hx hb dX4_tagged_12 (by decide) ?_
      refine lv_icmp_le (tgt := 18) hx hb dX4_tagged_13 (by decide) (fun c12 => ?_) (fun c12 => ?_)
      · replace hf := if_t c12 hf
        refine lv_iconst (v := (-1)) hx hb dX4_tagged_18 (by decide) ?_
        refine lv_istore_n (lv' := [(3, .int ((-1))), (0, .ref (a 25)), (1, .int p1), (2, .int p2)]) hx hb dX4_tagged_19 rfl hl (by decide) rfl (fun ls hl => ?_)
        refine lv_iconst (v := 0) hx hb dX4_tagged_20 (by decide) ?_
        refine lv_istore (lv' := [(4, .int 0), (3, .int ((-1))), (0, .ref (a 25)), (1, .int p1), (2, .int p2)]) hx hb dX4_tagged_21 hl (by decide) rfl (fun ls hl => ?_)
        refine lv_iconst (v := 0) hx hb dX4_tagged_23 (by decide) ?_
        refine lv_istore (lv' := [(5, .int 0), (4, .int 0), (3, .int ((-1))), (0, .ref (a 25)), (1, .int p1), (2, .int p2)]) hx hb dX4_tagged_24 hl (by decide) rfl (fun ls hl => ?_)
        exact L26  FU p1 p2 ((-1)) 0 0 hf H locs ls hG (lv_sub hl [3, 4, 5, 2, 1, 0] rfl)
      · replace hf := if_f c12 hf
        refine lv_iconst (v := (-1)) hx hb dX4_tagged_16 (by decide) ?_
        have z0 := Option.some.inj hf
        exact x_iret hx hb hr hlk hK hG z0 rfl dX4_tagged_17
set_option maxRecDepth 100000 in
set_option maxHeartbeats 4000000 in
theorem c_X4_best (l : Launch) (D : va_G) (κ : Nat → ClassId) (a : Nat → Nat) (sz : Nat) (p1 : Int32) (p2 : Int32) (uh : HS) (ur : RS) (un : NS) (us : SS) (uo : OS) (r' : Int32) (us' : SS) (hf : f_X4_best p1 p2 un us uo = some (r', us')) : Met l yX4_best wsX4_best ({ frames := 13, cells := 0, slots := 0, locals := 309 } : Room) (xPc D κ [.ref (a 25), .int p1, .int p2] (WH κ a uh ++ (WR κ a ur ++ (WN κ a un ++ (WS κ a us ++ (WO κ a uo))))) sz) (xQi D κ r' (WH κ a uh ++ (WR κ a ur ++ (WN κ a un ++ (WS κ a us' ++ (WO κ a uo))))) (va_A (WH κ a uh ++ (WR κ a ur ++ (WN κ a un ++ (WS κ a us ++ (WO κ a uo))))) sz)) 0 0 (va_A (WH κ a uh ++ (WR κ a ur ++ (WN κ a un ++ (WS κ a us ++ (WO κ a uo))))) sz) := by
  refine x_ofW (cc := cX4_best) (maxL := 3) (ret := (some .int)) (Qf := fun A => xQi D κ r' (WH κ a uh ++ (WR κ a ur ++ (WN κ a un ++ (WS κ a us' ++ (WO κ a uo))))) A) (by decide) rfl (Nat.le_of_ble_eq_true rfl) ?_
  intro p e s m below meth c hx hb hr hlk hml hown hts hK A hA H locs hG ls hl
  have hown : s.vm.findClass RX4 = some m.cls := hown
  have hl : lv_has ls 3 [(0, .ref (a 25)), (1, .int p1), (2, .int p2)] := hl
  have iX3 : ∀ w ∈ u_ws RX3 TX3 8, w ∈ wsX4_best := fun _ h => List.mem_cons_of_mem _ (List.mem_append_left _ (List.mem_append_right _ h))
  have iX4 : ∀ w ∈ u_ws RX4 TX4 8, w ∈ wsX4_best := fun _ h => List.mem_cons_of_mem _ (List.mem_append_left _ (List.mem_append_left _ (List.mem_append_right _ h)))
  have k282 := hts (.fieldLink RX4 282 "SpineDesks$Search" "reach" "I") (List.mem_of_getElem? (i := 2) rfl)
  have k285 := hts (.fieldLink RX4 285 "SpineDesks$Search" "first" "J") (List.mem_of_getElem? (i := 3) rfl)
  have k51 := hts (.fieldLink RX4 51 "SpineDesks" "search" "LSpineDesks$Search;") (List.mem_of_getElem? (i := 1) rfl)
  unfold f_X4_best at hf
  refine lv_iload_n hx hb dX4_best_0 rfl (lv_at hl 1 rfl) ?_
  obtain ⟨r1, q2, hf⟩ := cl1_e hf
  refine x_callSi (pre := ([] : va_W)) (wc := ([] : va_W)) (wc1 := ([] : va_W)) (post := WH κ a uh ++ (WR κ a ur ++ (WN κ a un ++ (WS κ a us ++ (WO κ a uo))))) (As := [.int p1]) (rest := []) (w1 := WH κ a uh ++ (WR κ a ur ++ (WN κ a un ++ (WS κ a us ++ (WO κ a uo))))) ⟨hx, hb, hml, hown, hts⟩ hK hG hA (by simp only [List.append_assoc, List.nil_append, List.append_nil]) (by simp only [List.append_assoc, List.nil_append, List.append_nil]) (c_X4_isPlace l D κ a H.size p1 r1 q2) (va_cwS 1 hts gX4_best_X4_isPlace rfl rfl rfl (by decide +kernel) ⟨Nat.le_of_ble_eq_true rfl, Nat.le_of_ble_eq_true rfl⟩) rfl hl.1 rfl (Nat.le_of_ble_eq_true rfl) dX4_best_1 ⟨Nat.zero_le _, Nat.zero_le _⟩ (fun H locs hG => ?_)
  refine lv_if_eq (tgt := 16) hx hb dX4_best_4 (by decide) (fun c3 => ?_) (fun c3 => ?_)
  · replace hf := if_t c3 hf
    refine lv_bipush (v := (-2)) hx hb dX4_best_16 (by decide) ?_
    have hz := Option.some.inj hf
    have z0 := (Prod.mk.inj hz).1
    replace hz := (Prod.mk.inj hz).2
    have z1 := hz
    exact x_iret hx hb hr hlk hK hG z0 (by rw [z1]) dX4_best_18
  · replace hf := if_f c3 hf
    refine lv_iload_n hx hb dX4_best_7 rfl (lv_at hl 2 rfl) ?_
    refine lv_if_lt (tgt := 16) hx hb dX4_best_8 (by decide) (fun c4 => ?_) (fun c4 => ?_)
    · replace hf := if_t c4 hf
      refine lv_bipush (v := (-2)) hx hb dX4_best_16 (by decide) ?_
      have hz := Option.some.inj hf
      have z0 := (Prod.mk.inj hz).1
      replace hz := (Prod.mk.inj hz).2
      have z1 := hz
      exact x_iret hx hb hr hlk hK hG z0 (by rw [z1]) dX4_best_18
    · replace hf := if_f c4 hf
      refine lv_iload_n hx hb dX4_best_11 rfl (lv_at hl 2 rfl) ?_
      refine lv_iconst (v := 2) hx hb dX4_best_12 (by decide) ?_
      refine lv_icmp_le (tgt := 19) hx hb dX4_best_13 (by decide) (fun c5 => ?_) (fun c5 => ?_)
      · replace hf := if_t c5 hf
        refine lv_aload_n hx hb dX4_best_19 rfl (lv_at hl 0 rfl) ?_
        refine x_get (C := RX4) (T := TX4) (N := 8) (ci := 4) hx hb hts iX4 hown hK hG 25 rfl rfl 6 (by decide) k51 (v := .ref (a 23)) rfl dX4_best_20 ?_
        refine lv_iload_n hx hb dX4_best_23 rfl (lv_at hl 1 rfl) ?_
        refine lv_iconst (v := (-1)) hx hb dX4_best_24 (by decide) ?_
        refine lv_iconst (v := (-1)) hx hb dX4_best_25 (by decide) ?_
        obtain ⟨us6, q7, hf⟩ := cl1_e hf
        refine x_callVv (pre := WH κ a uh ++ (WR κ a ur)) (wc := WN κ a un ++ (WS κ a us)) (wc1 := WN κ a un ++ (WS κ a us6)) (post := WO κ a uo) (As := [.int p1, .int ((-1)), .int ((-1))]) (rest := []) (w1 := WH κ a uh ++ (WR κ a ur ++ (WN κ a un ++ (WS κ a us6 ++ (WO κ a uo))))) ⟨hx, hb, hml, hown, hts⟩ hK hG hA (by simp only [List.append_assoc, List.nil_append, List.append_nil]) (by simp only [List.append_assoc, List.nil_append, List.append_nil]) (c_X3_seek l D κ a H.size p1 ((-1)) ((-1)) un us us6 q7) (cwV 3 hts gX4_best_X3_seek rfl rfl rfl (by decide +kernel) ⟨Nat.le_of_ble_eq_true rfl, Nat.le_of_ble_eq_true rfl⟩) 4 3 rfl rfl rfl rfl hl.1 rfl (Nat.le_of_ble_eq_true rfl) dX4_best_26 ⟨Nat.zero_le _, Nat.zero_le _⟩ (fun H locs hG => ?_)
        refine lv_iload_n hx hb dX4_best_29 rfl (lv_at hl 2 rfl) ?_
        refine lv_iconst (v := 2) hx hb dX4_best_30 (by decide) ?_
        refine lv_icmp_ne (tgt := 42) hx hb dX4_best_31 (by decide) (fun c8 => ?_) (fun c8 => ?_)
        · replace hf := if_f c8 hf
          refine lv_iload_n hx hb dX4_best_42 rfl (lv_at hl 2 rfl) ?_
          refine lv_if_ne (tgt := 63) hx hb dX4_best_43 (by decide) (fun c9 => ?_) (fun c9 => ?_)
          · replace hf := if_f c9 hf
            refine lv_aload_n hx hb dX4_best_63 rfl (lv_at hl 0 rfl) ?_
            refine x_get (C := RX4) (T := TX4) (N := 8) (ci := 4) hx hb hts iX4 hown hK hG 25 rfl rfl 6 (by decide) k51 (v := .ref (a 23)) rfl dX4_best_64 ?_
            refine lv_aload_n hx hb dX4_best_67 rfl (lv_at hl 0 rfl) ?_
            refine x_get (C := RX4) (T := TX4) (N := 8) (ci := 4) hx hb hts iX4 hown hK hG 25 rfl rfl 6 (by decide) k51 (v := .ref (a 23)) rfl dX4_best_68 ?_
            refine x_get (C := RX3) (T := TX3) (N := 8) (ci := 3) hx hb hts iX3 hown hK hG 23 rfl rfl 6 (by decide) k285 (v := .long (us6.first)) rfl dX4_best_71 ?_
            obtain ⟨r10, q11, hf⟩ := cl1_e hf
            refine x_callVi (pre := WH κ a uh ++ (WR κ a ur)) (wc := WN κ a un ++ (WS κ a us6)) (wc1 := WN κ a un ++ (WS κ a us6)) (post := WO κ a uo) (As := [.long (us6.first)]) (rest := []) (w1 := WH κ a uh ++ (WR κ a ur ++ (WN κ a un ++ (WS κ a us6 ++ (WO κ a uo))))) ⟨hx, hb, hml, hown, hts⟩ hK hG hA (by simp only [List.append_assoc, List.nil_append, List.append_nil]) (by simp only [List.append_assoc, List.nil_append, List.append_nil]) (c_X3_bitsOf l D κ a H.size (us6.first) un us6 r10 q11) (cwV 1 hts gX4_best_X3_bitsOf rfl rfl rfl (by decide +kernel) ⟨Nat.le_of_ble_eq_true rfl, Nat.le_of_ble_eq_true rfl⟩) 4 3 rfl rfl rfl rfl hl.1 rfl (Nat.le_of_ble_eq_true rfl) dX4_best_74 ⟨Nat.zero_le _, Nat.zero_le _⟩ (fun H locs hG => ?_)
            have hz := Option.some.inj hf
            have z0 := (Prod.mk.inj hz).1
            replace hz := (Prod.mk.inj hz).2
            have z1 := hz
            exact x_iret hx hb hr hlk hK hG z0 (by rw [z1]) dX4_best_77
          · replace hf := if_t c9 hf
            refine lv_aload_n hx hb dX4_best_46 rfl (lv_at hl 0 rfl) ?_
            refine x_get (C := RX4) (T := TX4) (N := 8) (ci := 4) hx hb hts iX4 hown hK hG 25 rfl rfl 6 (by decide) k51 (v := .ref (a 23)) rfl dX4_best_47 ?_
            refine lv_aload_n hx hb dX4_best_50 rfl (lv_at hl 0 rfl) ?_
            refine x_get (C := RX4) (T := TX4) (N := 8) (ci := 4) hx hb hts iX4 hown hK hG 25 rfl rfl 6 (by decide) k51 (v := .ref (a 23)) rfl dX4_best_51 ?_
            refine x_get (C := RX3) (T := TX3) (N := 8) (ci := 3) hx hb hts iX3 hown hK hG 23 rfl rfl 6 (by decide) k285 (v := .long (us6.first)) rfl dX4_best_54 ?_
            obtain ⟨r12, q13, hf⟩ := cl1_e hf
            refine x_callVi (pre := WH κ a uh ++ (WR κ a ur)) (wc := WN κ a un ++ (WS κ a us6)) (wc1 := WN κ a un ++ (WS κ a us6)) (post := WO κ a uo) (As := [.long (us6.first)]) (rest := []) (w1 := WH κ a uh ++ (WR κ a ur ++ (WN κ a un ++ (WS κ a us6 ++ (WO κ a uo))))) ⟨hx, hb, hml, hown, hts⟩ hK hG hA (by simp only [List.append_assoc, List.nil_append, List.append_nil]) (by simp only [List.append_assoc, List.nil_append, List.append_nil]) (c_X3_costOf l D κ a H.size (us6.first) un us6 r12 q13) (cwV 1 hts gX4_best_X3_costOf rfl rfl rfl (by decide +kernel) ⟨Nat.le_of_ble_eq_true rfl, Nat.le_of_ble_eq_true rfl⟩) 4 3 rfl rfl rfl rfl hl.1 rfl (Nat.le_of_ble_eq_true rfl) dX4_best_57 ⟨Nat.zero_le _, Nat.zero_le _⟩ (fun H locs hG => ?_)
            refine lv_goto (tgt := 77) hx hb dX4_best_60 (by decide) ?_
            have hz := Option.some.inj hf
            have z0 := (Prod.mk.inj hz).1
            replace hz := (Prod.mk.inj hz).2
            have z1 := hz
            exact x_iret hx hb hr hlk hK hG z0 (by rw [z1]) dX4_best_77
        · replace hf := if_t c8 hf
          refine lv_aload_n hx hb dX4_best_34 rfl (lv_at hl 0 rfl) ?_
          refine x_get (C := RX4) (T := TX4) (N := 8) (ci := 4) hx hb hts iX4 hown hK hG 25 rfl rfl 6 (by decide) k51 (v := .ref (a 23)) rfl dX4_best_35 ?_
          refine x_get (C := RX3) (T := TX3) (N := 8) (ci := 3) hx hb hts iX3 hown hK hG 23 rfl rfl 5 (by decide) k282 (v := .int (us6.reach)) rfl dX4_best_38 ?_
          have hz := Option.some.inj hf
          have z0 := (Prod.mk.inj hz).1
          replace hz := (Prod.mk.inj hz).2
          have z1 := hz
          exact x_iret hx hb hr hlk hK hG z0 (by rw [z1]) dX4_best_41
      · replace hf := if_f c5 hf
        refine lv_bipush (v := (-2)) hx hb dX4_best_16 (by decide) ?_
        have hz := Option.some.inj hf
        have z0 := (Prod.mk.inj hz).1
        replace hz := (Prod.mk.inj hz).2
        have z1 := hz
        exact x_iret hx hb hr hlk hK hG z0 (by rw [z1]) dX4_best_18
set_option maxRecDepth 100000 in
set_option maxHeartbeats 4000000 in
theorem c_X4_by (l : Launch) (D : va_G) (κ : Nat → ClassId) (a : Nat → Nat) (sz : Nat) (p1 : Int32) (p2 : Int32) (uh : HS) (ur : RS) (un : NS) (us : SS) (uo : OS) (r' : Int32) (us' : SS) (hf : f_X4_by p1 p2 un us uo = some (r', us')) : Met l yX4_by wsX4_by ({ frames := 13, cells := 0, slots := 0, locals := 309 } : Room) (xPc D κ [.ref (a 25), .int p1, .int p2] (WH κ a uh ++ (WR κ a ur ++ (WN κ a un ++ (WS κ a us ++ (WO κ a uo))))) sz) (xQi D κ r' (WH κ a uh ++ (WR κ a ur ++ (WN κ a un ++ (WS κ a us' ++ (WO κ a uo))))) (va_A (WH κ a uh ++ (WR κ a ur ++ (WN κ a un ++ (WS κ a us ++ (WO κ a uo))))) sz)) 0 0 (va_A (WH κ a uh ++ (WR κ a ur ++ (WN κ a un ++ (WS κ a us ++ (WO κ a uo))))) sz) := by
  refine x_ofW (cc := cX4_by) (maxL := 3) (ret := (some .int)) (Qf := fun A => xQi D κ r' (WH κ a uh ++ (WR κ a ur ++ (WN κ a un ++ (WS κ a us' ++ (WO κ a uo))))) A) (by decide) rfl (Nat.le_of_ble_eq_true rfl) ?_
  intro p e s m below meth c hx hb hr hlk hml hown hts hK A hA H locs hG ls hl
  have hown : s.vm.findClass RX4 = some m.cls := hown
  have hl : lv_has ls 3 [(0, .ref (a 25)), (1, .int p1), (2, .int p2)] := hl
  have iX4 : ∀ w ∈ u_ws RX4 TX4 8, w ∈ wsX4_by := fun _ h => List.mem_cons_of_mem _ (List.mem_append_left _ (List.mem_append_left _ (List.mem_append_right _ h)))
  have k51 := hts (.fieldLink RX4 51 "SpineDesks" "search" "LSpineDesks$Search;") (List.mem_of_getElem? (i := 1) rfl)
  unfold f_X4_by at hf
  refine lv_iload_n hx hb dX4_by_0 rfl (lv_at hl 1 rfl) ?_
  obtain ⟨r1, q2, hf⟩ := cl1_e hf
  refine x_callSi (pre := ([] : va_W)) (wc := ([] : va_W)) (wc1 := ([] : va_W)) (post := WH κ a uh ++ (WR κ a ur ++ (WN κ a un ++ (WS κ a us ++ (WO κ a uo))))) (As := [.int p1]) (rest := []) (w1 := WH κ a uh ++ (WR κ a ur ++ (WN κ a un ++ (WS κ a us ++ (WO κ a uo))))) ⟨hx, hb, hml, hown, hts⟩ hK hG hA (by simp only [List.append_assoc, List.nil_append, List.append_nil]) (by simp only [List.append_assoc, List.nil_append, List.append_nil]) (c_X4_isPlace l D κ a H.size p1 r1 q2) (va_cwS 1 hts gX4_by_X4_isPlace rfl rfl rfl (by decide +kernel) ⟨Nat.le_of_ble_eq_true rfl, Nat.le_of_ble_eq_true rfl⟩) rfl hl.1 rfl (Nat.le_of_ble_eq_true rfl) dX4_by_1 ⟨Nat.zero_le _, Nat.zero_le _⟩ (fun H locs hG => ?_)
  refine lv_if_eq (tgt := 14) hx hb dX4_by_4 (by decide) (fun c3 => ?_) (fun c3 => ?_)
  · replace hf := if_t c3 hf
    refine lv_iconst (v := (-1)) hx hb dX4_by_14 (by decide) ?_
    have hz := Option.some.inj hf
    have z0 := (Prod.mk.inj hz).1
    replace hz := (Prod.mk.inj hz).2
    have z1 := hz
    exact x_iret hx hb hr hlk hK hG z0 (by rw [z1]) dX4_by_15
  · replace hf := if_f c3 hf
    refine lv_iload_n hx hb dX4_by_7 rfl (lv_at hl 2 rfl) ?_
    obtain ⟨r4, q5, hf⟩ := cl1_e hf
    refine x_callSi (pre := ([] : va_W)) (wc := ([] : va_W)) (wc1 := ([] : va_W)) (post := WH κ a uh ++ (WR κ a ur ++ (WN κ a un ++ (WS κ a us ++ (WO κ a uo))))) (As := [.int p2]) (rest := []) (w1 := WH κ a uh ++ (WR κ a ur ++ (WN κ a un ++ (WS κ a us ++ (WO κ a uo))))) ⟨hx, hb, hml, hown, hts⟩ hK hG hA (by simp only [List.append_assoc, List.nil_append, List.append_nil]) (by simp only [List.append_assoc, List.nil_append, List.append_nil]) (c_X4_isPlace l D κ a H.size p2 r4 q5) (va_cwS 1 hts gX4_by_X4_isPlace rfl rfl rfl (by decide +kernel) ⟨Nat.le_of_ble_eq_true rfl, Nat.le_of_ble_eq_true rfl⟩) rfl hl.1 rfl (Nat.le_of_ble_eq_true rfl) dX4_by_8 ⟨Nat.zero_le _, Nat.zero_le _⟩ (fun H locs hG => ?_)
    refine lv_if_ne (tgt := 16) hx hb dX4_by_11 (by decide) (fun c6 => ?_) (fun c6 => ?_)
    · replace hf := if_f c6 hf
      refine lv_aload_n hx hb dX4_by_16 rfl (lv_at hl 0 rfl) ?_
      refine x_get (C := RX4) (T := TX4) (N := 8) (ci := 4) hx hb hts iX4 hown hK hG 25 rfl rfl 6 (by decide) k51 (v := .ref (a 23)) rfl dX4_by_17 ?_
      refine lv_iload_n hx hb dX4_by_20 rfl (lv_at hl 1 rfl) ?_
      refine lv_iconst (v := (-1)) hx hb dX4_by_21 (by decide) ?_
      refine lv_iconst (v := (-1)) hx hb dX4_by_22 (by decide) ?_
      obtain ⟨us7, q8, hf⟩ := cl1_e hf
      refine x_callVv (pre := WH κ a uh ++ (WR κ a ur)) (wc := WN κ a un ++ (WS κ a us)) (wc1 := WN κ a un ++ (WS κ a us7)) (post := WO κ a uo) (As := [.int p1, .int ((-1)), .int ((-1))]) (rest := []) (w1 := WH κ a uh ++ (WR κ a ur ++ (WN κ a un ++ (WS κ a us7 ++ (WO κ a uo))))) ⟨hx, hb, hml, hown, hts⟩ hK hG hA (by simp only [List.append_assoc, List.nil_append, List.append_nil]) (by simp only [List.append_assoc, List.nil_append, List.append_nil]) (c_X3_seek l D κ a H.size p1 ((-1)) ((-1)) un us us7 q8) (cwV 3 hts gX4_by_X3_seek rfl rfl rfl (by decide +kernel) ⟨Nat.le_of_ble_eq_true rfl, Nat.le_of_ble_eq_true rfl⟩) 4 3 rfl rfl rfl rfl hl.1 rfl (Nat.le_of_ble_eq_true rfl) dX4_by_23 ⟨Nat.zero_le _, Nat.zero_le _⟩ (fun H locs hG => ?_)
      refine lv_aload_n hx hb dX4_by_26 rfl (lv_at hl 0 rfl) ?_
      refine x_get (C := RX4) (T := TX4) (N := 8) (ci := 4) hx hb hts iX4 hown hK hG 25 rfl rfl 6 (by decide) k51 (v := .ref (a 23)) rfl dX4_by_27 ?_
      refine lv_iload_n hx hb dX4_by_30 rfl (lv_at hl 2 rfl) ?_
      obtain ⟨r9, q10, hf⟩ := cl1_e hf
      refine x_callVi (pre := WH κ a uh ++ (WR κ a ur)) (wc := WN κ a un ++ (WS κ a us7)) (wc1 := WN κ a un ++ (WS κ a us7)) (post := WO κ a uo) (As := [.int p2]) (rest := []) (w1 := WH κ a uh ++ (WR κ a ur ++ (WN κ a un ++ (WS κ a us7 ++ (WO κ a uo))))) ⟨hx, hb, hml, hown, hts⟩ hK hG hA (by simp only [List.append_assoc, List.nil_append, List.append_nil]) (by simp only [List.append_assoc, List.nil_append, List.append_nil]) (c_X3_arcInto l D κ a H.size p2 un us7 r9 q10) (cwV 1 hts gX4_by_X3_arcInto rfl rfl rfl (by decide +kernel) ⟨Nat.le_of_ble_eq_true rfl, Nat.le_of_ble_eq_true rfl⟩) 4 3 rfl rfl rfl rfl hl.1 rfl (Nat.le_of_ble_eq_true rfl) dX4_by_31 ⟨Nat.zero_le _, Nat.zero_le _⟩ (fun H locs hG => ?_)
      have hz := Option.some.inj hf
      have z0 := (Prod.mk.inj hz).1
      replace hz := (Prod.mk.inj hz).2
      have z1 := hz
      exact x_iret hx hb hr hlk hK hG z0 (by rw [z1]) dX4_by_34
    · replace hf := if_t c6 hf
      refine lv_iconst (v := (-1)) hx hb dX4_by_14 (by decide) ?_
      have hz := Option.some.inj hf
      have z0 := (Prod.mk.inj hz).1
      replace hz := (Prod.mk.inj hz).2
      have z1 := hz
      exact x_iret hx hb hr hlk hK hG z0 (by rw [z1]) dX4_by_15
set_option maxRecDepth 100000 in
set_option maxHeartbeats 4000000 in
theorem c_X4_dearer (l : Launch) (D : va_G) (κ : Nat → ClassId) (a : Nat → Nat) (sz : Nat) (p1 : Int32) (p2 : Int32) (uh : HS) (ur : RS) (un : NS) (us : SS) (uo : OS) (r' : Int32) (us' : SS) (hf : f_X4_dearer p1 p2 un us uo = some (r', us')) : Met l yX4_dearer wsX4_dearer ({ frames := 13, cells := 0, slots := 0, locals := 309 } : Room) (xPc D κ [.ref (a 25), .int p1, .int p2] (WH κ a uh ++ (WR κ a ur ++ (WN κ a un ++ (WS κ a us ++ (WO κ a uo))))) sz) (xQi D κ r' (WH κ a uh ++ (WR κ a ur ++ (WN κ a un ++ (WS κ a us' ++ (WO κ a uo))))) (va_A (WH κ a uh ++ (WR κ a ur ++ (WN κ a un ++ (WS κ a us ++ (WO κ a uo))))) sz)) 0 0 (va_A (WH κ a uh ++ (WR κ a ur ++ (WN κ a un ++ (WS κ a us ++ (WO κ a uo))))) sz) := by
  refine x_ofW (cc := cX4_dearer) (maxL := 6) (ret := (some .int)) (Qf := fun A => xQi D κ r' (WH κ a uh ++ (WR κ a ur ++ (WN κ a un ++ (WS κ a us' ++ (WO κ a uo))))) A) (by decide) rfl (Nat.le_of_ble_eq_true rfl) ?_
  intro p e s m below meth c hx hb hr hlk hml hown hts hK A hA H locs hG ls hl
  have hown : s.vm.findClass RX4 = some m.cls := hown
  have hl : lv_has ls 6 [(0, .ref (a 25)), (1, .int p1), (2, .int p2)] := hl
  have iX3 : ∀ w ∈ u_ws RX3 TX3 8, w ∈ wsX4_dearer := fun _ h => List.mem_cons_of_mem _ (List.mem_append_left _ (List.mem_append_right _ h))
  have iX4 : ∀ w ∈ u_ws RX4 TX4 8, w ∈ wsX4_dearer := fun _ h => List.mem_cons_of_mem _ (List.mem_append_left _ (List.mem_append_left _ (List.mem_append_right _ h)))
  have k25 := hts (.fieldLink RX4 25 "SpineDesks" "net" "LSpineDesks$Net;") (List.mem_of_getElem? (i := 1) rfl)
  have k282 := hts (.fieldLink RX4 282 "SpineDesks$Search" "reach" "I") (List.mem_of_getElem? (i := 4) rfl)
  have k285 := hts (.fieldLink RX4 285 "SpineDesks$Search" "first" "J") (List.mem_of_getElem? (i := 3) rfl)
  have k302 := hts (.constant RX4 302 (10000000)) (List.mem_of_getElem? (i := 5) rfl)
  have k51 := hts (.fieldLink RX4 51 "SpineDesks" "search" "LSpineDesks$Search;") (List.mem_of_getElem? (i := 2) rfl)
  unfold f_X4_dearer at hf
  refine lv_iload_n hx hb dX4_dearer_0 rfl (lv_at hl 1 rfl) ?_
  obtain ⟨r1, q2, hf⟩ := cl1_e hf
  refine x_callSi (pre := ([] : va_W)) (wc := ([] : va_W)) (wc1 := ([] : va_W)) (post := WH κ a uh ++ (WR κ a ur ++ (WN κ a un ++ (WS κ a us ++ (WO κ a uo))))) (As := [.int p1]) (rest := []) (w1 := WH κ a uh ++ (WR κ a ur ++ (WN κ a un ++ (WS κ a us ++ (WO κ a uo))))) ⟨hx, hb, hml, hown, hts⟩ hK hG hA (by simp only [List.append_assoc, List.nil_append, List.append_nil]) (by simp only [List.append_assoc, List.nil_append, List.append_nil]) (c_X4_isPlace l D κ a H.size p1 r1 q2) (va_cwS 1 hts gX4_dearer_X4_isPlace rfl rfl rfl (by decide +kernel) ⟨Nat.le_of_ble_eq_true rfl, Nat.le_of_ble_eq_true rfl⟩) rfl hl.1 rfl (Nat.le_of_ble_eq_true rfl) dX4_dearer_1 ⟨Nat.zero_le _, Nat.zero_le _⟩ (fun H locs hG => ?_)
  refine lv_if_eq (tgt := 18) hx hb dX4_dearer_4 (by decide) (fun c3 => ?_) (fun c3 => ?_)
  · replace hf := if_t c3 hf
    refine lv_iconst (v := (-1)) hx hb dX4_dearer_18 (by decide) ?_
    have hz := Option.some.inj hf
    have z0 := (Prod.mk.inj hz).1
    replace hz := (Prod.mk.inj hz).2
    have z1 := hz
    exact x_iret hx hb hr hlk hK hG z0 (by rw [z1]) dX4_dearer_19
  · replace hf := if_f c3 hf
    refine lv_aload_n hx hb dX4_dearer_7 rfl (lv_at hl 0 rfl) ?_
    refine x_get (C := RX4) (T := TX4) (N := 8) (ci := 4) hx hb hts iX4 hown hK hG 25 rfl rfl 2 (by decide) k25 (v := .ref (a 19)) rfl dX4_dearer_8 ?_
    refine lv_iload_n hx hb dX4_dearer_11 rfl (lv_at hl 2 rfl) ?_
    obtain ⟨r4, q5, hf⟩ := cl1_e hf
    refine x_callVi (pre := WH κ a uh ++ (WR κ a ur)) (wc := WN κ a un) (wc1 := WN κ a un) (post := WS κ a us ++ (WO κ a uo)) (As := [.int p2]) (rest := []) (w1 := WH κ a uh ++ (WR κ a ur ++ (WN κ a un ++ (WS κ a us ++ (WO κ a uo))))) ⟨hx, hb, hml, hown, hts⟩ hK hG hA (by simp only [List.append_assoc, List.nil_append, List.append_nil]) (by simp only [List.append_assoc, List.nil_append, List.append_nil]) (c_X1_isThere l D κ a H.size p2 un r4 q5) (cwV 1 hts gX4_dearer_X1_isThere rfl rfl rfl (by decide +kernel) ⟨Nat.le_of_ble_eq_true rfl, Nat.le_of_ble_eq_true rfl⟩) 0 1 rfl rfl rfl rfl hl.1 rfl (Nat.le_of_ble_eq_true rfl) dX4_dearer_12 ⟨Nat.zero_le _, Nat.zero_le _⟩ (fun H locs hG => ?_)
    refine lv_if_ne (tgt := 20) hx hb dX4_dearer_15 (by decide) (fun c6 => ?_) (fun c6 => ?_)
    · replace hf := if_f c6 hf
      refine lv_aload_n hx hb dX4_dearer_20 rfl (lv_at hl 0 rfl) ?_
      refine x_get (C := RX4) (T := TX4) (N := 8) (ci := 4) hx hb hts iX4 hown hK hG 25 rfl rfl 6 (by decide) k51 (v := .ref (a 23)) rfl dX4_dearer_21 ?_
      refine lv_iload_n hx hb dX4_dearer_24 rfl (lv_at hl 1 rfl) ?_
      refine lv_iconst (v := (-1)) hx hb dX4_dearer_25 (by decide) ?_
      refine lv_iconst (v := (-1)) hx hb dX4_dearer_26 (by decide) ?_
      obtain ⟨us7, q8, hf⟩ := cl1_e hf
      refine x_callVv (pre := WH κ a uh ++ (WR κ a ur)) (wc := WN κ a un ++ (WS κ a us)) (wc1 := WN κ a un ++ (WS κ a us7)) (post := WO κ a uo) (As := [.int p1, .int ((-1)), .int ((-1))]) (rest := []) (w1 := WH κ a uh ++ (WR κ a ur ++ (WN κ a un ++ (WS κ a us7 ++ (WO κ a uo))))) ⟨hx, hb, hml, hown, hts⟩ hK hG hA (by simp only [List.append_assoc, List.nil_append, List.append_nil]) (by simp only [List.append_assoc, List.nil_append, List.append_nil]) (c_X3_seek l D κ a H.size p1 ((-1)) ((-1)) un us us7 q8) (cwV 3 hts gX4_dearer_X3_seek rfl rfl rfl (by decide +kernel) ⟨Nat.le_of_ble_eq_true rfl, Nat.le_of_ble_eq_true rfl⟩) 4 3 rfl rfl rfl rfl hl.1 rfl (Nat.le_of_ble_eq_true rfl) dX4_dearer_27 ⟨Nat.zero_le _, Nat.zero_le _⟩ (fun H locs hG => ?_)
      refine lv_aload_n hx hb dX4_dearer_30 rfl (lv_at hl 0 rfl) ?_
      refine x_get (C := RX4) (T := TX4) (N := 8) (ci := 4) hx hb hts iX4 hown hK hG 25 rfl rfl 6 (by decide) k51 (v := .ref (a 23)) rfl dX4_dearer_31 ?_
      refine lv_iload_n hx hb dX4_dearer_34 rfl (lv_at hl 2 rfl) ?_
      obtain ⟨r9, q10, hf⟩ := cl1_e hf
      refine x_callVi (pre := WH κ a uh ++ (WR κ a ur)) (wc := WN κ a un ++ (WS κ a us7)) (wc1 := WN κ a un ++ (WS κ a us7)) (post := WO κ a uo) (As := [.int p2]) (rest := []) (w1 := WH κ a uh ++ (WR κ a ur ++ (WN κ a un ++ (WS κ a us7 ++ (WO κ a uo))))) ⟨hx, hb, hml, hown, hts⟩ hK hG hA (by simp only [List.append_assoc, List.nil_append, List.append_nil]) (by simp only [List.append_assoc, List.nil_append, List.append_nil]) (c_X3_firstHas l D κ a H.size p2 un us7 r9 q10) (cwV 1 hts gX4_dearer_X3_firstHas rfl rfl rfl (by decide +kernel) ⟨Nat.le_of_ble_eq_true rfl, Nat.le_of_ble_eq_true rfl⟩) 4 3 rfl rfl rfl rfl hl.1 rfl (Nat.le_of_ble_eq_true rfl) dX4_dearer_35 ⟨Nat.zero_le _, Nat.zero_le _⟩ (fun H locs hG => ?_)
      refine lv_if_ne (tgt := 43) hx hb dX4_dearer_38 (by decide) (fun c11 => ?_) (fun c11 => ?_)
      · replace hf := if_f c11 hf
        refine lv_aload_n hx hb dX4_dearer_43 rfl (lv_at hl 0 rfl) ?_
        refine x_get (C := RX4) (T := TX4) (N := 8) (ci := 4) hx hb hts iX4 hown hK hG 25 rfl rfl 6 (by decide) k51 (v := .ref (a 23)) rfl dX4_dearer_44 ?_
        refine x_get (C := RX3) (T := TX3) (N := 8) (ci := 3) hx hb hts iX3 hown hK hG 23 rfl rfl 6 (by decide) k285 (v := .long (us7.first)) rfl dX4_dearer_47 ?_
        refine lv_topl (fun y12 ey12 => ?_)
        replace hf := bnd_at ey12 hf
        refine lv_lstore_n (lv' := [(3, .long y12), (0, .ref (a 25)), (1, .int p1), (2, .int p2)]) hx hb dX4_dearer_50 rfl hl (by decide) rfl (fun ls hl => ?_)
        refine lv_aload_n hx hb dX4_dearer_51 rfl (lv_at hl 1 rfl) ?_
        refine x_get (C := RX4) (T := TX4) (N := 8) (ci := 4) hx hb hts iX4 hown hK hG 25 rfl rfl 6 (by decide) k51 (v := .ref (a 23)) rfl dX4_dearer_52 ?_
        refine x_get (C := RX3) (T := TX3) (N := 8) (ci := 3) hx hb hts iX3 hown hK hG 23 rfl rfl 5 (by decide) k282 (v := .int (us7.reach)) rfl dX4_dearer_55 ?_
        refine lv_topi (fun y13 ey13 => ?_)
        replace hf := bnd_at ey13 hf
        refine lv_istore (lv' := [(5, .int y13), (3, .long y12), (0, .ref (a 25)), (1, .int p1), (2, .int p2)]) hx hb dX4_dearer_58 hl (by decide) rfl (fun ls hl => ?_)
        refine lv_aload_n hx hb dX4_dearer_60 rfl (lv_at hl 2 rfl) ?_
        refine x_get (C := RX4) (T := TX4) (N := 8) (ci := 4) hx hb hts iX4 hown hK hG 25 rfl rfl 6 (by decide) k51 (v := .ref (a 23)) rfl dX4_dearer_61 ?_
        refine lv_iload_n hx hb dX4_dearer_64 rfl (lv_at hl 3 rfl) ?_
        refine lv_iload_n hx hb dX4_dearer_65 rfl (lv_at hl 4 rfl) ?_
        refine lv_iconst (v := (-1)) hx hb dX4_dearer_66 (by decide) ?_
        obtain ⟨us14, q15, hf⟩ := cl1_e hf
        refine x_callVv (pre := WH κ a uh ++ (WR κ a ur)) (wc := WN κ a un ++ (WS κ a us7)) (wc1 := WN κ a un ++ (WS κ a us14)) (post := WO κ a uo) (As := [.int p1, .int p2, .int ((-1))]) (rest := []) (w1 := WH κ a uh ++ (WR κ a ur ++ (WN κ a un ++ (WS κ a us14 ++ (WO κ a uo))))) ⟨hx, hb, hml, hown, hts⟩ hK hG hA (by simp only [List.append_assoc, List.nil_append, List.append_nil]) (by simp only [List.append_assoc, List.nil_append, List.append_nil]) (c_X3_seek l D κ a H.size p1 p2 ((-1)) un us7 us14 q15) (cwV 3 hts gX4_dearer_X3_seek rfl rfl rfl (by decide +kernel) ⟨Nat.le_of_ble_eq_true rfl, Nat.le_of_ble_eq_true rfl⟩) 4 3 rfl rfl rfl rfl hl.1 rfl (Nat.le_of_ble_eq_true rfl) dX4_dearer_67 ⟨Nat.zero_le _, Nat.zero_le _⟩ (fun H locs hG => ?_)
        refine lv_aload_n hx hb dX4_dearer_70 rfl (lv_at hl 2 rfl) ?_
        refine x_get (C := RX4) (T := TX4) (N := 8) (ci := 4) hx hb hts iX4 hown hK hG 25 rfl rfl 6 (by decide) k51 (v := .ref (a 23)) rfl dX4_dearer_71 ?_
        refine x_get (C := RX3) (T := TX3) (N := 8) (ci := 3) hx hb hts iX3 hown hK hG 23 rfl rfl 5 (by decide) k282 (v := .int (us14.reach)) rfl dX4_dearer_74 ?_
        refine lv_iload hx hb dX4_dearer_77 (lv_at hl 0 rfl) ?_
        refine lv_icmp_eq (tgt := 86) hx hb dX4_dearer_79 (by decide) (fun c16 => ?_) (fun c16 => ?_)
        · replace hf := if_t c16 hf
          refine lv_aload_n hx hb dX4_dearer_86 rfl (lv_at hl 2 rfl) ?_
          refine x_get (C := RX4) (T := TX4) (N := 8) (ci := 4) hx hb hts iX4 hown hK hG 25 rfl rfl 6 (by decide) k51 (v := .ref (a 23)) rfl dX4_dearer_87 ?_
          refine lv_lload_n hx hb dX4_dearer_90 rfl (lv_at hl 1 rfl) ?_
          refine lv_aload_n hx hb dX4_dearer_91 rfl (lv_at hl 2 rfl) ?_
          refine x_get (C := RX4) (T := TX4) (N := 8) (ci := 4) hx hb hts iX4 hown hK hG 25 rfl rfl 6 (by decide) k51 (v := .ref (a 23)) rfl dX4_dearer_92 ?_
          refine x_get (C := RX3) (T := TX3) (N := 8) (ci := 3) hx hb hts iX3 hown hK hG 23 rfl rfl 6 (by decide) k285 (v := .long (us14.first)) rfl dX4_dearer_95 ?_
          obtain ⟨r17, q18, hf⟩ := cl1_e hf
          refine x_callVi (pre := WH κ a uh ++ (WR κ a ur)) (wc := WN κ a un ++ (WS κ a us14)) (wc1 := WN κ a un ++ (WS κ a us14)) (post := WO κ a uo) (As := [.long y12, .long (us14.first)]) (rest := []) (w1 := WH κ a uh ++ (WR κ a ur ++ (WN κ a un ++ (WS κ a us14 ++ (WO κ a uo))))) ⟨hx, hb, hml, hown, hts⟩ hK hG hA (by simp only [List.append_assoc, List.nil_append, List.append_nil]) (by simp only [List.append_assoc, List.nil_append, List.append_nil]) (c_X3_mostStillBelow l D κ a H.size y12 (us14.first) un us14 r17 q18) (cwV 2 hts gX4_dearer_X3_mostStillBelow rfl rfl rfl (by decide +kernel) ⟨Nat.le_of_ble_eq_true rfl, Nat.le_of_ble_eq_true rfl⟩) 4 3 rfl rfl rfl rfl hl.1 rfl (Nat.le_of_ble_eq_true rfl) dX4_dearer_98 ⟨Nat.zero_le _, Nat.zero_le _⟩ (fun H locs hG => ?_)
          have hz := Option.some.inj hf
          have z0 := (Prod.mk.inj hz).1
          replace hz := (Prod.mk.inj hz).2
          have z1 := hz
          exact x_iret hx hb hr hlk hK hG z0 (by rw [z1]) dX4_dearer_101
        · replace hf := if_f c16 hf
          refine lv_ldcw (v := 10000000) hx hb hown k302 dX4_dearer_82 ?_
          have hz := Option.some.inj hf
          have z0 := (Prod.mk.inj hz).1
          replace hz := (Prod.mk.inj hz).2
          have z1 := hz
          exact x_iret hx hb hr hlk hK hG z0 (by rw [z1]) dX4_dearer_85
      · replace hf := if_t c11 hf
        refine lv_iconst (v := (-1)) hx hb dX4_dearer_41 (by decide) ?_
        have hz := Option.some.inj hf
        have z0 := (Prod.mk.inj hz).1
        replace hz := (Prod.mk.inj hz).2
        have z1 := hz
        exact x_iret hx hb hr hlk hK hG z0 (by rw [z1]) dX4_dearer_42
    · replace hf := if_t c6 hf
      refine lv_iconst (v := (-1)) hx hb dX4_dearer_18 (by decide) ?_
      have hz := Option.some.inj hf
      have z0 := (Prod.mk.inj hz).1
      replace hz := (Prod.mk.inj hz).2
      have z1 := hz
      exact x_iret hx hb hr hlk hK hG z0 (by rw [z1]) dX4_dearer_19
set_option maxRecDepth 100000 in
set_option maxHeartbeats 4000000 in
theorem c_X4_without (l : Launch) (D : va_G) (κ : Nat → ClassId) (a : Nat → Nat) (sz : Nat) (p1 : Int32) (p2 : Int32) (uh : HS) (ur : RS) (un : NS) (us : SS) (uo : OS) (r' : Int32) (us' : SS) (hf : f_X4_without p1 p2 un us uo = some (r', us')) : Met l yX4_without wsX4_without ({ frames := 13, cells := 0, slots := 0, locals := 309 } : Room) (xPc D κ [.ref (a 25), .int p1, .int p2] (WH κ a uh ++ (WR κ a ur ++ (WN κ a un ++ (WS κ a us ++ (WO κ a uo))))) sz) (xQi D κ r' (WH κ a uh ++ (WR κ a ur ++ (WN κ a un ++ (WS κ a us' ++ (WO κ a uo))))) (va_A (WH κ a uh ++ (WR κ a ur ++ (WN κ a un ++ (WS κ a us ++ (WO κ a uo))))) sz)) 0 0 (va_A (WH κ a uh ++ (WR κ a ur ++ (WN κ a un ++ (WS κ a us ++ (WO κ a uo))))) sz) := by
  refine x_ofW (cc := cX4_without) (maxL := 5) (ret := (some .int)) (Qf := fun A => xQi D κ r' (WH κ a uh ++ (WR κ a ur ++ (WN κ a un ++ (WS κ a us' ++ (WO κ a uo))))) A) (by decide) rfl (Nat.le_of_ble_eq_true rfl) ?_
  intro p e s m below meth c hx hb hr hlk hml hown hts hK A hA H locs hG ls hl
  have hown : s.vm.findClass RX4 = some m.cls := hown
  have hl : lv_has ls 5 [(0, .ref (a 25)), (1, .int p1), (2, .int p2)] := hl
  have iX3 : ∀ w ∈ u_ws RX3 TX3 8, w ∈ wsX4_without := fun _ h => List.mem_cons_of_mem _ (List.mem_append_left _ (List.mem_append_right _ h))
  have iX4 : ∀ w ∈ u_ws RX4 TX4 8, w ∈ wsX4_without := fun _ h => List.mem_cons_of_mem _ (List.mem_append_left _ (List.mem_append_left _ (List.mem_append_right _ h)))
  have k25 := hts (.fieldLink RX4 25 "SpineDesks" "net" "LSpineDesks$Net;") (List.mem_of_getElem? (i := 1) rfl)
  have k282 := hts (.fieldLink RX4 282 "SpineDesks$Search" "reach" "I") (List.mem_of_getElem? (i := 4) rfl)
  have k285 := hts (.fieldLink RX4 285 "SpineDesks$Search" "first" "J") (List.mem_of_getElem? (i := 3) rfl)
  have k302 := hts (.constant RX4 302 (10000000)) (List.mem_of_getElem? (i := 5) rfl)
  have k51 := hts (.fieldLink RX4 51 "SpineDesks" "search" "LSpineDesks$Search;") (List.mem_of_getElem? (i := 2) rfl)
  unfold f_X4_without at hf
  refine lv_iload_n hx hb dX4_without_0 rfl (lv_at hl 1 rfl) ?_
  obtain ⟨r1, q2, hf⟩ := cl1_e hf
  refine x_callSi (pre := ([] : va_W)) (wc := ([] : va_W)) (wc1 := ([] : va_W)) (post := WH κ a uh ++ (WR κ a ur ++ (WN κ a un ++ (WS κ a us ++ (WO κ a uo))))) (As := [.int p1]) (rest := []) (w1 := WH κ a uh ++ (WR κ a ur ++ (WN κ a un ++ (WS κ a us ++ (WO κ a uo))))) ⟨hx, hb, hml, hown, hts⟩ hK hG hA (by simp only [List.append_assoc, List.nil_append, List.append_nil]) (by simp only [List.append_assoc, List.nil_append, List.append_nil]) (c_X4_isPlace l D κ a H.size p1 r1 q2) (va_cwS 1 hts gX4_without_X4_isPlace rfl rfl rfl (by decide +kernel) ⟨Nat.le_of_ble_eq_true rfl, Nat.le_of_ble_eq_true rfl⟩) rfl hl.1 rfl (Nat.le_of_ble_eq_true rfl) dX4_without_1 ⟨Nat.zero_le _, Nat.zero_le _⟩ (fun H locs hG => ?_)
  refine lv_if_eq (tgt := 18) hx hb dX4_without_4 (by decide) (fun c3 => ?_) (fun c3 => ?_)
  · replace hf := if_t c3 hf
    refine lv_iconst (v := (-1)) hx hb dX4_without_18 (by decide) ?_
    have hz := Option.some.inj hf
    have z0 := (Prod.mk.inj hz).1
    replace hz := (Prod.mk.inj hz).2
    have z1 := hz
    exact x_iret hx hb hr hlk hK hG z0 (by rw [z1]) dX4_without_19
  · replace hf := if_f c3 hf
    refine lv_aload_n hx hb dX4_without_7 rfl (lv_at hl 0 rfl) ?_
    refine x_get (C := RX4) (T := TX4) (N := 8) (ci := 4) hx hb hts iX4 hown hK hG 25 rfl rfl 2 (by decide) k25 (v := .ref (a 19)) rfl dX4_without_8 ?_
    refine lv_iload_n hx hb dX4_without_11 rfl (lv_at hl 2 rfl) ?_
    obtain ⟨r4, q5, hf⟩ := cl1_e hf
    refine x_callVi (pre := WH κ a uh ++ (WR κ a ur)) (wc := WN κ a un) (wc1 := WN κ a un) (post := WS κ a us ++ (WO κ a uo)) (As := [.int p2]) (rest := []) (w1 := WH κ a uh ++ (WR κ a ur ++ (WN κ a un ++ (WS κ a us ++ (WO κ a uo))))) ⟨hx, hb, hml, hown, hts⟩ hK hG hA (by simp only [List.append_assoc, List.nil_append, List.append_nil]) (by simp only [List.append_assoc, List.nil_append, List.append_nil]) (c_X1_isThere l D κ a H.size p2 un r4 q5) (cwV 1 hts gX4_without_X1_isThere rfl rfl rfl (by decide +kernel) ⟨Nat.le_of_ble_eq_true rfl, Nat.le_of_ble_eq_true rfl⟩) 0 1 rfl rfl rfl rfl hl.1 rfl (Nat.le_of_ble_eq_true rfl) dX4_without_12 ⟨Nat.zero_le _, Nat.zero_le _⟩ (fun H locs hG => ?_)
    refine lv_if_ne (tgt := 20) hx hb dX4_without_15 (by decide) (fun c6 => ?_) (fun c6 => ?_)
    · replace hf := if_f c6 hf
      refine lv_aload_n hx hb dX4_without_20 rfl (lv_at hl 0 rfl) ?_
      refine x_get (C := RX4) (T := TX4) (N := 8) (ci := 4) hx hb hts iX4 hown hK hG 25 rfl rfl 6 (by decide) k51 (v := .ref (a 23)) rfl dX4_without_21 ?_
      refine lv_iload_n hx hb dX4_without_24 rfl (lv_at hl 1 rfl) ?_
      refine lv_iconst (v := (-1)) hx hb dX4_without_25 (by decide) ?_
      refine lv_iconst (v := (-1)) hx hb dX4_without_26 (by decide) ?_
      obtain ⟨us7, q8, hf⟩ := cl1_e hf
      refine x_callVv (pre := WH κ a uh ++ (WR κ a ur)) (wc := WN κ a un ++ (WS κ a us)) (wc1 := WN κ a un ++ (WS κ a us7)) (post := WO κ a uo) (As := [.int p1, .int ((-1)), .int ((-1))]) (rest := []) (w1 := WH κ a uh ++ (WR κ a ur ++ (WN κ a un ++ (WS κ a us7 ++ (WO κ a uo))))) ⟨hx, hb, hml, hown, hts⟩ hK hG hA (by simp only [List.append_assoc, List.nil_append, List.append_nil]) (by simp only [List.append_assoc, List.nil_append, List.append_nil]) (c_X3_seek l D κ a H.size p1 ((-1)) ((-1)) un us us7 q8) (cwV 3 hts gX4_without_X3_seek rfl rfl rfl (by decide +kernel) ⟨Nat.le_of_ble_eq_true rfl, Nat.le_of_ble_eq_true rfl⟩) 4 3 rfl rfl rfl rfl hl.1 rfl (Nat.le_of_ble_eq_true rfl) dX4_without_27 ⟨Nat.zero_le _, Nat.zero_le _⟩ (fun H locs hG => ?_)
      refine lv_aload_n hx hb dX4_without_30 rfl (lv_at hl 0 rfl) ?_
      refine x_get (C := RX4) (T := TX4) (N := 8) (ci := 4) hx hb hts iX4 hown hK hG 25 rfl rfl 6 (by decide) k51 (v := .ref (a 23)) rfl dX4_without_31 ?_
      refine lv_aload_n hx hb dX4_without_34 rfl (lv_at hl 0 rfl) ?_
      refine x_get (C := RX4) (T := TX4) (N := 8) (ci := 4) hx hb hts iX4 hown hK hG 25 rfl rfl 6 (by decide) k51 (v := .ref (a 23)) rfl dX4_without_35 ?_
      refine x_get (C := RX3) (T := TX3) (N := 8) (ci := 3) hx hb hts iX3 hown hK hG 23 rfl rfl 6 (by decide) k285 (v := .long (us7.first)) rfl dX4_without_38 ?_
      obtain ⟨r9, q10, hf⟩ := cl1_e hf
      refine x_callVi (pre := WH κ a uh ++ (WR κ a ur)) (wc := WN κ a un ++ (WS κ a us7)) (wc1 := WN κ a un ++ (WS κ a us7)) (post := WO κ a uo) (As := [.long (us7.first)]) (rest := []) (w1 := WH κ a uh ++ (WR κ a ur ++ (WN κ a un ++ (WS κ a us7 ++ (WO κ a uo))))) ⟨hx, hb, hml, hown, hts⟩ hK hG hA (by simp only [List.append_assoc, List.nil_append, List.append_nil]) (by simp only [List.append_assoc, List.nil_append, List.append_nil]) (c_X3_costOf l D κ a H.size (us7.first) un us7 r9 q10) (cwV 1 hts gX4_without_X3_costOf rfl rfl rfl (by decide +kernel) ⟨Nat.le_of_ble_eq_true rfl, Nat.le_of_ble_eq_true rfl⟩) 4 3 rfl rfl rfl rfl hl.1 rfl (Nat.le_of_ble_eq_true rfl) dX4_without_41 ⟨Nat.zero_le _, Nat.zero_le _⟩ (fun H locs hG => ?_)
      refine lv_istore_n (lv' := [(3, .int r9), (0, .ref (a 25)), (1, .int p1), (2, .int p2)]) hx hb dX4_without_44 rfl hl (by decide) rfl (fun ls hl => ?_)
      refine lv_aload_n hx hb dX4_without_45 rfl (lv_at hl 1 rfl) ?_
      refine x_get (C := RX4) (T := TX4) (N := 8) (ci := 4) hx hb hts iX4 hown hK hG 25 rfl rfl 6 (by decide) k51 (v := .ref (a 23)) rfl dX4_without_46 ?_
      refine x_get (C := RX3) (T := TX3) (N := 8) (ci := 3) hx hb hts iX3 hown hK hG 23 rfl rfl 5 (by decide) k282 (v := .int (us7.reach)) rfl dX4_without_49 ?_
      refine lv_topi (fun y11 ey11 => ?_)
      replace hf := bnd_at ey11 hf
      refine lv_istore (lv' := [(4, .int y11), (3, .int r9), (0, .ref (a 25)), (1, .int p1), (2, .int p2)]) hx hb dX4_without_52 hl (by decide) rfl (fun ls hl => ?_)
      refine lv_aload_n hx hb dX4_without_54 rfl (lv_at hl 2 rfl) ?_
      refine x_get (C := RX4) (T := TX4) (N := 8) (ci := 4) hx hb hts iX4 hown hK hG 25 rfl rfl 6 (by decide) k51 (v := .ref (a 23)) rfl dX4_without_55 ?_
      refine lv_iload_n hx hb dX4_without_58 rfl (lv_at hl 3 rfl) ?_
      refine lv_iload_n hx hb dX4_without_59 rfl (lv_at hl 4 rfl) ?_
      refine lv_iconst (v := (-1)) hx hb dX4_without_60 (by decide) ?_
      obtain ⟨us12, q13, hf⟩ := cl1_e hf
      refine x_callVv (pre := WH κ a uh ++ (WR κ a ur)) (wc := WN κ a un ++ (WS κ a us7)) (wc1 := WN κ a un ++ (WS κ a us12)) (post := WO κ a uo) (As := [.int p1, .int p2, .int ((-1))]) (rest := []) (w1 := WH κ a uh ++ (WR κ a ur ++ (WN κ a un ++ (WS κ a us12 ++ (WO κ a uo))))) ⟨hx, hb, hml, hown, hts⟩ hK hG hA (by simp only [List.append_assoc, List.nil_append, List.append_nil]) (by simp only [List.append_assoc, List.nil_append, List.append_nil]) (c_X3_seek l D κ a H.size p1 p2 ((-1)) un us7 us12 q13) (cwV 3 hts gX4_without_X3_seek rfl rfl rfl (by decide +kernel) ⟨Nat.le_of_ble_eq_true rfl, Nat.le_of_ble_eq_true rfl⟩) 4 3 rfl rfl rfl rfl hl.1 rfl (Nat.le_of_ble_eq_true rfl) dX4_without_61 ⟨Nat.zero_le _, Nat.zero_le _⟩ (fun H locs hG => ?_)
      refine lv_aload_n hx hb dX4_without_64 rfl (lv_at hl 2 rfl) ?_
      refine x_get (C := RX4) (T := TX4) (N := 8) (ci := 4) hx hb hts iX4 hown hK hG 25 rfl rfl 6 (by decide) k51 (v := .ref (a 23)) rfl dX4_without_65 ?_
      refine x_get (C := RX3) (T := TX3) (N := 8) (ci := 3) hx hb hts iX3 hown hK hG 23 rfl rfl 5 (by decide) k282 (v := .int (us12.reach)) rfl dX4_without_68 ?_
      refine lv_iload hx hb dX4_without_71 (lv_at hl 0 rfl) ?_
      refine lv_icmp_ne (tgt := 95) hx hb dX4_without_73 (by decide) (fun c14 => ?_) (fun c14 => ?_)
      · replace hf := if_f c14 hf
        refine lv_ldcw (v := 10000000) hx hb hown k302 dX4_without_95 ?_
        have hz := Option.some.inj hf
        have z0 := (Prod.mk.inj hz).1
        replace hz := (Prod.mk.inj hz).2
        have z1 := hz
        exact x_iret hx hb hr hlk hK hG z0 (by rw [z1]) dX4_without_98
      · replace hf := if_t c14 hf
        refine lv_aload_n hx hb dX4_without_76 rfl (lv_at hl 2 rfl) ?_
        refine x_get (C := RX4) (T := TX4) (N := 8) (ci := 4) hx hb hts iX4 hown hK hG 25 rfl rfl 6 (by decide) k51 (v := .ref (a 23)) rfl dX4_without_77 ?_
        refine lv_aload_n hx hb dX4_without_80 rfl (lv_at hl 2 rfl) ?_
        refine x_get (C := RX4) (T := TX4) (N := 8) (ci := 4) hx hb hts iX4 hown hK hG 25 rfl rfl 6 (by decide) k51 (v := .ref (a 23)) rfl dX4_without_81 ?_
        refine x_get (C := RX3) (T := TX3) (N := 8) (ci := 3) hx hb hts iX3 hown hK hG 23 rfl rfl 6 (by decide) k285 (v := .long (us12.first)) rfl dX4_without_84 ?_
        obtain ⟨r15, q16, hf⟩ := cl1_e hf
        refine x_callVi (pre := WH κ a uh ++ (WR κ a ur)) (wc := WN κ a un ++ (WS κ a us12)) (wc1 := WN κ a un ++ (WS κ a us12)) (post := WO κ a uo) (As := [.long (us12.first)]) (rest := []) (w1 := WH κ a uh ++ (WR κ a ur ++ (WN κ a un ++ (WS κ a us12 ++ (WO κ a uo))))) ⟨hx, hb, hml, hown, hts⟩ hK hG hA (by simp only [List.append_assoc, List.nil_append, List.append_nil]) (by simp only [List.append_assoc, List.nil_append, List.append_nil]) (c_X3_costOf l D κ a H.size (us12.first) un us12 r15 q16) (cwV 1 hts gX4_without_X3_costOf rfl rfl rfl (by decide +kernel) ⟨Nat.le_of_ble_eq_true rfl, Nat.le_of_ble_eq_true rfl⟩) 4 3 rfl rfl rfl rfl hl.1 rfl (Nat.le_of_ble_eq_true rfl) dX4_without_87 ⟨Nat.zero_le _, Nat.zero_le _⟩ (fun H locs hG => ?_)
        refine lv_iload_n hx hb dX4_without_90 rfl (lv_at hl 1 rfl) ?_
        refine lv_isub hx hb dX4_without_91 ?_
        refine lv_goto (tgt := 98) hx hb dX4_without_92 (by decide) ?_
        have hz := Option.some.inj hf
        have z0 := (Prod.mk.inj hz).1
        replace hz := (Prod.mk.inj hz).2
        have z1 := hz
        exact x_iret hx hb hr hlk hK hG z0 (by rw [z1]) dX4_without_98
    · replace hf := if_t c6 hf
      refine lv_iconst (v := (-1)) hx hb dX4_without_18 (by decide) ?_
      have hz := Option.some.inj hf
      have z0 := (Prod.mk.inj hz).1
      replace hz := (Prod.mk.inj hz).2
      have z1 := hz
      exact x_iret hx hb hr hlk hK hG z0 (by rw [z1]) dX4_without_19
set_option maxRecDepth 100000 in
set_option maxHeartbeats 4000000 in
theorem c_X4_cheaper (l : Launch) (D : va_G) (κ : Nat → ClassId) (a : Nat → Nat) (sz : Nat) (p1 : Int32) (p2 : Int32) (uh : HS) (ur : RS) (un : NS) (us : SS) (uo : OS) (r' : Int32) (us' : SS) (hf : f_X4_cheaper p1 p2 un us uo = some (r', us')) : Met l yX4_cheaper wsX4_cheaper ({ frames := 13, cells := 0, slots := 0, locals := 309 } : Room) (xPc D κ [.ref (a 25), .int p1, .int p2] (WH κ a uh ++ (WR κ a ur ++ (WN κ a un ++ (WS κ a us ++ (WO κ a uo))))) sz) (xQi D κ r' (WH κ a uh ++ (WR κ a ur ++ (WN κ a un ++ (WS κ a us' ++ (WO κ a uo))))) (va_A (WH κ a uh ++ (WR κ a ur ++ (WN κ a un ++ (WS κ a us ++ (WO κ a uo))))) sz)) 0 0 (va_A (WH κ a uh ++ (WR κ a ur ++ (WN κ a un ++ (WS κ a us ++ (WO κ a uo))))) sz) := by
  refine x_ofW (cc := cX4_cheaper) (maxL := 5) (ret := (some .int)) (Qf := fun A => xQi D κ r' (WH κ a uh ++ (WR κ a ur ++ (WN κ a un ++ (WS κ a us' ++ (WO κ a uo))))) A) (by decide) rfl (Nat.le_of_ble_eq_true rfl) ?_
  intro p e s m below meth c hx hb hr hlk hml hown hts hK A hA H locs hG ls hl
  have hown : s.vm.findClass RX4 = some m.cls := hown
  have hl : lv_has ls 5 [(0, .ref (a 25)), (1, .int p1), (2, .int p2)] := hl
  have iX3 : ∀ w ∈ u_ws RX3 TX3 8, w ∈ wsX4_cheaper := fun _ h => List.mem_cons_of_mem _ (List.mem_append_left _ (List.mem_append_right _ h))
  have iX4 : ∀ w ∈ u_ws RX4 TX4 8, w ∈ wsX4_cheaper := fun _ h => List.mem_cons_of_mem _ (List.mem_append_left _ (List.mem_append_left _ (List.mem_append_right _ h)))
  have k25 := hts (.fieldLink RX4 25 "SpineDesks" "net" "LSpineDesks$Net;") (List.mem_of_getElem? (i := 1) rfl)
  have k285 := hts (.fieldLink RX4 285 "SpineDesks$Search" "first" "J") (List.mem_of_getElem? (i := 3) rfl)
  have k302 := hts (.constant RX4 302 (10000000)) (List.mem_of_getElem? (i := 4) rfl)
  have k51 := hts (.fieldLink RX4 51 "SpineDesks" "search" "LSpineDesks$Search;") (List.mem_of_getElem? (i := 2) rfl)
  unfold f_X4_cheaper at hf
  refine lv_iload_n hx hb dX4_cheaper_0 rfl (lv_at hl 1 rfl) ?_
  obtain ⟨r1, q2, hf⟩ := cl1_e hf
  refine x_callSi (pre := ([] : va_W)) (wc := ([] : va_W)) (wc1 := ([] : va_W)) (post := WH κ a uh ++ (WR κ a ur ++ (WN κ a un ++ (WS κ a us ++ (WO κ a uo))))) (As := [.int p1]) (rest := []) (w1 := WH κ a uh ++ (WR κ a ur ++ (WN κ a un ++ (WS κ a us ++ (WO κ a uo))))) ⟨hx, hb, hml, hown, hts⟩ hK hG hA (by simp only [List.append_assoc, List.nil_append, List.append_nil]) (by simp only [List.append_assoc, List.nil_append, List.append_nil]) (c_X4_isPlace l D κ a H.size p1 r1 q2) (va_cwS 1 hts gX4_cheaper_X4_isPlace rfl rfl rfl (by decide +kernel) ⟨Nat.le_of_ble_eq_true rfl, Nat.le_of_ble_eq_true rfl⟩) rfl hl.1 rfl (Nat.le_of_ble_eq_true rfl) dX4_cheaper_1 ⟨Nat.zero_le _, Nat.zero_le _⟩ (fun H locs hG => ?_)
  refine lv_if_eq (tgt := 18) hx hb dX4_cheaper_4 (by decide) (fun c3 => ?_) (fun c3 => ?_)
  · replace hf := if_t c3 hf
    refine lv_iconst (v := (-1)) hx hb dX4_cheaper_18 (by decide) ?_
    have hz := Option.some.inj hf
    have z0 := (Prod.mk.inj hz).1
    replace hz := (Prod.mk.inj hz).2
    have z1 := hz
    exact x_iret hx hb hr hlk hK hG z0 (by rw [z1]) dX4_cheaper_19
  · replace hf := if_f c3 hf
    refine lv_aload_n hx hb dX4_cheaper_7 rfl (lv_at hl 0 rfl) ?_
    refine x_get (C := RX4) (T := TX4) (N := 8) (ci := 4) hx hb hts iX4 hown hK hG 25 rfl rfl 2 (by decide) k25 (v := .ref (a 19)) rfl dX4_cheaper_8 ?_
    refine lv_iload_n hx hb dX4_cheaper_11 rfl (lv_at hl 2 rfl) ?_
    obtain ⟨r4, q5, hf⟩ := cl1_e hf
    refine x_callVi (pre := WH κ a uh ++ (WR κ a ur)) (wc := WN κ a un) (wc1 := WN κ a un) (post := WS κ a us ++ (WO κ a uo)) (As := [.int p2]) (rest := []) (w1 := WH κ a uh ++ (WR κ a ur ++ (WN κ a un ++ (WS κ a us ++ (WO κ a uo))))) ⟨hx, hb, hml, hown, hts⟩ hK hG hA (by simp only [List.append_assoc, List.nil_append, List.append_nil]) (by simp only [List.append_assoc, List.nil_append, List.append_nil]) (c_X1_isThere l D κ a H.size p2 un r4 q5) (cwV 1 hts gX4_cheaper_X1_isThere rfl rfl rfl (by decide +kernel) ⟨Nat.le_of_ble_eq_true rfl, Nat.le_of_ble_eq_true rfl⟩) 0 1 rfl rfl rfl rfl hl.1 rfl (Nat.le_of_ble_eq_true rfl) dX4_cheaper_12 ⟨Nat.zero_le _, Nat.zero_le _⟩ (fun H locs hG => ?_)
    refine lv_if_ne (tgt := 20) hx hb dX4_cheaper_15 (by decide) (fun c6 => ?_) (fun c6 => ?_)
    · replace hf := if_f c6 hf
      refine lv_aload_n hx hb dX4_cheaper_20 rfl (lv_at hl 0 rfl) ?_
      refine x_get (C := RX4) (T := TX4) (N := 8) (ci := 4) hx hb hts iX4 hown hK hG 25 rfl rfl 6 (by decide) k51 (v := .ref (a 23)) rfl dX4_cheaper_21 ?_
      refine lv_iload_n hx hb dX4_cheaper_24 rfl (lv_at hl 1 rfl) ?_
      refine lv_iconst (v := (-1)) hx hb dX4_cheaper_25 (by decide) ?_
      refine lv_iconst (v := (-1)) hx hb dX4_cheaper_26 (by decide) ?_
      obtain ⟨us7, q8, hf⟩ := cl1_e hf
      refine x_callVv (pre := WH κ a uh ++ (WR κ a ur)) (wc := WN κ a un ++ (WS κ a us)) (wc1 := WN κ a un ++ (WS κ a us7)) (post := WO κ a uo) (As := [.int p1, .int ((-1)), .int ((-1))]) (rest := []) (w1 := WH κ a uh ++ (WR κ a ur ++ (WN κ a un ++ (WS κ a us7 ++ (WO κ a uo))))) ⟨hx, hb, hml, hown, hts⟩ hK hG hA (by simp only [List.append_assoc, List.nil_append, List.append_nil]) (by simp only [List.append_assoc, List.nil_append, List.append_nil]) (c_X3_seek l D κ a H.size p1 ((-1)) ((-1)) un us us7 q8) (cwV 3 hts gX4_cheaper_X3_seek rfl rfl rfl (by decide +kernel) ⟨Nat.le_of_ble_eq_true rfl, Nat.le_of_ble_eq_true rfl⟩) 4 3 rfl rfl rfl rfl hl.1 rfl (Nat.le_of_ble_eq_true rfl) dX4_cheaper_27 ⟨Nat.zero_le _, Nat.zero_le _⟩ (fun H locs hG => ?_)
      refine lv_aload_n hx hb dX4_cheaper_30 rfl (lv_at hl 0 rfl) ?_
      refine x_get (C := RX4) (T := TX4) (N := 8) (ci := 4) hx hb hts iX4 hown hK hG 25 rfl rfl 6 (by decide) k51 (v := .ref (a 23)) rfl dX4_cheaper_31 ?_
      refine lv_iload_n hx hb dX4_cheaper_34 rfl (lv_at hl 2 rfl) ?_
      obtain ⟨r9, q10, hf⟩ := cl1_e hf
      refine x_callVi (pre := WH κ a uh ++ (WR κ a ur)) (wc := WN κ a un ++ (WS κ a us7)) (wc1 := WN κ a un ++ (WS κ a us7)) (post := WO κ a uo) (As := [.int p2]) (rest := []) (w1 := WH κ a uh ++ (WR κ a ur ++ (WN κ a un ++ (WS κ a us7 ++ (WO κ a uo))))) ⟨hx, hb, hml, hown, hts⟩ hK hG hA (by simp only [List.append_assoc, List.nil_append, List.append_nil]) (by simp only [List.append_assoc, List.nil_append, List.append_nil]) (c_X3_firstHas l D κ a H.size p2 un us7 r9 q10) (cwV 1 hts gX4_cheaper_X3_firstHas rfl rfl rfl (by decide +kernel) ⟨Nat.le_of_ble_eq_true rfl, Nat.le_of_ble_eq_true rfl⟩) 4 3 rfl rfl rfl rfl hl.1 rfl (Nat.le_of_ble_eq_true rfl) dX4_cheaper_35 ⟨Nat.zero_le _, Nat.zero_le _⟩ (fun H locs hG => ?_)
      refine lv_if_eq (tgt := 43) hx hb dX4_cheaper_38 (by decide) (fun c11 => ?_) (fun c11 => ?_)
      · replace hf := if_t c11 hf
        refine lv_aload_n hx hb dX4_cheaper_43 rfl (lv_at hl 0 rfl) ?_
        refine x_get (C := RX4) (T := TX4) (N := 8) (ci := 4) hx hb hts iX4 hown hK hG 25 rfl rfl 6 (by decide) k51 (v := .ref (a 23)) rfl dX4_cheaper_44 ?_
        refine x_get (C := RX3) (T := TX3) (N := 8) (ci := 3) hx hb hts iX3 hown hK hG 23 rfl rfl 6 (by decide) k285 (v := .long (us7.first)) rfl dX4_cheaper_47 ?_
        refine lv_topl (fun y12 ey12 => ?_)
        replace hf := bnd_at ey12 hf
        refine lv_lstore_n (lv' := [(3, .long y12), (0, .ref (a 25)), (1, .int p1), (2, .int p2)]) hx hb dX4_cheaper_50 rfl hl (by decide) rfl (fun ls hl => ?_)
        refine lv_aload_n hx hb dX4_cheaper_51 rfl (lv_at hl 1 rfl) ?_
        refine x_get (C := RX4) (T := TX4) (N := 8) (ci := 4) hx hb hts iX4 hown hK hG 25 rfl rfl 6 (by decide) k51 (v := .ref (a 23)) rfl dX4_cheaper_52 ?_
        refine lv_iload_n hx hb dX4_cheaper_55 rfl (lv_at hl 2 rfl) ?_
        refine lv_iconst (v := (-1)) hx hb dX4_cheaper_56 (by decide) ?_
        refine lv_iload_n hx hb dX4_cheaper_57 rfl (lv_at hl 3 rfl) ?_
        obtain ⟨us13, q14, hf⟩ := cl1_e hf
        refine x_callVv (pre := WH κ a uh ++ (WR κ a ur)) (wc := WN κ a un ++ (WS κ a us7)) (wc1 := WN κ a un ++ (WS κ a us13)) (post := WO κ a uo) (As := [.int p1, .int ((-1)), .int p2]) (rest := []) (w1 := WH κ a uh ++ (WR κ a ur ++ (WN κ a un ++ (WS κ a us13 ++ (WO κ a uo))))) ⟨hx, hb, hml, hown, hts⟩ hK hG hA (by simp only [List.append_assoc, List.nil_append, List.append_nil]) (by simp only [List.append_assoc, List.nil_append, List.append_nil]) (c_X3_seek l D κ a H.size p1 ((-1)) p2 un us7 us13 q14) (cwV 3 hts gX4_cheaper_X3_seek rfl rfl rfl (by decide +kernel) ⟨Nat.le_of_ble_eq_true rfl, Nat.le_of_ble_eq_true rfl⟩) 4 3 rfl rfl rfl rfl hl.1 rfl (Nat.le_of_ble_eq_true rfl) dX4_cheaper_58 ⟨Nat.zero_le _, Nat.zero_le _⟩ (fun H locs hG => ?_)
        refine lv_aload_n hx hb dX4_cheaper_61 rfl (lv_at hl 1 rfl) ?_
        refine x_get (C := RX4) (T := TX4) (N := 8) (ci := 4) hx hb hts iX4 hown hK hG 25 rfl rfl 6 (by decide) k51 (v := .ref (a 23)) rfl dX4_cheaper_62 ?_
        refine lv_iload_n hx hb dX4_cheaper_65 rfl (lv_at hl 3 rfl) ?_
        obtain ⟨r15, q16, hf⟩ := cl1_e hf
        refine x_callVi (pre := WH κ a uh ++ (WR κ a ur)) (wc := WN κ a un ++ (WS κ a us13)) (wc1 := WN κ a un ++ (WS κ a us13)) (post := WO κ a uo) (As := [.int p2]) (rest := []) (w1 := WH κ a uh ++ (WR κ a ur ++ (WN κ a un ++ (WS κ a us13 ++ (WO κ a uo))))) ⟨hx, hb, hml, hown, hts⟩ hK hG hA (by simp only [List.append_assoc, List.nil_append, List.append_nil]) (by simp only [List.append_assoc, List.nil_append, List.append_nil]) (c_X3_firstHas l D κ a H.size p2 un us13 r15 q16) (cwV 1 hts gX4_cheaper_X3_firstHas rfl rfl rfl (by decide +kernel) ⟨Nat.le_of_ble_eq_true rfl, Nat.le_of_ble_eq_true rfl⟩) 4 3 rfl rfl rfl rfl hl.1 rfl (Nat.le_of_ble_eq_true rfl) dX4_cheaper_66 ⟨Nat.zero_le _, Nat.zero_le _⟩ (fun H locs hG => ?_)
        refine lv_if_eq (tgt := 90) hx hb dX4_cheaper_69 (by decide) (fun c17 => ?_) (fun c17 => ?_)
        · replace hf := if_t c17 hf
          refine lv_ldcw (v := 10000000) hx hb hown k302 dX4_cheaper_90 ?_
          have hz := Option.some.inj hf
          have z0 := (Prod.mk.inj hz).1
          replace hz := (Prod.mk.inj hz).2
          have z1 := hz
          exact x_iret hx hb hr hlk hK hG z0 (by rw [z1]) dX4_cheaper_93
        · replace hf := if_f c17 hf
          refine lv_aload_n hx hb dX4_cheaper_72 rfl (lv_at hl 1 rfl) ?_
          refine x_get (C := RX4) (T := TX4) (N := 8) (ci := 4) hx hb hts iX4 hown hK hG 25 rfl rfl 6 (by decide) k51 (v := .ref (a 23)) rfl dX4_cheaper_73 ?_
          refine lv_aload_n hx hb dX4_cheaper_76 rfl (lv_at hl 1 rfl) ?_
          refine x_get (C := RX4) (T := TX4) (N := 8) (ci := 4) hx hb hts iX4 hown hK hG 25 rfl rfl 6 (by decide) k51 (v := .ref (a 23)) rfl dX4_cheaper_77 ?_
          refine x_get (C := RX3) (T := TX3) (N := 8) (ci := 3) hx hb hts iX3 hown hK hG 23 rfl rfl 6 (by decide) k285 (v := .long (us13.first)) rfl dX4_cheaper_80 ?_
          refine lv_lload_n hx hb dX4_cheaper_83 rfl (lv_at hl 0 rfl) ?_
          obtain ⟨r18, q19, hf⟩ := cl1_e hf
          refine x_callVi (pre := WH κ a uh ++ (WR κ a ur)) (wc := WN κ a un ++ (WS κ a us13)) (wc1 := WN κ a un ++ (WS κ a us13)) (post := WO κ a uo) (As := [.long (us13.first), .long y12]) (rest := []) (w1 := WH κ a uh ++ (WR κ a ur ++ (WN κ a un ++ (WS κ a us13 ++ (WO κ a uo))))) ⟨hx, hb, hml, hown, hts⟩ hK hG hA (by simp only [List.append_assoc, List.nil_append, List.append_nil]) (by simp only [List.append_assoc, List.nil_append, List.append_nil]) (c_X3_leastToPass l D κ a H.size (us13.first) y12 un us13 r18 q19) (cwV 2 hts gX4_cheaper_X3_leastToPass rfl rfl rfl (by decide +kernel) ⟨Nat.le_of_ble_eq_true rfl, Nat.le_of_ble_eq_true rfl⟩) 4 3 rfl rfl rfl rfl hl.1 rfl (Nat.le_of_ble_eq_true rfl) dX4_cheaper_84 ⟨Nat.zero_le _, Nat.zero_le _⟩ (fun H locs hG => ?_)
          refine lv_goto (tgt := 93) hx hb dX4_cheaper_87 (by decide) ?_
          have hz := Option.some.inj hf
          have z0 := (Prod.mk.inj hz).1
          replace hz := (Prod.mk.inj hz).2
          have z1 := hz
          exact x_iret hx hb hr hlk hK hG z0 (by rw [z1]) dX4_cheaper_93
      · replace hf := if_f c11 hf
        refine lv_iconst (v := 0) hx hb dX4_cheaper_41 (by decide) ?_
        have hz := Option.some.inj hf
        have z0 := (Prod.mk.inj hz).1
        replace hz := (Prod.mk.inj hz).2
        have z1 := hz
        exact x_iret hx hb hr hlk hK hG z0 (by rw [z1]) dX4_cheaper_42
    · replace hf := if_t c6 hf
      refine lv_iconst (v := (-1)) hx hb dX4_cheaper_18 (by decide) ?_
      have hz := Option.some.inj hf
      have z0 := (Prod.mk.inj hz).1
      replace hz := (Prod.mk.inj hz).2
      have z1 := hz
      exact x_iret hx hb hr hlk hK hG z0 (by rw [z1]) dX4_cheaper_19
set_option maxRecDepth 100000 in
set_option maxHeartbeats 4000000 in
theorem c_X4_second (l : Launch) (D : va_G) (κ : Nat → ClassId) (a : Nat → Nat) (sz : Nat) (p1 : Int32) (p2 : Int32) (uh : HS) (ur : RS) (un : NS) (us : SS) (uo : OS) (r' : Int32) (us' : SS) (hf : f_X4_second p1 p2 un us uo = some (r', us')) : Met l yX4_second wsX4_second ({ frames := 13, cells := 0, slots := 0, locals := 309 } : Room) (xPc D κ [.ref (a 25), .int p1, .int p2] (WH κ a uh ++ (WR κ a ur ++ (WN κ a un ++ (WS κ a us ++ (WO κ a uo))))) sz) (xQi D κ r' (WH κ a uh ++ (WR κ a ur ++ (WN κ a un ++ (WS κ a us' ++ (WO κ a uo))))) (va_A (WH κ a uh ++ (WR κ a ur ++ (WN κ a un ++ (WS κ a us ++ (WO κ a uo))))) sz)) 0 0 (va_A (WH κ a uh ++ (WR κ a ur ++ (WN κ a un ++ (WS κ a us ++ (WO κ a uo))))) sz) := by
  refine x_ofW (cc := cX4_second) (maxL := 3) (ret := (some .int)) (Qf := fun A => xQi D κ r' (WH κ a uh ++ (WR κ a ur ++ (WN κ a un ++ (WS κ a us' ++ (WO κ a uo))))) A) (by decide) rfl (Nat.le_of_ble_eq_true rfl) ?_
  intro p e s m below meth c hx hb hr hlk hml hown hts hK A hA H locs hG ls hl
  have hown : s.vm.findClass RX4 = some m.cls := hown
  have hl : lv_has ls 3 [(0, .ref (a 25)), (1, .int p1), (2, .int p2)] := hl
  have iX3 : ∀ w ∈ u_ws RX3 TX3 8, w ∈ wsX4_second := fun _ h => List.mem_cons_of_mem _ (List.mem_append_left _ (List.mem_append_right _ h))
  have iX4 : ∀ w ∈ u_ws RX4 TX4 8, w ∈ wsX4_second := fun _ h => List.mem_cons_of_mem _ (List.mem_append_left _ (List.mem_append_left _ (List.mem_append_right _ h)))
  have k310 := hts (.fieldLink RX4 310 "SpineDesks$Search" "next" "J") (List.mem_of_getElem? (i := 2) rfl)
  have k313 := hts (.constantLong RX4 313 (9223372036854775807)) (List.mem_of_getElem? (i := 3) rfl)
  have k51 := hts (.fieldLink RX4 51 "SpineDesks" "search" "LSpineDesks$Search;") (List.mem_of_getElem? (i := 1) rfl)
  unfold f_X4_second at hf
  refine lv_iload_n hx hb dX4_second_0 rfl (lv_at hl 1 rfl) ?_
  obtain ⟨r1, q2, hf⟩ := cl1_e hf
  refine x_callSi (pre := ([] : va_W)) (wc := ([] : va_W)) (wc1 := ([] : va_W)) (post := WH κ a uh ++ (WR κ a ur ++ (WN κ a un ++ (WS κ a us ++ (WO κ a uo))))) (As := [.int p1]) (rest := []) (w1 := WH κ a uh ++ (WR κ a ur ++ (WN κ a un ++ (WS κ a us ++ (WO κ a uo))))) ⟨hx, hb, hml, hown, hts⟩ hK hG hA (by simp only [List.append_assoc, List.nil_append, List.append_nil]) (by simp only [List.append_assoc, List.nil_append, List.append_nil]) (c_X4_isPlace l D κ a H.size p1 r1 q2) (va_cwS 1 hts gX4_second_X4_isPlace rfl rfl rfl (by decide +kernel) ⟨Nat.le_of_ble_eq_true rfl, Nat.le_of_ble_eq_true rfl⟩) rfl hl.1 rfl (Nat.le_of_ble_eq_true rfl) dX4_second_1 ⟨Nat.zero_le _, Nat.zero_le _⟩ (fun H locs hG => ?_)
  refine lv_if_eq (tgt := 16) hx hb dX4_second_4 (by decide) (fun c3 => ?_) (fun c3 => ?_)
  · replace hf := if_t c3 hf
    refine lv_iconst (v := (-1)) hx hb dX4_second_16 (by decide) ?_
    have hz := Option.some.inj hf
    have z0 := (Prod.mk.inj hz).1
    replace hz := (Prod.mk.inj hz).2
    have z1 := hz
    exact x_iret hx hb hr hlk hK hG z0 (by rw [z1]) dX4_second_17
  · replace hf := if_f c3 hf
    refine lv_iload_n hx hb dX4_second_7 rfl (lv_at hl 2 rfl) ?_
    refine lv_if_lt (tgt := 16) hx hb dX4_second_8 (by decide) (fun c4 => ?_) (fun c4 => ?_)
    · replace hf := if_t c4 hf
      refine lv_iconst (v := (-1)) hx hb dX4_second_16 (by decide) ?_
      have hz := Option.some.inj hf
      have z0 := (Prod.mk.inj hz).1
      replace hz := (Prod.mk.inj hz).2
      have z1 := hz
      exact x_iret hx hb hr hlk hK hG z0 (by rw [z1]) dX4_second_17
    · replace hf := if_f c4 hf
      refine lv_iload_n hx hb dX4_second_11 rfl (lv_at hl 2 rfl) ?_
      refine lv_iconst (v := 1) hx hb dX4_second_12 (by decide) ?_
      refine lv_icmp_le (tgt := 18) hx hb dX4_second_13 (by decide) (fun c5 => ?_) (fun c5 => ?_)
      · replace hf := if_t c5 hf
        refine lv_aload_n hx hb dX4_second_18 rfl (lv_at hl 0 rfl) ?_
        refine x_get (C := RX4) (T := TX4) (N := 8) (ci := 4) hx hb hts iX4 hown hK hG 25 rfl rfl 6 (by decide) k51 (v := .ref (a 23)) rfl dX4_second_19 ?_
        refine lv_iload_n hx hb dX4_second_22 rfl (lv_at hl 1 rfl) ?_
        refine lv_iconst (v := (-1)) hx hb dX4_second_23 (by decide) ?_
        refine lv_iconst (v := (-1)) hx hb dX4_second_24 (by decide) ?_
        obtain ⟨us6, q7, hf⟩ := cl1_e hf
        refine x_callVv (pre := WH κ a uh ++ (WR κ a ur)) (wc := WN κ a un ++ (WS κ a us)) (wc1 := WN κ a un ++ (WS κ a us6)) (post := WO κ a uo) (As := [.int p1, .int ((-1)), .int ((-1))]) (rest := []) (w1 := WH κ a uh ++ (WR κ a ur ++ (WN κ a un ++ (WS κ a us6 ++ (WO κ a uo))))) ⟨hx, hb, hml, hown, hts⟩ hK hG hA (by simp only [List.append_assoc, List.nil_append, List.append_nil]) (by simp only [List.append_assoc, List.nil_append, List.append_nil]) (c_X3_seek l D κ a H.size p1 ((-1)) ((-1)) un us us6 q7) (cwV 3 hts gX4_second_X3_seek rfl rfl rfl (by decide +kernel) ⟨Nat.le_of_ble_eq_true rfl, Nat.le_of_ble_eq_true rfl⟩) 4 3 rfl rfl rfl rfl hl.1 rfl (Nat.le_of_ble_eq_true rfl) dX4_second_25 ⟨Nat.zero_le _, Nat.zero_le _⟩ (fun H locs hG => ?_)
        refine lv_aload_n hx hb dX4_second_28 rfl (lv_at hl 0 rfl) ?_
        refine x_get (C := RX4) (T := TX4) (N := 8) (ci := 4) hx hb hts iX4 hown hK hG 25 rfl rfl 6 (by decide) k51 (v := .ref (a 23)) rfl dX4_second_29 ?_
        refine x_get (C := RX3) (T := TX3) (N := 8) (ci := 3) hx hb hts iX3 hown hK hG 23 rfl rfl 7 (by decide) k310 (v := .long (us6.next)) rfl dX4_second_32 ?_
        refine lv_ldc2 (v := 9223372036854775807) hx hb hown k313 dX4_second_35 ?_
        refine W.lcmp hx hb dX4_second_38 ?_
        refine lv_if_ne (tgt := 44) hx hb dX4_second_39 (by decide) (fun c8 => ?_) (fun c8 => ?_)
        · rw [lg_cmp_eq] at c8
          replace hf := if_f c8 hf
          refine lv_iload_n hx hb dX4_second_44 rfl (lv_at hl 2 rfl) ?_
          refine lv_if_ne (tgt := 65) hx hb dX4_second_45 (by decide) (fun c9 => ?_) (fun c9 => ?_)
          · replace hf := if_f c9 hf
            refine lv_aload_n hx hb dX4_second_65 rfl (lv_at hl 0 rfl) ?_
            refine x_get (C := RX4) (T := TX4) (N := 8) (ci := 4) hx hb hts iX4 hown hK hG 25 rfl rfl 6 (by decide) k51 (v := .ref (a 23)) rfl dX4_second_66 ?_
            refine lv_aload_n hx hb dX4_second_69 rfl (lv_at hl 0 rfl) ?_
            refine x_get (C := RX4) (T := TX4) (N := 8) (ci := 4) hx hb hts iX4 hown hK hG 25 rfl rfl 6 (by decide) k51 (v := .ref (a 23)) rfl dX4_second_70 ?_
            refine x_get (C := RX3) (T := TX3) (N := 8) (ci := 3) hx hb hts iX3 hown hK hG 23 rfl rfl 7 (by decide) k310 (v := .long (us6.next)) rfl dX4_second_73 ?_
            obtain ⟨r10, q11, hf⟩ := cl1_e hf
            refine x_callVi (pre := WH κ a uh ++ (WR κ a ur)) (wc := WN κ a un ++ (WS κ a us6)) (wc1 := WN κ a un ++ (WS κ a us6)) (post := WO κ a uo) (As := [.long (us6.next)]) (rest := []) (w1 := WH κ a uh ++ (WR κ a ur ++ (WN κ a un ++ (WS κ a us6 ++ (WO κ a uo))))) ⟨hx, hb, hml, hown, hts⟩ hK hG hA (by simp only [List.append_assoc, List.nil_append, List.append_nil]) (by simp only [List.append_assoc, List.nil_append, List.append_nil]) (c_X3_bitsOf l D κ a H.size (us6.next) un us6 r10 q11) (cwV 1 hts gX4_second_X3_bitsOf rfl rfl rfl (by decide +kernel) ⟨Nat.le_of_ble_eq_true rfl, Nat.le_of_ble_eq_true rfl⟩) 4 3 rfl rfl rfl rfl hl.1 rfl (Nat.le_of_ble_eq_true rfl) dX4_second_76 ⟨Nat.zero_le _, Nat.zero_le _⟩ (fun H locs hG => ?_)
            have hz := Option.some.inj hf
            have z0 := (Prod.mk.inj hz).1
            replace hz := (Prod.mk.inj hz).2
            have z1 := hz
            exact x_iret hx hb hr hlk hK hG z0 (by rw [z1]) dX4_second_79
          · replace hf := if_t c9 hf
            refine lv_aload_n hx hb dX4_second_48 rfl (lv_at hl 0 rfl) ?_
            refine x_get (C := RX4) (T := TX4) (N := 8) (ci := 4) hx hb hts iX4 hown hK hG 25 rfl rfl 6 (by decide) k51 (v := .ref (a 23)) rfl dX4_second_49 ?_
            refine lv_aload_n hx hb dX4_second_52 rfl (lv_at hl 0 rfl) ?_
            refine x_get (C := RX4) (T := TX4) (N := 8) (ci := 4) hx hb hts iX4 hown hK hG 25 rfl rfl 6 (by decide) k51 (v := .ref (a 23)) rfl dX4_second_53 ?_
            refine x_get (C := RX3) (T := TX3) (N := 8) (ci := 3) hx hb hts iX3 hown hK hG 23 rfl rfl 7 (by decide) k310 (v := .long (us6.next)) rfl dX4_second_56 ?_
            obtain ⟨r12, q13, hf⟩ := cl1_e hf
            refine x_callVi (pre := WH κ a uh ++ (WR κ a ur)) (wc := WN κ a un ++ (WS κ a us6)) (wc1 := WN κ a un ++ (WS κ a us6)) (post := WO κ a uo) (As := [.long (us6.next)]) (rest := []) (w1 := WH κ a uh ++ (WR κ a ur ++ (WN κ a un ++ (WS κ a us6 ++ (WO κ a uo))))) ⟨hx, hb, hml, hown, hts⟩ hK hG hA (by simp only [List.append_assoc, List.nil_append, List.append_nil]) (by simp only [List.append_assoc, List.nil_append, List.append_nil]) (c_X3_costOf l D κ a H.size (us6.next) un us6 r12 q13) (cwV 1 hts gX4_second_X3_costOf rfl rfl rfl (by decide +kernel) ⟨Nat.le_of_ble_eq_true rfl, Nat.le_of_ble_eq_true rfl⟩) 4 3 rfl rfl rfl rfl hl.1 rfl (Nat.le_of_ble_eq_true rfl) dX4_second_59 ⟨Nat.zero_le _, Nat.zero_le _⟩ (fun H locs hG => ?_)
            refine lv_goto (tgt := 79) hx hb dX4_second_62 (by decide) ?_
            have hz := Option.some.inj hf
            have z0 := (Prod.mk.inj hz).1
            replace hz := (Prod.mk.inj hz).2
            have z1 := hz
            exact x_iret hx hb hr hlk hK hG z0 (by rw [z1]) dX4_second_79
        · rw [lg_cmp_eq] at c8
          replace hf := if_t c8 hf
          refine lv_iconst (v := (-1)) hx hb dX4_second_42 (by decide) ?_
          have hz := Option.some.inj hf
          have z0 := (Prod.mk.inj hz).1
          replace hz := (Prod.mk.inj hz).2
          have z1 := hz
          exact x_iret hx hb hr hlk hK hG z0 (by rw [z1]) dX4_second_43
      · replace hf := if_f c5 hf
        refine lv_iconst (v := (-1)) hx hb dX4_second_16 (by decide) ?_
        have hz := Option.some.inj hf
        have z0 := (Prod.mk.inj hz).1
        replace hz := (Prod.mk.inj hz).2
        have z1 := hz
        exact x_iret hx hb hr hlk hK hG z0 (by rw [z1]) dX4_second_17
set_option maxRecDepth 100000 in
set_option maxHeartbeats 4000000 in
theorem c_X4_center (l : Launch) (D : va_G) (κ : Nat → ClassId) (a : Nat → Nat) (sz : Nat) (p1 : Int32) (uh : HS) (ur : RS) (un : NS) (us : SS) (uo : OS) (r' : Int32) (us' : SS) (hf : f_X4_center p1 un us uo = some (r', us')) : Met l yX4_center wsX4_center ({ frames := 13, cells := 0, slots := 0, locals := 309 } : Room) (xPc D κ [.ref (a 25), .int p1] (WH κ a uh ++ (WR κ a ur ++ (WN κ a un ++ (WS κ a us ++ (WO κ a uo))))) sz) (xQi D κ r' (WH κ a uh ++ (WR κ a ur ++ (WN κ a un ++ (WS κ a us' ++ (WO κ a uo))))) (va_A (WH κ a uh ++ (WR κ a ur ++ (WN κ a un ++ (WS κ a us ++ (WO κ a uo))))) sz)) 0 0 (va_A (WH κ a uh ++ (WR κ a ur ++ (WN κ a un ++ (WS κ a us ++ (WO κ a uo))))) sz) := by
  refine x_ofW (cc := cX4_center) (maxL := 8) (ret := (some .int)) (Qf := fun A => xQi D κ r' (WH κ a uh ++ (WR κ a ur ++ (WN κ a un ++ (WS κ a us' ++ (WO κ a uo))))) A) (by decide) rfl (Nat.le_of_ble_eq_true rfl) ?_
  intro p e s m below meth c hx hb hr hlk hml hown hts hK A hA H locs hG ls hl
  have hown : s.vm.findClass RX4 = some m.cls := hown
  have hl : lv_has ls 8 [(0, .ref (a 25)), (1, .int p1)] := hl
  have iX3 : ∀ w ∈ u_ws RX3 TX3 8, w ∈ wsX4_center := fun _ h => List.mem_cons_of_mem _ (List.mem_append_left _ (List.mem_append_right _ h))
  have iX4 : ∀ w ∈ u_ws RX4 TX4 8, w ∈ wsX4_center := fun _ h => List.mem_cons_of_mem _ (List.mem_append_left _ (List.mem_append_left _ (List.mem_append_right _ h)))
  have k282 := hts (.fieldLink RX4 282 "SpineDesks$Search" "reach" "I") (List.mem_of_getElem? (i := 2) rfl)
  have k285 := hts (.fieldLink RX4 285 "SpineDesks$Search" "first" "J") (List.mem_of_getElem? (i := 3) rfl)
  have k51 := hts (.fieldLink RX4 51 "SpineDesks" "search" "LSpineDesks$Search;") (List.mem_of_getElem? (i := 1) rfl)
  have L96 : ∀ (rec21 : Int32 → Int32 → Int32 → Int32 → Int32 → SS → Option (Int32 × SS)) (hr21 : ∀ (y1 : Int32) (y2 : Int32) (y3 : Int32) (y4 : Int32) (y5 : Int32) (us : SS), rec21 y1 y2 y3 y4 y5 us = some (r', us') → ∀ (H : Heap) (locs : List Loc) (ls : Array Slot), xG D A s.heap (WH κ a uh ++ (WR κ a ur ++ (WN κ a un ++ (WS κ a us ++ (WO κ a uo))))) H locs → lv_has ls 8 [(0, .ref (a 25)), (1, .int y1), (2, .int y2), (3, .int y3), (4, .int y4), (5, .int y5)] → W p l e ({ frames := 13, cells := 0, slots := 0, locals := 309 } : Room) s m (([.ref (a 25), .int p1] : List Value).toArray) below meth c H locs 0 0 (MQ below (xQi D κ r' (WH κ a uh ++ (WR κ a ur ++ (WN κ a un ++ (WS κ a us' ++ (WO κ a uo))))) A) (([.ref (a 25), .int p1] : List Value).toArray) s 0 0 A) (F0 m 21 ls [])), ∀ (x1 : Int32) (x2 : Int32) (x3 : Int32) (x4 : Int32) (x5 : Int32) (us : SS), f_X4_center_96 un uo rec21 x1 x2 x3 x4 x5 us = some (r', us') → ∀ (H : Heap) (locs : List Loc) (ls : Array Slot), xG D A s.heap (WH κ a uh ++ (WR κ a ur ++ (WN κ a un ++ (WS κ a us ++ (WO κ a uo))))) H locs → lv_has ls 8 [(0, .ref (a 25)), (1, .int x1), (2, .int x2), (3, .int x3), (4, .int x4), (5, .int x5)] → W p l e ({ frames := 13, cells := 0, slots := 0, locals := 309 } : Room) s m (([.ref (a 25), .int p1] : List Value).toArray) below meth c H locs 0 0 (MQ below (xQi D κ r' (WH κ a uh ++ (WR κ a ur ++ (WN κ a un ++ (WS κ a us' ++ (WO κ a uo))))) A) (([.ref (a 25), .int p1] : List Value).toArray) s 0 0 A) (F0 m 96 ls []) := by
    intro rec21 hr21 x1 x2 x3 x4 x5 us hf H locs ls hG hl
    unfold f_X4_center_96 at hf
    obtain ⟨y1, ey1, hf⟩ := bnd_e hf
    refine lv_iinc (v := y1) (lv' := [(5, .int y1), (0, .ref (a 25)), (1, .int x1), (2, .int x2), (3, .int x3), (4, .int x4)]) hx hb dX4_center_96 hl (k := 5) rfl (by rw [ey1]; rfl) (by decide) rfl (fun ls hl => ?_)
    refine lv_goto (tgt := 21) hx hb dX4_center_99 (by decide) ?_
    exact hr21 x1 x2 x3 x4 y1 us hf H locs ls hG (lv_sub hl [1, 2, 3, 4, 5, 0] rfl)
  have L86 : ∀ (rec21 : Int32 → Int32 → Int32 → Int32 → Int32 → SS → Option (Int32 × SS)) (hr21 : ∀ (y1 : Int32) (y2 : Int32) (y3 : Int32) (y4 : Int32) (y5 : Int32) (us : SS), rec21 y1 y2 y3 y4 y5 us = some (r', us') → ∀ (H : Heap) (locs : List Loc) (ls : Array Slot), xG D A s.heap (WH κ a uh ++ (WR κ a ur ++ (WN κ a un ++ (WS κ a us ++ (WO κ a uo))))) H locs → lv_has ls 8 [(0, .ref (a 25)), (1, .int y1), (2, .int y2), (3, .int y3), (4, .int y4), (5, .int y5)] → W p l e ({ frames := 13, cells := 0, slots := 0, locals := 309 } : Room) s m (([.ref (a 25), .int p1] : List Value).toArray) below meth c H locs 0 0 (MQ below (xQi D κ r' (WH κ a uh ++ (WR κ a ur ++ (WN κ a un ++ (WS κ a us' ++ (WO κ a uo))))) A) (([.ref (a 25), .int p1] : List Value).toArray) s 0 0 A) (F0 m 21 ls [])), ∀ (x1 : Int32) (x5 : Int32) (x6 : Int32) (x7 : Int32) (us : SS), f_X4_center_86 un uo rec21 x1 x5 x6 x7 us = some (r', us') → ∀ (H : Heap) (locs : List Loc) (ls : Array Slot), xG D A s.heap (WH κ a uh ++ (WR κ a ur ++ (WN κ a un ++ (WS κ a us ++ (WO κ a uo))))) H locs → lv_has ls 8 [(0, .ref (a 25)), (1, .int x1), (5, .int x5), (6, .int x6), (7, .int x7)] → W p l e ({ frames := 13, cells := 0, slots := 0, locals := 309 } : Room) s m (([.ref (a 25), .int p1] : List Value).toArray) below meth c H locs 0 0 (MQ below (xQi D κ r' (WH κ a uh ++ (WR κ a ur ++ (WN κ a un ++ (WS κ a us' ++ (WO κ a uo))))) A) (([.ref (a 25), .int p1] : List Value).toArray) s 0 0 A) (F0 m 86 ls []) := by
    intro rec21 hr21 x1 x5 x6 x7 us hf H locs ls hG hl
    unfold f_X4_center_86 at hf
    refine lv_iload hx hb dX4_center_86 (lv_at hl 2 rfl) ?_
    refine lv_istore_n (lv' := [(2, .int x5), (0, .ref (a 25)), (1, .int x1), (5, .int x5), (6, .int x6), (7, .int x7)]) hx hb dX4_center_88 rfl hl (by decide) rfl (fun ls hl => ?_)
    refine lv_iload hx hb dX4_center_89 (lv_at hl 4 rfl) ?_
    refine lv_istore_n (lv' := [(3, .int x6), (2, .int x5), (0, .ref (a 25)), (1, .int x1), (5, .int x5), (6, .int x6), (7, .int x7)]) hx hb dX4_center_91 rfl hl (by decide) rfl (fun ls hl => ?_)
    refine lv_iload hx hb dX4_center_92 (lv_at hl 6 rfl) ?_
    refine lv_istore (lv' := [(4, .int x7), (3, .int x6), (2, .int x5), (0, .ref (a 25)), (1, .int x1), (5, .int x5), (6, .int x6), (7, .int x7)]) hx hb dX4_center_94 hl (by decide) rfl (fun ls hl => ?_)
    exact L96 rec21 hr21  x1 x5 x6 x7 x5 us hf H locs ls hG (lv_sub hl [3, 4, 2, 1, 0, 5] rfl)
  have L21 : ∀ (n : Nat), ∀ (x1 : Int32) (x2 : Int32) (x3 : Int32) (x4 : Int32) (x5 : Int32) (us : SS), f_X4_center_21 un uo n x1 x2 x3 x4 x5 us = some (r', us') → ∀ (H : Heap) (locs : List Loc) (ls : Array Slot), xG D A s.heap (WH κ a uh ++ (WR κ a ur ++ (WN κ a un ++ (WS κ a us ++ (WO κ a uo))))) H locs → lv_has ls 8 [(0, .ref (a 25)), (1, .int x1), (2, .int x2), (3, .int x3), (4, .int x4), (5, .int x5)] → W p l e ({ frames := 13, cells := 0, slots := 0, locals := 309 } : Room) s m (([.ref (a 25), .int p1] : List Value).toArray) below meth c H locs 0 0 (MQ below (xQi D κ r' (WH κ a uh ++ (WR κ a ur ++ (WN κ a un ++ (WS κ a us' ++ (WO κ a uo))))) A) (([.ref (a 25), .int p1] : List Value).toArray) s 0 0 A) (F0 m 21 ls []) := by
    intro  n
    induction n with
    | zero => intro x1 x2 x3 x4 x5 us hf; cases hf
    | succ n ih =>
      intro x1 x2 x3 x4 x5 us hf H locs ls hG hl
      replace hf : f_X4_center_B21 un uo (f_X4_center_21 un uo n) x1 x2 x3 x4 x5 us = some (r', us') := hf
      unfold f_X4_center_B21 at hf
      refine lv_iload hx hb dX4_center_21 (lv_at hl 5 rfl) ?_
      refine lv_bipush (v := 8) hx hb dX4_center_23 (by decide) ?_
      refine lv_icmp_ge (tgt := 102) hx hb dX4_center_25 (by decide) (fun c2 => ?_) (fun c2 => ?_)
      · replace hf := if_t c2 hf
        refine lv_iload_n hx hb dX4_center_102 rfl (lv_at hl 1 rfl) ?_
        refine lv_if_ne (tgt := 110) hx hb dX4_center_103 (by decide) (fun c3 => ?_) (fun c3 => ?_)
        · replace hf := if_f c3 hf
          refine lv_iload hx hb dX4_center_110 (lv_at hl 4 rfl) ?_
          have hz := Option.some.inj hf
          have z0 := (Prod.mk.inj hz).1
          replace hz := (Prod.mk.inj hz).2
          have z1 := hz
          exact x_iret hx hb hr hlk hK hG z0 (by rw [z1]) dX4_center_112
        · replace hf := if_t c3 hf
          refine lv_iload_n hx hb dX4_center_106 rfl (lv_at hl 2 rfl) ?_
          refine lv_goto (tgt := 112) hx hb dX4_center_107 (by decide) ?_
          have hz := Option.some.inj hf
          have z0 := (Prod.mk.inj hz).1
          replace hz := (Prod.mk.inj hz).2
          have z1 := hz
          exact x_iret hx hb hr hlk hK hG z0 (by rw [z1]) dX4_center_112
      · replace hf := if_f c2 hf
        refine lv_aload_n hx hb dX4_center_28 rfl (lv_at hl 0 rfl) ?_
        refine x_get (C := RX4) (T := TX4) (N := 8) (ci := 4) hx hb hts iX4 hown hK hG 25 rfl rfl 6 (by decide) k51 (v := .ref (a 23)) rfl dX4_center_29 ?_
        refine lv_iload hx hb dX4_center_32 (lv_at hl 5 rfl) ?_
        refine lv_iconst (v := (-1)) hx hb dX4_center_34 (by decide) ?_
        refine lv_iconst (v := (-1)) hx hb dX4_center_35 (by decide) ?_
        obtain ⟨us4, q5, hf⟩ := cl1_e hf
        refine x_callVv (pre := WH κ a uh ++ (WR κ a ur)) (wc := WN κ a un ++ (WS κ a us)) (wc1 := WN κ a un ++ (WS κ a us4)) (post := WO κ a uo) (As := [.int x5, .int ((-1)), .int ((-1))]) (rest := []) (w1 := WH κ a uh ++ (WR κ a ur ++ (WN κ a un ++ (WS κ a us4 ++ (WO κ a uo))))) ⟨hx, hb, hml, hown, hts⟩ hK hG hA (by simp only [List.append_assoc, List.nil_append, List.append_nil]) (by simp only [List.append_assoc, List.nil_append, List.append_nil]) (c_X3_seek l D κ a H.size x5 ((-1)) ((-1)) un us us4 q5) (cwV 3 hts gX4_center_X3_seek rfl rfl rfl (by decide +kernel) ⟨Nat.le_of_ble_eq_true rfl, Nat.le_of_ble_eq_true rfl⟩) 4 3 rfl rfl rfl rfl hl.1 rfl (Nat.le_of_ble_eq_true rfl) dX4_center_36 ⟨Nat.zero_le _, Nat.zero_le _⟩ (fun H locs hG => ?_)
        refine lv_aload_n hx hb dX4_center_39 rfl (lv_at hl 0 rfl) ?_
        refine x_get (C := RX4) (T := TX4) (N := 8) (ci := 4) hx hb hts iX4 hown hK hG 25 rfl rfl 6 (by decide) k51 (v := .ref (a 23)) rfl dX4_center_40 ?_
        refine x_get (C := RX3) (T := TX3) (N := 8) (ci := 3) hx hb hts iX3 hown hK hG 23 rfl rfl 5 (by decide) k282 (v := .int (us4.reach)) rfl dX4_center_43 ?_
        obtain ⟨r6, q7, hf⟩ := cl1_e hf
        refine x_callSi (pre := ([] : va_W)) (wc := ([] : va_W)) (wc1 := ([] : va_W)) (post := WH κ a uh ++ (WR κ a ur ++ (WN κ a un ++ (WS κ a us4 ++ (WO κ a uo))))) (As := [.int (us4.reach)]) (rest := []) (w1 := WH κ a uh ++ (WR κ a ur ++ (WN κ a un ++ (WS κ a us4 ++ (WO κ a uo))))) ⟨hx, hb, hml, hown, hts⟩ hK hG hA (by simp only [List.append_assoc, List.nil_append, List.append_nil]) (by simp only [List.append_assoc, List.nil_append, List.append_nil]) (c_J6_bitCount_0f7a4 l D κ a H.size (us4.reach) r6 q7) (va_cwS 1 hts gX4_center_J6_bitCount_0f7a4 rfl rfl rfl (by decide +kernel) ⟨Nat.le_of_ble_eq_true rfl, Nat.le_of_ble_eq_true rfl⟩) rfl hl.1 rfl (Nat.le_of_ble_eq_true rfl) dX4_center_46 ⟨Nat.zero_le _, Nat.zero_le _⟩ (fun H locs hG => ?_)
        refine lv_istore (lv' := [(6, .int r6), (0, .ref (a 25)), (1, .int x1), (2, .int x2), (3, .int x3), (4, .int x4), (5, .int x5)]) hx hb dX4_center_49 hl (by decide) rfl (fun ls hl => ?_)
        refine lv_aload_n hx hb dX4_center_51 rfl (lv_at hl 1 rfl) ?_
        refine x_get (C := RX4) (T := TX4) (N := 8) (ci := 4) hx hb hts iX4 hown hK hG 25 rfl rfl 6 (by decide) k51 (v := .ref (a 23)) rfl dX4_center_52 ?_
        refine lv_aload_n hx hb dX4_center_55 rfl (lv_at hl 1 rfl) ?_
        refine x_get (C := RX4) (T := TX4) (N := 8) (ci := 4) hx hb hts iX4 hown hK hG 25 rfl rfl 6 (by decide) k51 (v := .ref (a 23)) rfl dX4_center_56 ?_
        refine x_get (C := RX3) (T := TX3) (N := 8) (ci := 3) hx hb hts iX3 hown hK hG 23 rfl rfl 6 (by decide) k285 (v := .long (us4.first)) rfl dX4_center_59 ?_
        obtain ⟨r8, q9, hf⟩ := cl1_e hf
        refine x_callVi (pre := WH κ a uh ++ (WR κ a ur)) (wc := WN κ a un ++ (WS κ a us4)) (wc1 := WN κ a un ++ (WS κ a us4)) (post := WO κ a uo) (As := [.long (us4.first)]) (rest := []) (w1 := WH κ a uh ++ (WR κ a ur ++ (WN κ a un ++ (WS κ a us4 ++ (WO κ a uo))))) ⟨hx, hb, hml, hown, hts⟩ hK hG hA (by simp only [List.append_assoc, List.nil_append, List.append_nil]) (by simp only [List.append_assoc, List.nil_append, List.append_nil]) (c_X3_costOf l D κ a H.size (us4.first) un us4 r8 q9) (cwV 1 hts gX4_center_X3_costOf rfl rfl rfl (by decide +kernel) ⟨Nat.le_of_ble_eq_true rfl, Nat.le_of_ble_eq_true rfl⟩) 4 3 rfl rfl rfl rfl hl.1 rfl (Nat.le_of_ble_eq_true rfl) dX4_center_62 ⟨Nat.zero_le _, Nat.zero_le _⟩ (fun H locs hG => ?_)
        refine lv_istore (lv' := [(7, .int r8), (6, .int r6), (0, .ref (a 25)), (1, .int x1), (2, .int x2), (3, .int x3), (4, .int x4), (5, .int x5)]) hx hb dX4_center_65 hl (by decide) rfl (fun ls hl => ?_)
        refine lv_iload hx hb dX4_center_67 (lv_at hl 1 rfl) ?_
        refine lv_iload_n hx hb dX4_center_69 rfl (lv_at hl 5 rfl) ?_
        refine lv_icmp_gt (tgt := 86) hx hb dX4_center_70 (by decide) (fun c10 => ?_) (fun c10 => ?_)
        · replace hf := if_t c10 hf
          exact L86 (f_X4_center_21 un uo n) ih  x1 x5 r6 r8 us4 hf H locs ls hG (lv_sub hl [2, 3, 7, 1, 0] rfl)
        · replace hf := if_f c10 hf
          refine lv_iload hx hb dX4_center_73 (lv_at hl 1 rfl) ?_
          refine lv_iload_n hx hb dX4_center_75 rfl (lv_at hl 5 rfl) ?_
          refine lv_icmp_ne (tgt := 96) hx hb dX4_center_76 (by decide) (fun c11 => ?_) (fun c11 => ?_)
          · replace hf := if_f c11 hf
            exact L96 (f_X4_center_21 un uo n) ih  x1 x2 x3 x4 x5 us4 hf H locs ls hG (lv_sub hl [2, 3, 4, 5, 6, 7] rfl)
          · replace hf := if_t c11 hf
            refine lv_iload hx hb dX4_center_79 (lv_at hl 0 rfl) ?_
            refine lv_iload hx hb dX4_center_81 (lv_at hl 6 rfl) ?_
            refine lv_icmp_ge (tgt := 96) hx hb dX4_center_83 (by decide) (fun c12 => ?_) (fun c12 => ?_)
            · replace hf := if_t c12 hf
              exact L96 (f_X4_center_21 un uo n) ih  x1 x2 x3 x4 x5 us4 hf H locs ls hG (lv_sub hl [2, 3, 4, 5, 6, 7] rfl)
            · replace hf := if_f c12 hf
              exact L86 (f_X4_center_21 un uo n) ih  x1 x5 r6 r8 us4 hf H locs ls hG (lv_sub hl [2, 3, 7, 1, 0] rfl)
  unfold f_X4_center at hf
  refine lv_iload_n hx hb dX4_center_0 rfl (lv_at hl 1 rfl) ?_
  refine lv_if_lt (tgt := 9) hx hb dX4_center_1 (by decide) (fun c13 => ?_) (fun c13 => ?_)
  · replace hf := if_t c13 hf
    refine lv_iconst (v := (-1)) hx hb dX4_center_9 (by decide) ?_
    have hz := Option.some.inj hf
    have z0 := (Prod.mk.inj hz).1
    replace hz := (Prod.mk.inj hz).2
    have z1 := hz
    exact x_iret hx hb hr hlk hK hG z0 (by rw [z1]) dX4_center_10
  · replace hf := if_f c13 hf
    refine lv_iload_n hx hb dX4_center_4 rfl (lv_at hl 1 rfl) ?_
    refine lv_iconst (v := 1) hx hb dX4_center_5 (by decide) ?_
    refine lv_icmp_le (tgt := 11) hx hb dX4_center_6 (by decide) (fun c14 => ?_) (fun c14 => ?_)
    · replace hf := if_t c14 hf
      refine lv_iconst (v := (-1)) hx hb dX4_center_11 (by decide) ?_
      refine lv_istore_n (lv' := [(2, .int ((-1))), (0, .ref (a 25)), (1, .int p1)]) hx hb dX4_center_12 rfl hl (by decide) rfl (fun ls hl => ?_)
      refine lv_iconst (v := 0) hx hb dX4_center_13 (by decide) ?_
      refine lv_istore_n (lv' := [(3, .int 0), (2, .int ((-1))), (0, .ref (a 25)), (1, .int p1)]) hx hb dX4_center_14 rfl hl (by decide) rfl (fun ls hl => ?_)
      refine lv_iconst (v := 0) hx hb dX4_center_15 (by decide) ?_
      refine lv_istore (lv' := [(4, .int 0), (3, .int 0), (2, .int ((-1))), (0, .ref (a 25)), (1, .int p1)]) hx hb dX4_center_16 hl (by decide) rfl (fun ls hl => ?_)
      refine lv_iconst (v := 0) hx hb dX4_center_18 (by decide) ?_
      refine lv_istore (lv' := [(5, .int 0), (4, .int 0), (3, .int 0), (2, .int ((-1))), (0, .ref (a 25)), (1, .int p1)]) hx hb dX4_center_19 hl (by decide) rfl (fun ls hl => ?_)
      exact L21  FU p1 ((-1)) 0 0 0 us hf H locs ls hG (lv_sub hl [4, 5, 3, 2, 1, 0] rfl)
    · replace hf := if_f c14 hf
      refine lv_iconst (v := (-1)) hx hb dX4_center_9 (by decide) ?_
      have hz := Option.some.inj hf
      have z0 := (Prod.mk.inj hz).1
      replace hz := (Prod.mk.inj hz).2
      have z1 := hz
      exact x_iret hx hb hr hlk hK hG z0 (by rw [z1]) dX4_center_10
set_option maxRecDepth 100000 in
set_option maxHeartbeats 4000000 in
theorem c_X4_keys (l : Launch) (D : va_G) (κ : Nat → ClassId) (a : Nat → Nat) (sz : Nat) (p1 : Int32) (p2 : Int32) (uh : HS) (ur : RS) (un : NS) (us : SS) (uo : OS) (r' : Int64) (ur' : RS) (hf : f_X4_keys p1 p2 uh ur uo = some (r', ur')) : Met l yX4_keys wsX4_keys ({ frames := 5, cells := 0, slots := 0, locals := 118 } : Room) (xPc D κ [.ref (a 25), .int p1, .int p2] (WH κ a uh ++ (WR κ a ur ++ (WN κ a un ++ (WS κ a us ++ (WO κ a uo))))) sz) (xQl D κ r' (WH κ a uh ++ (WR κ a ur' ++ (WN κ a un ++ (WS κ a us ++ (WO κ a uo))))) (va_A (WH κ a uh ++ (WR κ a ur ++ (WN κ a un ++ (WS κ a us ++ (WO κ a uo))))) sz)) 0 0 (va_A (WH κ a uh ++ (WR κ a ur ++ (WN κ a un ++ (WS κ a us ++ (WO κ a uo))))) sz) := by
  refine x_ofW (cc := cX4_keys) (maxL := 3) (ret := (some .long)) (Qf := fun A => xQl D κ r' (WH κ a uh ++ (WR κ a ur' ++ (WN κ a un ++ (WS κ a us ++ (WO κ a uo))))) A) (by decide) rfl (Nat.le_of_ble_eq_true rfl) ?_
  intro p e s m below meth c hx hb hr hlk hml hown hts hK A hA H locs hG ls hl
  have hown : s.vm.findClass RX4 = some m.cls := hown
  have hl : lv_has ls 3 [(0, .ref (a 25)), (1, .int p1), (2, .int p2)] := hl
  have iX4 : ∀ w ∈ u_ws RX4 TX4 8, w ∈ wsX4_keys := fun _ h => List.mem_cons_of_mem _ (List.mem_append_left _ (List.mem_append_left _ (List.mem_append_right _ h)))
  have k237 := hts (.constantLong RX4 237 (-9223372036854775808)) (List.mem_of_getElem? (i := 1) rfl)
  have k42 := hts (.fieldLink RX4 42 "SpineDesks" "rows" "LSpineDesks$Rows;") (List.mem_of_getElem? (i := 2) rfl)
  unfold f_X4_keys at hf
  refine lv_iload_n hx hb dX4_keys_0 rfl (lv_at hl 1 rfl) ?_
  obtain ⟨r1, q2, hf⟩ := cl1_e hf
  refine x_callSi (pre := ([] : va_W)) (wc := ([] : va_W)) (wc1 := ([] : va_W)) (post := WH κ a uh ++ (WR κ a ur ++ (WN κ a un ++ (WS κ a us ++ (WO κ a uo))))) (As := [.int p1]) (rest := []) (w1 := WH κ a uh ++ (WR κ a ur ++ (WN κ a un ++ (WS κ a us ++ (WO κ a uo))))) ⟨hx, hb, hml, hown, hts⟩ hK hG hA (by simp only [List.append_assoc, List.nil_append, List.append_nil]) (by simp only [List.append_assoc, List.nil_append, List.append_nil]) (c_X4_isDesk l D κ a H.size p1 r1 q2) (va_cwS 1 hts gX4_keys_X4_isDesk rfl rfl rfl (by decide +kernel) ⟨Nat.le_of_ble_eq_true rfl, Nat.le_of_ble_eq_true rfl⟩) rfl hl.1 rfl (Nat.le_of_ble_eq_true rfl) dX4_keys_1 ⟨Nat.zero_le _, Nat.zero_le _⟩ (fun H locs hG => ?_)
  refine lv_if_ne (tgt := 11) hx hb dX4_keys_4 (by decide) (fun c3 => ?_) (fun c3 => ?_)
  · replace hf := if_f c3 hf
    refine lv_iload_n hx hb dX4_keys_11 rfl (lv_at hl 2 rfl) ?_
    by_cases c4 : p2 = 0
    · replace hf := if_t c4 hf
      refine lv_tableIn (tgt := 44) (off := 32) hx hb dX4_keys_12 (by rw [c4]; decide) (by rw [c4]; decide) (by rw [c4]; rfl) (by decide) ?_
      refine lv_aload_n hx hb dX4_keys_44 rfl (lv_at hl 0 rfl) ?_
      refine x_get (C := RX4) (T := TX4) (N := 8) (ci := 4) hx hb hts iX4 hown hK hG 25 rfl rfl 5 (by decide) k42 (v := .ref (a 13)) rfl dX4_keys_45 ?_
      refine lv_iload_n hx hb dX4_keys_48 rfl (lv_at hl 1 rfl) ?_
      obtain ⟨r5, q6, hf⟩ := cl1_e hf
      refine x_callVl (pre := ([] : va_W)) (wc := WH κ a uh ++ (WR κ a ur)) (wc1 := WH κ a uh ++ (WR κ a ur)) (post := WN κ a un ++ (WS κ a us ++ (WO κ a uo))) (As := [.int p1]) (rest := []) (w1 := WH κ a uh ++ (WR κ a ur ++ (WN κ a un ++ (WS κ a us ++ (WO κ a uo))))) ⟨hx, hb, hml, hown, hts⟩ hK hG hA (by simp only [List.append_assoc, List.nil_append, List.append_nil]) (by simp only [List.append_assoc, List.nil_append, List.append_nil]) (c_X2_sumOfKeys l D κ a H.size p1 uh ur r5 q6) (cwV 1 hts gX4_keys_X2_sumOfKeys rfl rfl rfl (by decide +kernel) ⟨Nat.le_of_ble_eq_true rfl, Nat.le_of_ble_eq_true rfl⟩) 13 2 rfl rfl rfl rfl hl.1 rfl (Nat.le_of_ble_eq_true rfl) dX4_keys_49 ⟨Nat.zero_le _, Nat.zero_le _⟩ (fun H locs hG => ?_)
      have hz := Option.some.inj hf
      have z0 := (Prod.mk.inj hz).1
      replace hz := (Prod.mk.inj hz).2
      have z1 := hz
      exact x_lret hx hb hr hlk hK hG z0 (by rw [z1]) dX4_keys_52
    replace hf := if_f c4 hf
    by_cases c7 : p2 = 1
    · replace hf := if_t c7 hf
      refine lv_tableIn (tgt := 53) (off := 41) hx hb dX4_keys_12 (by rw [c7]; decide) (by rw [c7]; decide) (by rw [c7]; rfl) (by decide) ?_
      refine lv_aload_n hx hb dX4_keys_53 rfl (lv_at hl 0 rfl) ?_
      refine x_get (C := RX4) (T := TX4) (N := 8) (ci := 4) hx hb hts iX4 hown hK hG 25 rfl rfl 5 (by decide) k42 (v := .ref (a 13)) rfl dX4_keys_54 ?_
      refine lv_iload_n hx hb dX4_keys_57 rfl (lv_at hl 1 rfl) ?_
      obtain ⟨r8, ur9, q10, hf⟩ := cl2_e hf
      refine x_callVl (pre := ([] : va_W)) (wc := WH κ a uh ++ (WR κ a ur)) (wc1 := WH κ a uh ++ (WR κ a ur9)) (post := WN κ a un ++ (WS κ a us ++ (WO κ a uo))) (As := [.int p1]) (rest := []) (w1 := WH κ a uh ++ (WR κ a ur9 ++ (WN κ a un ++ (WS κ a us ++ (WO κ a uo))))) ⟨hx, hb, hml, hown, hts⟩ hK hG hA (by simp only [List.append_assoc, List.nil_append, List.append_nil]) (by simp only [List.append_assoc, List.nil_append, List.append_nil]) (c_X2_greatestKey l D κ a H.size p1 uh ur r8 ur9 q10) (cwV 1 hts gX4_keys_X2_greatestKey rfl rfl rfl (by decide +kernel) ⟨Nat.le_of_ble_eq_true rfl, Nat.le_of_ble_eq_true rfl⟩) 13 2 rfl rfl rfl rfl hl.1 rfl (Nat.le_of_ble_eq_true rfl) dX4_keys_58 ⟨Nat.zero_le _, Nat.zero_le _⟩ (fun H locs hG => ?_)
      have hz := Option.some.inj hf
      have z0 := (Prod.mk.inj hz).1
      replace hz := (Prod.mk.inj hz).2
      have z1 := hz
      exact x_lret hx hb hr hlk hK hG z0 (by rw [z1]) dX4_keys_61
    replace hf := if_f c7 hf
    by_cases c11 : p2 = 2
    · replace hf := if_t c11 hf
      refine lv_tableIn (tgt := 62) (off := 50) hx hb dX4_keys_12 (by rw [c11]; decide) (by rw [c11]; decide) (by rw [c11]; rfl) (by decide) ?_
      refine lv_aload_n hx hb dX4_keys_62 rfl (lv_at hl 0 rfl) ?_
      refine x_get (C := RX4) (T := TX4) (N := 8) (ci := 4) hx hb hts iX4 hown hK hG 25 rfl rfl 5 (by decide) k42 (v := .ref (a 13)) rfl dX4_keys_63 ?_
      refine lv_iload_n hx hb dX4_keys_66 rfl (lv_at hl 1 rfl) ?_
      obtain ⟨r12, ur13, q14, hf⟩ := cl2_e hf
      refine x_callVl (pre := ([] : va_W)) (wc := WH κ a uh ++ (WR κ a ur)) (wc1 := WH κ a uh ++ (WR κ a ur13)) (post := WN κ a un ++ (WS κ a us ++ (WO κ a uo))) (As := [.int p1]) (rest := []) (w1 := WH κ a uh ++ (WR κ a ur13 ++ (WN κ a un ++ (WS κ a us ++ (WO κ a uo))))) ⟨hx, hb, hml, hown, hts⟩ hK hG hA (by simp only [List.append_assoc, List.nil_append, List.append_nil]) (by simp only [List.append_assoc, List.nil_append, List.append_nil]) (c_X2_greatestGap l D κ a H.size p1 uh ur r12 ur13 q14) (cwV 1 hts gX4_keys_X2_greatestGap rfl rfl rfl (by decide +kernel) ⟨Nat.le_of_ble_eq_true rfl, Nat.le_of_ble_eq_true rfl⟩) 13 2 rfl rfl rfl rfl hl.1 rfl (Nat.le_of_ble_eq_true rfl) dX4_keys_67 ⟨Nat.zero_le _, Nat.zero_le _⟩ (fun H locs hG => ?_)
      have hz := Option.some.inj hf
      have z0 := (Prod.mk.inj hz).1
      replace hz := (Prod.mk.inj hz).2
      have z1 := hz
      exact x_lret hx hb hr hlk hK hG z0 (by rw [z1]) dX4_keys_70
    replace hf := if_f c11 hf
    by_cases c15 : p2 = 3
    · replace hf := if_t c15 hf
      refine lv_tableIn (tgt := 71) (off := 59) hx hb dX4_keys_12 (by rw [c15]; decide) (by rw [c15]; decide) (by rw [c15]; rfl) (by decide) ?_
      refine lv_aload_n hx hb dX4_keys_71 rfl (lv_at hl 0 rfl) ?_
      refine x_get (C := RX4) (T := TX4) (N := 8) (ci := 4) hx hb hts iX4 hown hK hG 25 rfl rfl 5 (by decide) k42 (v := .ref (a 13)) rfl dX4_keys_72 ?_
      refine lv_iload_n hx hb dX4_keys_75 rfl (lv_at hl 1 rfl) ?_
      obtain ⟨r16, ur17, q18, hf⟩ := cl2_e hf
      refine x_callVl (pre := ([] : va_W)) (wc := WH κ a uh ++ (WR κ a ur)) (wc1 := WH κ a uh ++ (WR κ a ur17)) (post := WN κ a un ++ (WS κ a us ++ (WO κ a uo))) (As := [.int p1]) (rest := []) (w1 := WH κ a uh ++ (WR κ a ur17 ++ (WN κ a un ++ (WS κ a us ++ (WO κ a uo))))) ⟨hx, hb, hml, hown, hts⟩ hK hG hA (by simp only [List.append_assoc, List.nil_append, List.append_nil]) (by simp only [List.append_assoc, List.nil_append, List.append_nil]) (c_X2_differentKeys l D κ a H.size p1 uh ur r16 ur17 q18) (cwV 1 hts gX4_keys_X2_differentKeys rfl rfl rfl (by decide +kernel) ⟨Nat.le_of_ble_eq_true rfl, Nat.le_of_ble_eq_true rfl⟩) 13 2 rfl rfl rfl rfl hl.1 rfl (Nat.le_of_ble_eq_true rfl) dX4_keys_76 ⟨Nat.zero_le _, Nat.zero_le _⟩ (fun H locs hG => ?_)
      have hz := Option.some.inj hf
      have z0 := (Prod.mk.inj hz).1
      replace hz := (Prod.mk.inj hz).2
      have z1 := hz
      exact x_lret hx hb hr hlk hK hG z0 (by rw [z1]) dX4_keys_79
    replace hf := if_f c15 hf
    refine lv_tableOut (tgt := 80) hx hb dX4_keys_12 (x_sw (k := 3) (by decide) (fun j hj => ?_)) (by decide) ?_
    · match j, hj with
      | 0, _ => exact c4
      | 1, _ => exact c7
      | 2, _ => exact c11
      | 3, _ => exact c15
      | j + 4, hj => exact absurd hj (by omega)
    · refine lv_ldc2 (v := (-9223372036854775808)) hx hb hown k237 dX4_keys_80 ?_
      have hz := Option.some.inj hf
      have z0 := (Prod.mk.inj hz).1
      replace hz := (Prod.mk.inj hz).2
      have z1 := hz
      exact x_lret hx hb hr hlk hK hG z0 (by rw [z1]) dX4_keys_83
  · replace hf := if_t c3 hf
    refine lv_ldc2 (v := (-9223372036854775808)) hx hb hown k237 dX4_keys_7 ?_
    have hz := Option.some.inj hf
    have z0 := (Prod.mk.inj hz).1
    replace hz := (Prod.mk.inj hz).2
    have z1 := hz
    exact x_lret hx hb hr hlk hK hG z0 (by rw [z1]) dX4_keys_10
