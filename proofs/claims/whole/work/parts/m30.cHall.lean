set_option maxRecDepth 100000 in
set_option maxHeartbeats 4000000 in
theorem c_X0_isThere (l : Launch) (D : va_G) (κ : Nat → ClassId) (a : Nat → Nat) (sz : Nat) (p1 : Int32) (uh : HS) (r' : Int32)  (hf : f_X0_isThere p1 uh = some (r')) : Met l yX0_isThere wsX0_isThere ({ frames := 0, cells := 0, slots := 0, locals := 0 } : Room) (xPc D κ [.ref (a 0), .int p1] (WH κ a uh) sz) (xQi D κ r' (WH κ a uh) (va_A (WH κ a uh) sz)) 0 0 (va_A (WH κ a uh) sz) := by
  refine x_ofW (cc := cX0_isThere) (maxL := 2) (ret := (some .boolean)) (Qf := fun A => xQi D κ r' (WH κ a uh) A) (by decide) rfl (Nat.le_of_ble_eq_true rfl) ?_
  intro p e s m below meth c hx hb hr hlk hml hown hts hK A hA H locs hG ls hl
  have hown : s.vm.findClass RX0 = some m.cls := hown
  have hl : lv_has ls 2 [(0, .ref (a 0)), (1, .int p1)] := hl
  have iX0 : ∀ w ∈ u_ws RX0 TX0 17, w ∈ wsX0_isThere := fun _ h => List.mem_cons_of_mem _ (List.mem_append_right _ h)
  have k28 := hts (.fieldLink RX0 28 "SpineDesks$Hall" "deskOf" "[I") (List.mem_of_getElem? (i := 2) rfl)
  have k55 := hts (.fieldLink RX0 55 "SpineDesks$Hall" "came" "I") (List.mem_of_getElem? (i := 1) rfl)
  unfold f_X0_isThere at hf
  refine lv_iload_n hx hb dX0_isThere_0 rfl (lv_at hl 1 rfl) ?_
  refine lv_if_lt (tgt := 26) hx hb dX0_isThere_1 (by decide) (fun c1 => ?_) (fun c1 => ?_)
  · replace hf := if_t c1 hf
    refine lv_iconst (v := 0) hx hb dX0_isThere_26 (by decide) ?_
    have z0 := Option.some.inj hf
    exact x_zret hx hb hr hlk hK hG (by decide) z0 rfl dX0_isThere_27
  · replace hf := if_f c1 hf
    refine lv_iload_n hx hb dX0_isThere_4 rfl (lv_at hl 1 rfl) ?_
    refine lv_aload_n hx hb dX0_isThere_5 rfl (lv_at hl 0 rfl) ?_
    refine x_get (C := RX0) (T := TX0) (N := 17) (ci := 0) hx hb hts iX0 hown hK hG 0 rfl rfl 0 (by decide) k55 (v := .int (uh.came)) rfl dX0_isThere_6 ?_
    refine lv_icmp_ge (tgt := 26) hx hb dX0_isThere_9 (by decide) (fun c2 => ?_) (fun c2 => ?_)
    · replace hf := if_t c2 hf
      refine lv_iconst (v := 0) hx hb dX0_isThere_26 (by decide) ?_
      have z0 := Option.some.inj hf
      exact x_zret hx hb hr hlk hK hG (by decide) z0 rfl dX0_isThere_27
    · replace hf := if_f c2 hf
      refine lv_aload_n hx hb dX0_isThere_12 rfl (lv_at hl 0 rfl) ?_
      refine x_get (C := RX0) (T := TX0) (N := 17) (ci := 0) hx hb hts iX0 hown hK hG 0 rfl rfl 8 (by decide) k28 (v := .ref (a 4)) rfl dX0_isThere_13 ?_
      refine lv_iload_n hx hb dX0_isThere_16 rfl (lv_at hl 1 rfl) ?_
      obtain ⟨v3, ev3, hin, hf⟩ := ck_e hf
      refine x_iald hx hb hK hG 4 rfl ev3 hin dX0_isThere_17 ?_
      refine lv_iconst (v := (-1)) hx hb dX0_isThere_18 (by decide) ?_
      refine lv_icmp_eq (tgt := 26) hx hb dX0_isThere_19 (by decide) (fun c4 => ?_) (fun c4 => ?_)
      · replace hf := if_t c4 hf
        refine lv_iconst (v := 0) hx hb dX0_isThere_26 (by decide) ?_
        have z0 := Option.some.inj hf
        exact x_zret hx hb hr hlk hK hG (by decide) z0 rfl dX0_isThere_27
      · replace hf := if_f c4 hf
        refine lv_iconst (v := 1) hx hb dX0_isThere_22 (by decide) ?_
        refine lv_goto (tgt := 27) hx hb dX0_isThere_23 (by decide) ?_
        have z0 := Option.some.inj hf
        exact x_zret hx hb hr hlk hK hG (by decide) z0 rfl dX0_isThere_27
set_option maxRecDepth 100000 in
set_option maxHeartbeats 4000000 in
theorem c_X0_isPlainIn (l : Launch) (D : va_G) (κ : Nat → ClassId) (a : Nat → Nat) (sz : Nat) (p1 : Int32) (p2 : Int32) (uh : HS) (r' : Int32)  (hf : f_X0_isPlainIn p1 p2 uh = some (r')) : Met l yX0_isPlainIn wsX0_isPlainIn ({ frames := 0, cells := 0, slots := 0, locals := 0 } : Room) (xPc D κ [.ref (a 0), .int p1, .int p2] (WH κ a uh) sz) (xQi D κ r' (WH κ a uh) (va_A (WH κ a uh) sz)) 0 0 (va_A (WH κ a uh) sz) := by
  refine x_ofW (cc := cX0_isPlainIn) (maxL := 3) (ret := (some .boolean)) (Qf := fun A => xQi D κ r' (WH κ a uh) A) (by decide) rfl (Nat.le_of_ble_eq_true rfl) ?_
  intro p e s m below meth c hx hb hr hlk hml hown hts hK A hA H locs hG ls hl
  have hown : s.vm.findClass RX0 = some m.cls := hown
  have hl : lv_has ls 3 [(0, .ref (a 0)), (1, .int p1), (2, .int p2)] := hl
  have iX0 : ∀ w ∈ u_ws RX0 TX0 17, w ∈ wsX0_isPlainIn := fun _ h => List.mem_cons_of_mem _ (List.mem_append_right _ h)
  have k28 := hts (.fieldLink RX0 28 "SpineDesks$Hall" "deskOf" "[I") (List.mem_of_getElem? (i := 1) rfl)
  have k31 := hts (.fieldLink RX0 31 "SpineDesks$Hall" "crossed" "[I") (List.mem_of_getElem? (i := 2) rfl)
  unfold f_X0_isPlainIn at hf
  refine lv_aload_n hx hb dX0_isPlainIn_0 rfl (lv_at hl 0 rfl) ?_
  refine x_get (C := RX0) (T := TX0) (N := 17) (ci := 0) hx hb hts iX0 hown hK hG 0 rfl rfl 8 (by decide) k28 (v := .ref (a 4)) rfl dX0_isPlainIn_1 ?_
  refine lv_iload_n hx hb dX0_isPlainIn_4 rfl (lv_at hl 1 rfl) ?_
  obtain ⟨v1, ev1, hin, hf⟩ := ck_e hf
  refine x_iald hx hb hK hG 4 rfl ev1 hin dX0_isPlainIn_5 ?_
  refine lv_iload_n hx hb dX0_isPlainIn_6 rfl (lv_at hl 2 rfl) ?_
  refine lv_icmp_ne (tgt := 23) hx hb dX0_isPlainIn_7 (by decide) (fun c2 => ?_) (fun c2 => ?_)
  · replace hf := if_f c2 hf
    refine lv_iconst (v := 0) hx hb dX0_isPlainIn_23 (by decide) ?_
    have z0 := Option.some.inj hf
    exact x_zret hx hb hr hlk hK hG (by decide) z0 rfl dX0_isPlainIn_24
  · replace hf := if_t c2 hf
    refine lv_aload_n hx hb dX0_isPlainIn_10 rfl (lv_at hl 0 rfl) ?_
    refine x_get (C := RX0) (T := TX0) (N := 17) (ci := 0) hx hb hts iX0 hown hK hG 0 rfl rfl 9 (by decide) k31 (v := .ref (a 5)) rfl dX0_isPlainIn_11 ?_
    refine lv_iload_n hx hb dX0_isPlainIn_14 rfl (lv_at hl 1 rfl) ?_
    obtain ⟨v3, ev3, hin, hf⟩ := ck_e hf
    refine x_iald hx hb hK hG 5 rfl ev3 hin dX0_isPlainIn_15 ?_
    refine lv_if_ne (tgt := 23) hx hb dX0_isPlainIn_16 (by decide) (fun c4 => ?_) (fun c4 => ?_)
    · replace hf := if_f c4 hf
      refine lv_iconst (v := 0) hx hb dX0_isPlainIn_23 (by decide) ?_
      have z0 := Option.some.inj hf
      exact x_zret hx hb hr hlk hK hG (by decide) z0 rfl dX0_isPlainIn_24
    · replace hf := if_t c4 hf
      refine lv_iconst (v := 1) hx hb dX0_isPlainIn_19 (by decide) ?_
      refine lv_goto (tgt := 24) hx hb dX0_isPlainIn_20 (by decide) ?_
      have z0 := Option.some.inj hf
      exact x_zret hx hb hr hlk hK hG (by decide) z0 rfl dX0_isPlainIn_24
set_option maxRecDepth 100000 in
set_option maxHeartbeats 4000000 in
theorem c_X0_isLess (l : Launch) (D : va_G) (κ : Nat → ClassId) (a : Nat → Nat) (sz : Nat) (p1 : Int32) (p2 : Int32) (uh : HS) (r' : Int32)  (hf : f_X0_isLess p1 p2 uh = some (r')) : Met l yX0_isLess wsX0_isLess ({ frames := 0, cells := 0, slots := 0, locals := 0 } : Room) (xPc D κ [.ref (a 0), .int p1, .int p2] (WH κ a uh) sz) (xQi D κ r' (WH κ a uh) (va_A (WH κ a uh) sz)) 0 0 (va_A (WH κ a uh) sz) := by
  refine x_ofW (cc := cX0_isLess) (maxL := 3) (ret := (some .boolean)) (Qf := fun A => xQi D κ r' (WH κ a uh) A) (by decide) rfl (Nat.le_of_ble_eq_true rfl) ?_
  intro p e s m below meth c hx hb hr hlk hml hown hts hK A hA H locs hG ls hl
  have hown : s.vm.findClass RX0 = some m.cls := hown
  have hl : lv_has ls 3 [(0, .ref (a 0)), (1, .int p1), (2, .int p2)] := hl
  have iX0 : ∀ w ∈ u_ws RX0 TX0 17, w ∈ wsX0_isLess := fun _ h => List.mem_cons_of_mem _ (List.mem_append_right _ h)
  have k21 := hts (.fieldLink RX0 21 "SpineDesks$Hall" "keyOf" "[J") (List.mem_of_getElem? (i := 1) rfl)
  unfold f_X0_isLess at hf
  refine lv_aload_n hx hb dX0_isLess_0 rfl (lv_at hl 0 rfl) ?_
  refine x_get (C := RX0) (T := TX0) (N := 17) (ci := 0) hx hb hts iX0 hown hK hG 0 rfl rfl 6 (by decide) k21 (v := .ref (a 2)) rfl dX0_isLess_1 ?_
  refine lv_iload_n hx hb dX0_isLess_4 rfl (lv_at hl 1 rfl) ?_
  obtain ⟨v1, ev1, hin, hf⟩ := ck_e hf
  refine x_lald hx hb hK hG 2 rfl ev1 hin dX0_isLess_5 ?_
  refine lv_aload_n hx hb dX0_isLess_6 rfl (lv_at hl 0 rfl) ?_
  refine x_get (C := RX0) (T := TX0) (N := 17) (ci := 0) hx hb hts iX0 hown hK hG 0 rfl rfl 6 (by decide) k21 (v := .ref (a 2)) rfl dX0_isLess_7 ?_
  refine lv_iload_n hx hb dX0_isLess_10 rfl (lv_at hl 2 rfl) ?_
  obtain ⟨v2, ev2, hin, hf⟩ := ck_e hf
  refine x_lald hx hb hK hG 2 rfl ev2 hin dX0_isLess_11 ?_
  refine W.lcmp hx hb dX0_isLess_12 ?_
  refine lv_if_lt (tgt := 37) hx hb dX0_isLess_13 (by decide) (fun c3 => ?_) (fun c3 => ?_)
  · rw [lg_cmp_lt] at c3
    replace hf := if_t c3 hf
    refine lv_iconst (v := 1) hx hb dX0_isLess_37 (by decide) ?_
    refine lv_goto (tgt := 42) hx hb dX0_isLess_38 (by decide) ?_
    have z0 := Option.some.inj hf
    exact x_zret hx hb hr hlk hK hG (by decide) z0 rfl dX0_isLess_42
  · rw [lg_cmp_lt] at c3
    replace hf := if_f c3 hf
    refine lv_aload_n hx hb dX0_isLess_16 rfl (lv_at hl 0 rfl) ?_
    refine x_get (C := RX0) (T := TX0) (N := 17) (ci := 0) hx hb hts iX0 hown hK hG 0 rfl rfl 6 (by decide) k21 (v := .ref (a 2)) rfl dX0_isLess_17 ?_
    refine lv_iload_n hx hb dX0_isLess_20 rfl (lv_at hl 1 rfl) ?_
    obtain ⟨v4, ev4, hin, hf⟩ := ck_e hf
    refine x_lald hx hb hK hG 2 rfl ev4 hin dX0_isLess_21 ?_
    refine lv_aload_n hx hb dX0_isLess_22 rfl (lv_at hl 0 rfl) ?_
    refine x_get (C := RX0) (T := TX0) (N := 17) (ci := 0) hx hb hts iX0 hown hK hG 0 rfl rfl 6 (by decide) k21 (v := .ref (a 2)) rfl dX0_isLess_23 ?_
    refine lv_iload_n hx hb dX0_isLess_26 rfl (lv_at hl 2 rfl) ?_
    obtain ⟨v5, ev5, hin, hf⟩ := ck_e hf
    refine x_lald hx hb hK hG 2 rfl ev5 hin dX0_isLess_27 ?_
    refine W.lcmp hx hb dX0_isLess_28 ?_
    refine lv_if_ne (tgt := 41) hx hb dX0_isLess_29 (by decide) (fun c6 => ?_) (fun c6 => ?_)
    · rw [lg_cmp_eq] at c6
      replace hf := if_f c6 hf
      refine lv_iconst (v := 0) hx hb dX0_isLess_41 (by decide) ?_
      have z0 := Option.some.inj hf
      exact x_zret hx hb hr hlk hK hG (by decide) z0 rfl dX0_isLess_42
    · rw [lg_cmp_eq] at c6
      replace hf := if_t c6 hf
      refine lv_iload_n hx hb dX0_isLess_32 rfl (lv_at hl 1 rfl) ?_
      refine lv_iload_n hx hb dX0_isLess_33 rfl (lv_at hl 2 rfl) ?_
      refine lv_icmp_ge (tgt := 41) hx hb dX0_isLess_34 (by decide) (fun c7 => ?_) (fun c7 => ?_)
      · replace hf := if_t c7 hf
        refine lv_iconst (v := 0) hx hb dX0_isLess_41 (by decide) ?_
        have z0 := Option.some.inj hf
        exact x_zret hx hb hr hlk hK hG (by decide) z0 rfl dX0_isLess_42
      · replace hf := if_f c7 hf
        refine lv_iconst (v := 1) hx hb dX0_isLess_37 (by decide) ?_
        refine lv_goto (tgt := 42) hx hb dX0_isLess_38 (by decide) ?_
        have z0 := Option.some.inj hf
        exact x_zret hx hb hr hlk hK hG (by decide) z0 rfl dX0_isLess_42
set_option maxRecDepth 100000 in
set_option maxHeartbeats 4000000 in
theorem c_X0_rankOf (l : Launch) (D : va_G) (κ : Nat → ClassId) (a : Nat → Nat) (sz : Nat) (p1 : Int32) (uh : HS) (r' : Int32)  (hf : f_X0_rankOf p1 uh = some (r')) : Met l yX0_rankOf wsX0_rankOf ({ frames := 0, cells := 0, slots := 0, locals := 0 } : Room) (xPc D κ [.ref (a 0), .int p1] (WH κ a uh) sz) (xQi D κ r' (WH κ a uh) (va_A (WH κ a uh) sz)) 0 0 (va_A (WH κ a uh) sz) := by
  refine x_ofW (cc := cX0_rankOf) (maxL := 2) (ret := (some .int)) (Qf := fun A => xQi D κ r' (WH κ a uh) A) (by decide) rfl (Nat.le_of_ble_eq_true rfl) ?_
  intro p e s m below meth c hx hb hr hlk hml hown hts hK A hA H locs hG ls hl
  have hown : s.vm.findClass RX0 = some m.cls := hown
  have hl : lv_has ls 2 [(0, .ref (a 0)), (1, .int p1)] := hl
  have iX0 : ∀ w ∈ u_ws RX0 TX0 17, w ∈ wsX0_rankOf := fun _ h => List.mem_cons_of_mem _ (List.mem_append_right _ h)
  have k43 := hts (.fieldLink RX0 43 "SpineDesks$Hall" "rank" "[I") (List.mem_of_getElem? (i := 1) rfl)
  unfold f_X0_rankOf at hf
  refine lv_iload_n hx hb dX0_rankOf_0 rfl (lv_at hl 1 rfl) ?_
  refine lv_iconst (v := (-1)) hx hb dX0_rankOf_1 (by decide) ?_
  refine lv_icmp_ne (tgt := 9) hx hb dX0_rankOf_2 (by decide) (fun c1 => ?_) (fun c1 => ?_)
  · replace hf := if_f c1 hf
    refine lv_aload_n hx hb dX0_rankOf_9 rfl (lv_at hl 0 rfl) ?_
    refine x_get (C := RX0) (T := TX0) (N := 17) (ci := 0) hx hb hts iX0 hown hK hG 0 rfl rfl 13 (by decide) k43 (v := .ref (a 9)) rfl dX0_rankOf_10 ?_
    refine lv_iload_n hx hb dX0_rankOf_13 rfl (lv_at hl 1 rfl) ?_
    obtain ⟨v2, ev2, hin, hf⟩ := ck_e hf
    refine x_iald hx hb hK hG 9 rfl ev2 hin dX0_rankOf_14 ?_
    have z0 := Option.some.inj hf
    exact x_iret hx hb hr hlk hK hG z0 rfl dX0_rankOf_15
  · replace hf := if_t c1 hf
    refine lv_iconst (v := 0) hx hb dX0_rankOf_5 (by decide) ?_
    refine lv_goto (tgt := 15) hx hb dX0_rankOf_6 (by decide) ?_
    have z0 := Option.some.inj hf
    exact x_iret hx hb hr hlk hK hG z0 rfl dX0_rankOf_15
set_option maxRecDepth 100000 in
set_option maxHeartbeats 4000000 in
theorem c_X0_newItem (l : Launch) (D : va_G) (κ : Nat → ClassId) (a : Nat → Nat) (sz : Nat) (p1 : Int32) (p2 : Int32) (uh : HS) (r' : Int32) (uh' : HS) (hf : f_X0_newItem p1 p2 uh = some (r', uh')) : Met l yX0_newItem wsX0_newItem ({ frames := 0, cells := 0, slots := 0, locals := 0 } : Room) (xPc D κ [.ref (a 0), .int p1, .int p2] (WH κ a uh) sz) (xQi D κ r' (WH κ a uh') (va_A (WH κ a uh) sz)) 0 0 (va_A (WH κ a uh) sz) := by
  refine x_ofW (cc := cX0_newItem) (maxL := 4) (ret := (some .int)) (Qf := fun A => xQi D κ r' (WH κ a uh') A) (by decide) rfl (Nat.le_of_ble_eq_true rfl) ?_
  intro p e s m below meth c hx hb hr hlk hml hown hts hK A hA H locs hG ls hl
  have hown : s.vm.findClass RX0 = some m.cls := hown
  have hl : lv_has ls 4 [(0, .ref (a 0)), (1, .int p1), (2, .int p2)] := hl
  have iX0 : ∀ w ∈ u_ws RX0 TX0 17, w ∈ wsX0_newItem := fun _ h => List.mem_cons_of_mem _ (List.mem_append_right _ h)
  have k21 := hts (.fieldLink RX0 21 "SpineDesks$Hall" "keyOf" "[J") (List.mem_of_getElem? (i := 2) rfl)
  have k25 := hts (.fieldLink RX0 25 "SpineDesks$Hall" "tagOf" "[I") (List.mem_of_getElem? (i := 3) rfl)
  have k28 := hts (.fieldLink RX0 28 "SpineDesks$Hall" "deskOf" "[I") (List.mem_of_getElem? (i := 5) rfl)
  have k31 := hts (.fieldLink RX0 31 "SpineDesks$Hall" "crossed" "[I") (List.mem_of_getElem? (i := 4) rfl)
  have k55 := hts (.fieldLink RX0 55 "SpineDesks$Hall" "came" "I") (List.mem_of_getElem? (i := 1) rfl)
  unfold f_X0_newItem at hf
  refine lv_aload_n hx hb dX0_newItem_0 rfl (lv_at hl 0 rfl) ?_
  refine x_get (C := RX0) (T := TX0) (N := 17) (ci := 0) hx hb hts iX0 hown hK hG 0 rfl rfl 0 (by decide) k55 (v := .int (uh.came)) rfl dX0_newItem_1 ?_
  refine lv_topi (fun y1 ey1 => ?_)
  replace hf := bnd_at ey1 hf
  refine lv_istore_n (lv' := [(3, .int y1), (0, .ref (a 0)), (1, .int p1), (2, .int p2)]) hx hb dX0_newItem_4 rfl hl (by decide) rfl (fun ls hl => ?_)
  refine lv_aload_n hx hb dX0_newItem_5 rfl (lv_at hl 1 rfl) ?_
  refine lv_dup hx hb dX0_newItem_6 rfl ?_
  refine x_get (C := RX0) (T := TX0) (N := 17) (ci := 0) hx hb hts iX0 hown hK hG 0 rfl rfl 0 (by decide) k55 (v := .int (uh.came)) rfl dX0_newItem_7 ?_
  refine lv_iconst (v := 1) hx hb dX0_newItem_10 (by decide) ?_
  refine lv_iadd hx hb dX0_newItem_11 ?_
  obtain ⟨uh2, euh2, hf⟩ := bnd_e hf
  refine x_put (C := RX0) (T := TX0) (N := 17) (ci := 0) hx hb hts iX0 tyX0 tyX0_ok nmX0 hown hK hG 0 rfl rfl 0 (by decide) k55 rfl (ty := .int) (v := .int ((uh.came) + 1)) rfl rfl rfl (Nat.le_of_ble_eq_true rfl) (w1 := WH κ a uh2) (by rw [euh2]; rfl) dX0_newItem_12 (fun H locs hG => ?_)
  refine lv_aload_n hx hb dX0_newItem_15 rfl (lv_at hl 1 rfl) ?_
  refine x_get (C := RX0) (T := TX0) (N := 17) (ci := 0) hx hb hts iX0 hown hK hG 0 rfl rfl 6 (by decide) k21 (v := .ref (a 2)) rfl dX0_newItem_16 ?_
  refine lv_iload_n hx hb dX0_newItem_19 rfl (lv_at hl 0 rfl) ?_
  refine lv_iload_n hx hb dX0_newItem_20 rfl (lv_at hl 2 rfl) ?_
  refine lv_i2l hx hb dX0_newItem_21 rfl ?_
  obtain ⟨uh3, euh3, hin, hf⟩ := ck_e hf
  refine x_last hx hb hK hG 2 rfl (w1 := WH κ a uh3) (by rw [euh3]; rfl) hin dX0_newItem_22 (fun H locs hG => ?_)
  refine lv_aload_n hx hb dX0_newItem_23 rfl (lv_at hl 1 rfl) ?_
  refine x_get (C := RX0) (T := TX0) (N := 17) (ci := 0) hx hb hts iX0 hown hK hG 0 rfl rfl 7 (by decide) k25 (v := .ref (a 3)) rfl dX0_newItem_24 ?_
  refine lv_iload_n hx hb dX0_newItem_27 rfl (lv_at hl 0 rfl) ?_
  refine lv_iload_n hx hb dX0_newItem_28 rfl (lv_at hl 3 rfl) ?_
  obtain ⟨uh4, euh4, hin, hf⟩ := ck_e hf
  refine x_iast hx hb hK hG 3 rfl (w1 := WH κ a uh4) (by rw [euh4]; rfl) hin dX0_newItem_29 (fun H locs hG => ?_)
  refine lv_aload_n hx hb dX0_newItem_30 rfl (lv_at hl 1 rfl) ?_
  refine x_get (C := RX0) (T := TX0) (N := 17) (ci := 0) hx hb hts iX0 hown hK hG 0 rfl rfl 9 (by decide) k31 (v := .ref (a 5)) rfl dX0_newItem_31 ?_
  refine lv_iload_n hx hb dX0_newItem_34 rfl (lv_at hl 0 rfl) ?_
  refine lv_iconst (v := 0) hx hb dX0_newItem_35 (by decide) ?_
  obtain ⟨uh5, euh5, hin, hf⟩ := ck_e hf
  refine x_iast hx hb hK hG 5 rfl (w1 := WH κ a uh5) (by rw [euh5]; rfl) hin dX0_newItem_36 (fun H locs hG => ?_)
  refine lv_aload_n hx hb dX0_newItem_37 rfl (lv_at hl 1 rfl) ?_
  refine x_get (C := RX0) (T := TX0) (N := 17) (ci := 0) hx hb hts iX0 hown hK hG 0 rfl rfl 8 (by decide) k28 (v := .ref (a 4)) rfl dX0_newItem_38 ?_
  refine lv_iload_n hx hb dX0_newItem_41 rfl (lv_at hl 0 rfl) ?_
  refine lv_iconst (v := (-1)) hx hb dX0_newItem_42 (by decide) ?_
  obtain ⟨uh6, euh6, hin, hf⟩ := ck_e hf
  refine x_iast hx hb hK hG 4 rfl (w1 := WH κ a uh6) (by rw [euh6]; rfl) hin dX0_newItem_43 (fun H locs hG => ?_)
  refine lv_iload_n hx hb dX0_newItem_44 rfl (lv_at hl 0 rfl) ?_
  have hz := Option.some.inj hf
  have z0 := (Prod.mk.inj hz).1
  replace hz := (Prod.mk.inj hz).2
  have z1 := hz
  exact x_iret hx hb hr hlk hK hG z0 (by rw [z1]) dX0_newItem_45
set_option maxRecDepth 100000 in
set_option maxHeartbeats 4000000 in
theorem c_X0_settle (l : Launch) (D : va_G) (κ : Nat → ClassId) (a : Nat → Nat) (sz : Nat) (p1 : Int32) (uh : HS)  (uh' : HS) (hf : f_X0_settle p1 uh = some (uh')) : Met l yX0_settle wsX0_settle ({ frames := 0, cells := 0, slots := 0, locals := 0 } : Room) (xPc D κ [.ref (a 0), .int p1] (WH κ a uh) sz) (xQv D κ (WH κ a uh') (va_A (WH κ a uh) sz)) 0 0 (va_A (WH κ a uh) sz) := by
  refine x_ofW (cc := cX0_settle) (maxL := 5) (ret := none) (Qf := fun A => xQv D κ (WH κ a uh') A) (by decide) rfl (Nat.le_of_ble_eq_true rfl) ?_
  intro p e s m below meth c hx hb hr hlk hml hown hts hK A hA H locs hG ls hl
  have hown : s.vm.findClass RX0 = some m.cls := hown
  have hl : lv_has ls 5 [(0, .ref (a 0)), (1, .int p1)] := hl
  have iX0 : ∀ w ∈ u_ws RX0 TX0 17, w ∈ wsX0_settle := fun _ h => List.mem_cons_of_mem _ (List.mem_append_right _ h)
  have k34 := hts (.fieldLink RX0 34 "SpineDesks$Hall" "left" "[I") (List.mem_of_getElem? (i := 1) rfl)
  have k37 := hts (.fieldLink RX0 37 "SpineDesks$Hall" "right" "[I") (List.mem_of_getElem? (i := 3) rfl)
  have k43 := hts (.fieldLink RX0 43 "SpineDesks$Hall" "rank" "[I") (List.mem_of_getElem? (i := 2) rfl)
  have L101 : ∀ (s1 : Int32) (s2 : Int32) (s3 : Int32) (uh : HS), f_X0_settle_101 s1 s2 s3 uh = some (uh') → ∀ (H : Heap) (locs : List Loc) (ls : Array Slot), xG D A s.heap (WH κ a uh) H locs → lv_has ls 5 [] → W p l e ({ frames := 0, cells := 0, slots := 0, locals := 0 } : Room) s m (([.ref (a 0), .int p1] : List Value).toArray) below meth c H locs 0 0 (MQ below (xQv D κ (WH κ a uh') A) (([.ref (a 0), .int p1] : List Value).toArray) s 0 0 A) (F0 m 101 ls [.int s3, .int s2, .int s1, .ref (a 9)]) := by
    intro  s1 s2 s3 uh hf H locs ls hG hl
    unfold f_X0_settle_101 at hf
    refine lv_iadd hx hb dX0_settle_101 ?_
    obtain ⟨uh1, euh1, hin, hf⟩ := ck_e hf
    refine x_iast hx hb hK hG 9 rfl (w1 := WH κ a uh1) (by rw [euh1]; rfl) hin dX0_settle_102 (fun H locs hG => ?_)
    have z0 := Option.some.inj hf
    exact x_vret hx hb hr hlk hK hG (by rw [z0]) dX0_settle_103
  have L85 : ∀ (x1 : Int32) (x2 : Int32) (x3 : Int32) (uh : HS), f_X0_settle_85 x1 x2 x3 uh = some (uh') → ∀ (H : Heap) (locs : List Loc) (ls : Array Slot), xG D A s.heap (WH κ a uh) H locs → lv_has ls 5 [(0, .ref (a 0)), (1, .int x1), (2, .int x2), (3, .int x3)] → W p l e ({ frames := 0, cells := 0, slots := 0, locals := 0 } : Room) s m (([.ref (a 0), .int p1] : List Value).toArray) below meth c H locs 0 0 (MQ below (xQv D κ (WH κ a uh') A) (([.ref (a 0), .int p1] : List Value).toArray) s 0 0 A) (F0 m 85 ls []) := by
    intro  x1 x2 x3 uh hf H locs ls hG hl
    unfold f_X0_settle_85 at hf
    refine lv_aload_n hx hb dX0_settle_85 rfl (lv_at hl 0 rfl) ?_
    refine x_get (C := RX0) (T := TX0) (N := 17) (ci := 0) hx hb hts iX0 hown hK hG 0 rfl rfl 13 (by decide) k43 (v := .ref (a 9)) rfl dX0_settle_86 ?_
    refine lv_iload_n hx hb dX0_settle_89 rfl (lv_at hl 1 rfl) ?_
    refine lv_iconst (v := 1) hx hb dX0_settle_90 (by decide) ?_
    refine lv_iload_n hx hb dX0_settle_91 rfl (lv_at hl 2 rfl) ?_
    refine lv_iload_n hx hb dX0_settle_92 rfl (lv_at hl 3 rfl) ?_
    refine lv_icmp_ge (tgt := 100) hx hb dX0_settle_93 (by decide) (fun c2 => ?_) (fun c2 => ?_)
    · replace hf := if_t c2 hf
      refine lv_iload_n hx hb dX0_settle_100 rfl (lv_at hl 3 rfl) ?_
      exact L101   x1 1 x3 uh hf H locs ls hG (lv_sub hl [] rfl)
    · replace hf := if_f c2 hf
      refine lv_iload_n hx hb dX0_settle_96 rfl (lv_at hl 2 rfl) ?_
      refine lv_goto (tgt := 101) hx hb dX0_settle_97 (by decide) ?_
      exact L101   x1 1 x2 uh hf H locs ls hG (lv_sub hl [] rfl)
  have L51 : ∀ (x1 : Int32) (x2 : Int32) (s0 : Int32) (uh : HS), f_X0_settle_51 x1 x2 s0 uh = some (uh') → ∀ (H : Heap) (locs : List Loc) (ls : Array Slot), xG D A s.heap (WH κ a uh) H locs → lv_has ls 5 [(0, .ref (a 0)), (1, .int x1), (2, .int x2)] → W p l e ({ frames := 0, cells := 0, slots := 0, locals := 0 } : Room) s m (([.ref (a 0), .int p1] : List Value).toArray) below meth c H locs 0 0 (MQ below (xQv D κ (WH κ a uh') A) (([.ref (a 0), .int p1] : List Value).toArray) s 0 0 A) (F0 m 51 ls [.int s0]) := by
    intro  x1 x2 s0 uh hf H locs ls hG hl
    unfold f_X0_settle_51 at hf
    refine lv_istore_n (lv' := [(3, .int s0), (0, .ref (a 0)), (1, .int x1), (2, .int x2)]) hx hb dX0_settle_51 rfl hl (by decide) rfl (fun ls hl => ?_)
    refine lv_iload_n hx hb dX0_settle_52 rfl (lv_at hl 3 rfl) ?_
    refine lv_iload_n hx hb dX0_settle_53 rfl (lv_at hl 0 rfl) ?_
    refine lv_icmp_ge (tgt := 85) hx hb dX0_settle_54 (by decide) (fun c3 => ?_) (fun c3 => ?_)
    · replace hf := if_t c3 hf
      exact L85   x1 x2 s0 uh hf H locs ls hG (lv_sub hl [1, 2, 3, 0] rfl)
    · replace hf := if_f c3 hf
      refine lv_aload_n hx hb dX0_settle_57 rfl (lv_at hl 1 rfl) ?_
      refine x_get (C := RX0) (T := TX0) (N := 17) (ci := 0) hx hb hts iX0 hown hK hG 0 rfl rfl 10 (by decide) k34 (v := .ref (a 6)) rfl dX0_settle_58 ?_
      refine lv_iload_n hx hb dX0_settle_61 rfl (lv_at hl 2 rfl) ?_
      obtain ⟨v4, ev4, hin, hf⟩ := ck_e hf
      refine x_iald hx hb hK hG 6 rfl ev4 hin dX0_settle_62 ?_
      refine lv_istore (lv' := [(4, .int v4), (3, .int s0), (0, .ref (a 0)), (1, .int x1), (2, .int x2)]) hx hb dX0_settle_63 hl (by decide) rfl (fun ls hl => ?_)
      refine lv_aload_n hx hb dX0_settle_65 rfl (lv_at hl 2 rfl) ?_
      refine x_get (C := RX0) (T := TX0) (N := 17) (ci := 0) hx hb hts iX0 hown hK hG 0 rfl rfl 10 (by decide) k34 (v := .ref (a 6)) rfl dX0_settle_66 ?_
      refine lv_iload_n hx hb dX0_settle_69 rfl (lv_at hl 3 rfl) ?_
      refine lv_aload_n hx hb dX0_settle_70 rfl (lv_at hl 2 rfl) ?_
      refine x_get (C := RX0) (T := TX0) (N := 17) (ci := 0) hx hb hts iX0 hown hK hG 0 rfl rfl 11 (by decide) k37 (v := .ref (a 7)) rfl dX0_settle_71 ?_
      refine lv_iload_n hx hb dX0_settle_74 rfl (lv_at hl 3 rfl) ?_
      obtain ⟨v5, ev5, hin, hf⟩ := ck_e hf
      refine x_iald hx hb hK hG 7 rfl ev5 hin dX0_settle_75 ?_
      obtain ⟨uh6, euh6, hin, hf⟩ := ck_e hf
      refine x_iast hx hb hK hG 6 rfl (w1 := WH κ a uh6) (by rw [euh6]; rfl) hin dX0_settle_76 (fun H locs hG => ?_)
      refine lv_aload_n hx hb dX0_settle_77 rfl (lv_at hl 2 rfl) ?_
      refine x_get (C := RX0) (T := TX0) (N := 17) (ci := 0) hx hb hts iX0 hown hK hG 0 rfl rfl 11 (by decide) k37 (v := .ref (a 7)) rfl dX0_settle_78 ?_
      refine lv_iload_n hx hb dX0_settle_81 rfl (lv_at hl 3 rfl) ?_
      refine lv_iload hx hb dX0_settle_82 (lv_at hl 0 rfl) ?_
      obtain ⟨uh7, euh7, hin, hf⟩ := ck_e hf
      refine x_iast hx hb hK hG 7 rfl (w1 := WH κ a uh7) (by rw [euh7]; rfl) hin dX0_settle_84 (fun H locs hG => ?_)
      exact L85   x1 x2 s0 uh7 hf H locs ls hG (lv_sub hl [2, 3, 4, 1] rfl)
  have L25 : ∀ (x1 : Int32) (s0 : Int32) (uh : HS), f_X0_settle_25 x1 s0 uh = some (uh') → ∀ (H : Heap) (locs : List Loc) (ls : Array Slot), xG D A s.heap (WH κ a uh) H locs → lv_has ls 5 [(0, .ref (a 0)), (1, .int x1)] → W p l e ({ frames := 0, cells := 0, slots := 0, locals := 0 } : Room) s m (([.ref (a 0), .int p1] : List Value).toArray) below meth c H locs 0 0 (MQ below (xQv D κ (WH κ a uh') A) (([.ref (a 0), .int p1] : List Value).toArray) s 0 0 A) (F0 m 25 ls [.int s0]) := by
    intro  x1 s0 uh hf H locs ls hG hl
    unfold f_X0_settle_25 at hf
    refine lv_istore_n (lv' := [(2, .int s0), (0, .ref (a 0)), (1, .int x1)]) hx hb dX0_settle_25 rfl hl (by decide) rfl (fun ls hl => ?_)
    refine lv_aload_n hx hb dX0_settle_26 rfl (lv_at hl 1 rfl) ?_
    refine x_get (C := RX0) (T := TX0) (N := 17) (ci := 0) hx hb hts iX0 hown hK hG 0 rfl rfl 11 (by decide) k37 (v := .ref (a 7)) rfl dX0_settle_27 ?_
    refine lv_iload_n hx hb dX0_settle_30 rfl (lv_at hl 2 rfl) ?_
    obtain ⟨v8, ev8, hin, hf⟩ := ck_e hf
    refine x_iald hx hb hK hG 7 rfl ev8 hin dX0_settle_31 ?_
    refine lv_iconst (v := (-1)) hx hb dX0_settle_32 (by decide) ?_
    refine lv_icmp_ne (tgt := 40) hx hb dX0_settle_33 (by decide) (fun c9 => ?_) (fun c9 => ?_)
    · replace hf := if_f c9 hf
      refine lv_aload_n hx hb dX0_settle_40 rfl (lv_at hl 1 rfl) ?_
      refine x_get (C := RX0) (T := TX0) (N := 17) (ci := 0) hx hb hts iX0 hown hK hG 0 rfl rfl 13 (by decide) k43 (v := .ref (a 9)) rfl dX0_settle_41 ?_
      refine lv_aload_n hx hb dX0_settle_44 rfl (lv_at hl 1 rfl) ?_
      refine x_get (C := RX0) (T := TX0) (N := 17) (ci := 0) hx hb hts iX0 hown hK hG 0 rfl rfl 11 (by decide) k37 (v := .ref (a 7)) rfl dX0_settle_45 ?_
      refine lv_iload_n hx hb dX0_settle_48 rfl (lv_at hl 2 rfl) ?_
      obtain ⟨v10, ev10, hin, hf⟩ := ck_e hf
      refine x_iald hx hb hK hG 7 rfl ev10 hin dX0_settle_49 ?_
      obtain ⟨v11, ev11, hin, hf⟩ := ck_e hf
      refine x_iald hx hb hK hG 9 rfl ev11 hin dX0_settle_50 ?_
      exact L51   x1 s0 v11 uh hf H locs ls hG (lv_sub hl [1, 2, 0] rfl)
    · replace hf := if_t c9 hf
      refine lv_iconst (v := 0) hx hb dX0_settle_36 (by decide) ?_
      refine lv_goto (tgt := 51) hx hb dX0_settle_37 (by decide) ?_
      exact L51   x1 s0 0 uh hf H locs ls hG (lv_sub hl [1, 2, 0] rfl)
  unfold f_X0_settle at hf
  refine lv_aload_n hx hb dX0_settle_0 rfl (lv_at hl 0 rfl) ?_
  refine x_get (C := RX0) (T := TX0) (N := 17) (ci := 0) hx hb hts iX0 hown hK hG 0 rfl rfl 10 (by decide) k34 (v := .ref (a 6)) rfl dX0_settle_1 ?_
  refine lv_iload_n hx hb dX0_settle_4 rfl (lv_at hl 1 rfl) ?_
  obtain ⟨v12, ev12, hin, hf⟩ := ck_e hf
  refine x_iald hx hb hK hG 6 rfl ev12 hin dX0_settle_5 ?_
  refine lv_iconst (v := (-1)) hx hb dX0_settle_6 (by decide) ?_
  refine lv_icmp_ne (tgt := 14) hx hb dX0_settle_7 (by decide) (fun c13 => ?_) (fun c13 => ?_)
  · replace hf := if_f c13 hf
    refine lv_aload_n hx hb dX0_settle_14 rfl (lv_at hl 0 rfl) ?_
    refine x_get (C := RX0) (T := TX0) (N := 17) (ci := 0) hx hb hts iX0 hown hK hG 0 rfl rfl 13 (by decide) k43 (v := .ref (a 9)) rfl dX0_settle_15 ?_
    refine lv_aload_n hx hb dX0_settle_18 rfl (lv_at hl 0 rfl) ?_
    refine x_get (C := RX0) (T := TX0) (N := 17) (ci := 0) hx hb hts iX0 hown hK hG 0 rfl rfl 10 (by decide) k34 (v := .ref (a 6)) rfl dX0_settle_19 ?_
    refine lv_iload_n hx hb dX0_settle_22 rfl (lv_at hl 1 rfl) ?_
    obtain ⟨v14, ev14, hin, hf⟩ := ck_e hf
    refine x_iald hx hb hK hG 6 rfl ev14 hin dX0_settle_23 ?_
    obtain ⟨v15, ev15, hin, hf⟩ := ck_e hf
    refine x_iald hx hb hK hG 9 rfl ev15 hin dX0_settle_24 ?_
    exact L25   p1 v15 uh hf H locs ls hG (lv_sub hl [0, 1] rfl)
  · replace hf := if_t c13 hf
    refine lv_iconst (v := 0) hx hb dX0_settle_10 (by decide) ?_
    refine lv_goto (tgt := 25) hx hb dX0_settle_11 (by decide) ?_
    exact L25   p1 0 uh hf H locs ls hG (lv_sub hl [0, 1] rfl)
set_option maxRecDepth 100000 in
set_option maxHeartbeats 4000000 in
theorem c_X0_join (l : Launch) (D : va_G) (κ : Nat → ClassId) (a : Nat → Nat) (sz : Nat) (p1 : Int32) (p2 : Int32) (uh : HS) (r' : Int32) (uh' : HS) (hf : f_X0_join p1 p2 uh = some (r', uh')) : Met l yX0_join wsX0_join ({ frames := 1, cells := 0, slots := 0, locals := 24 } : Room) (xPc D κ [.ref (a 0), .int p1, .int p2] (WH κ a uh) sz) (xQi D κ r' (WH κ a uh') (va_A (WH κ a uh) sz)) 0 0 (va_A (WH κ a uh) sz) := by
  refine x_ofW (cc := cX0_join) (maxL := 9) (ret := (some .int)) (Qf := fun A => xQi D κ r' (WH κ a uh') A) (by decide) rfl (Nat.le_of_ble_eq_true rfl) ?_
  intro p e s m below meth c hx hb hr hlk hml hown hts hK A hA H locs hG ls hl
  have hown : s.vm.findClass RX0 = some m.cls := hown
  have hl : lv_has ls 9 [(0, .ref (a 0)), (1, .int p1), (2, .int p2)] := hl
  have iX0 : ∀ w ∈ u_ws RX0 TX0 17, w ∈ wsX0_join := fun _ h => List.mem_cons_of_mem _ (List.mem_append_right _ h)
  have k37 := hts (.fieldLink RX0 37 "SpineDesks$Hall" "right" "[I") (List.mem_of_getElem? (i := 2) rfl)
  have k40 := hts (.fieldLink RX0 40 "SpineDesks$Hall" "up" "[I") (List.mem_of_getElem? (i := 1) rfl)
  have k78 := hts (.fieldLink RX0 78 "SpineDesks$Hall" "steps" "I") (List.mem_of_getElem? (i := 3) rfl)
  have L167 : ∀ (x6 : Int32) (uh : HS), f_X0_join_167 x6 uh = some (r', uh') → ∀ (H : Heap) (locs : List Loc) (ls : Array Slot), xG D A s.heap (WH κ a uh) H locs → lv_has ls 9 [(0, .ref (a 0)), (6, .int x6)] → W p l e ({ frames := 1, cells := 0, slots := 0, locals := 24 } : Room) s m (([.ref (a 0), .int p1, .int p2] : List Value).toArray) below meth c H locs 0 0 (MQ below (xQi D κ r' (WH κ a uh') A) (([.ref (a 0), .int p1, .int p2] : List Value).toArray) s 0 0 A) (F0 m 167 ls []) := by
    intro  x6 uh hf H locs ls hG hl
    unfold f_X0_join_167 at hf
    refine lv_iload hx hb dX0_join_167 (lv_at hl 1 rfl) ?_
    refine lv_iconst (v := (-1)) hx hb dX0_join_169 (by decide) ?_
    refine lv_icmp_eq (tgt := 181) hx hb dX0_join_170 (by decide) (fun c1 => ?_) (fun c1 => ?_)
    · replace hf := if_t c1 hf
      refine lv_iload hx hb dX0_join_181 (lv_at hl 1 rfl) ?_
      have hz := Option.some.inj hf
      have z0 := (Prod.mk.inj hz).1
      replace hz := (Prod.mk.inj hz).2
      have z1 := hz
      exact x_iret hx hb hr hlk hK hG z0 (by rw [z1]) dX0_join_183
    · replace hf := if_f c1 hf
      refine lv_aload_n hx hb dX0_join_173 rfl (lv_at hl 0 rfl) ?_
      refine x_get (C := RX0) (T := TX0) (N := 17) (ci := 0) hx hb hts iX0 hown hK hG 0 rfl rfl 12 (by decide) k40 (v := .ref (a 8)) rfl dX0_join_174 ?_
      refine lv_iload hx hb dX0_join_177 (lv_at hl 1 rfl) ?_
      refine lv_iconst (v := (-1)) hx hb dX0_join_179 (by decide) ?_
      obtain ⟨uh2, euh2, hin, hf⟩ := ck_e hf
      refine x_iast hx hb hK hG 8 rfl (w1 := WH κ a uh2) (by rw [euh2]; rfl) hin dX0_join_180 (fun H locs hG => ?_)
      refine lv_iload hx hb dX0_join_181 (lv_at hl 1 rfl) ?_
      have hz := Option.some.inj hf
      have z0 := (Prod.mk.inj hz).1
      replace hz := (Prod.mk.inj hz).2
      have z1 := hz
      exact x_iret hx hb hr hlk hK hG z0 (by rw [z1]) dX0_join_183
  have L147 : ∀ (rec100 : Int32 → Int32 → Int32 → HS → Option (Int32 × HS)) (hr100 : ∀ (y5 : Int32) (y6 : Int32) (y7 : Int32) (uh : HS), rec100 y5 y6 y7 uh = some (r', uh') → ∀ (H : Heap) (locs : List Loc) (ls : Array Slot), xG D A s.heap (WH κ a uh) H locs → lv_has ls 9 [(0, .ref (a 0)), (5, .int y5), (6, .int y6), (7, .int y7)] → W p l e ({ frames := 1, cells := 0, slots := 0, locals := 24 } : Room) s m (([.ref (a 0), .int p1, .int p2] : List Value).toArray) below meth c H locs 0 0 (MQ below (xQi D κ r' (WH κ a uh') A) (([.ref (a 0), .int p1, .int p2] : List Value).toArray) s 0 0 A) (F0 m 100 ls [])), ∀ (x5 : Int32) (x7 : Int32) (x8 : Int32) (uh : HS), f_X0_join_147 rec100 x5 x7 x8 uh = some (r', uh') → ∀ (H : Heap) (locs : List Loc) (ls : Array Slot), xG D A s.heap (WH κ a uh) H locs → lv_has ls 9 [(0, .ref (a 0)), (5, .int x5), (7, .int x7), (8, .int x8)] → W p l e ({ frames := 1, cells := 0, slots := 0, locals := 24 } : Room) s m (([.ref (a 0), .int p1, .int p2] : List Value).toArray) below meth c H locs 0 0 (MQ below (xQi D κ r' (WH κ a uh') A) (([.ref (a 0), .int p1, .int p2] : List Value).toArray) s 0 0 A) (F0 m 147 ls []) := by
    intro rec100 hr100 x5 x7 x8 uh hf H locs ls hG hl
    unfold f_X0_join_147 at hf
    refine lv_aload_n hx hb dX0_join_147 rfl (lv_at hl 0 rfl) ?_
    refine lv_iload hx hb dX0_join_148 (lv_at hl 1 rfl) ?_
    obtain ⟨uh3, q4, hf⟩ := cl1_e hf
    refine x_callVv (pre := ([] : va_W)) (wc := WH κ a uh) (wc1 := WH κ a uh3) (post := ([] : va_W)) (As := [.int x5]) (rest := []) (w1 := WH κ a uh3) ⟨hx, hb, hml, hown, hts⟩ hK hG hA (by simp only [List.append_assoc, List.nil_append, List.append_nil]) (by simp only [List.append_assoc, List.nil_append, List.append_nil]) (c_X0_settle l D κ a H.size x5 uh uh3 q4) (cwV 1 hts gX0_join_X0_settle rfl rfl rfl (by decide +kernel) ⟨Nat.le_of_ble_eq_true rfl, Nat.le_of_ble_eq_true rfl⟩) 0 0 rfl rfl rfl rfl hl.1 rfl (Nat.le_of_ble_eq_true rfl) dX0_join_150 ⟨Nat.zero_le _, Nat.zero_le _⟩ (fun H locs hG => ?_)
    refine lv_iload hx hb dX0_join_153 (lv_at hl 1 rfl) ?_
    refine lv_istore (lv' := [(6, .int x5), (0, .ref (a 0)), (5, .int x5), (7, .int x7), (8, .int x8)]) hx hb dX0_join_155 hl (by decide) rfl (fun ls hl => ?_)
    refine lv_iload hx hb dX0_join_157 (lv_at hl 4 rfl) ?_
    refine lv_istore (lv' := [(5, .int x8), (6, .int x5), (0, .ref (a 0)), (7, .int x7), (8, .int x8)]) hx hb dX0_join_159 hl (by decide) rfl (fun ls hl => ?_)
    obtain ⟨y5, ey5, hf⟩ := bnd_e hf
    refine lv_iinc (v := y5) (lv' := [(7, .int y5), (5, .int x8), (6, .int x5), (0, .ref (a 0)), (8, .int x8)]) hx hb dX0_join_161 hl (k := 3) rfl (by rw [ey5]; rfl) (by decide) rfl (fun ls hl => ?_)
    refine lv_goto (tgt := 100) hx hb dX0_join_164 (by decide) ?_
    exact hr100 x8 x5 y5 uh3 hf H locs ls hG (lv_sub hl [3, 1, 2, 0] rfl)
  have L100 : ∀ (n : Nat), ∀ (x5 : Int32) (x6 : Int32) (x7 : Int32) (uh : HS), f_X0_join_100 n x5 x6 x7 uh = some (r', uh') → ∀ (H : Heap) (locs : List Loc) (ls : Array Slot), xG D A s.heap (WH κ a uh) H locs → lv_has ls 9 [(0, .ref (a 0)), (5, .int x5), (6, .int x6), (7, .int x7)] → W p l e ({ frames := 1, cells := 0, slots := 0, locals := 24 } : Room) s m (([.ref (a 0), .int p1, .int p2] : List Value).toArray) below meth c H locs 0 0 (MQ below (xQi D κ r' (WH κ a uh') A) (([.ref (a 0), .int p1, .int p2] : List Value).toArray) s 0 0 A) (F0 m 100 ls []) := by
    intro  n
    induction n with
    | zero => intro x5 x6 x7 uh hf; cases hf
    | succ n ih =>
      intro x5 x6 x7 uh hf H locs ls hG hl
      replace hf : f_X0_join_B100 (f_X0_join_100 n) x5 x6 x7 uh = some (r', uh') := hf
      unfold f_X0_join_B100 at hf
      refine lv_iload hx hb dX0_join_100 (lv_at hl 3 rfl) ?_
      refine lv_sipush (v := 300) hx hb dX0_join_102 (by decide) ?_
      refine lv_icmp_ge (tgt := 167) hx hb dX0_join_105 (by decide) (fun c6 => ?_) (fun c6 => ?_)
      · replace hf := if_t c6 hf
        exact L167   x6 uh hf H locs ls hG (lv_sub hl [0, 2] rfl)
      · replace hf := if_f c6 hf
        refine lv_iload hx hb dX0_join_108 (lv_at hl 1 rfl) ?_
        refine lv_iconst (v := (-1)) hx hb dX0_join_110 (by decide) ?_
        refine lv_icmp_eq (tgt := 167) hx hb dX0_join_111 (by decide) (fun c7 => ?_) (fun c7 => ?_)
        · replace hf := if_t c7 hf
          exact L167   x6 uh hf H locs ls hG (lv_sub hl [0, 2] rfl)
        · replace hf := if_f c7 hf
          refine lv_aload_n hx hb dX0_join_114 rfl (lv_at hl 0 rfl) ?_
          refine x_get (C := RX0) (T := TX0) (N := 17) (ci := 0) hx hb hts iX0 hown hK hG 0 rfl rfl 12 (by decide) k40 (v := .ref (a 8)) rfl dX0_join_115 ?_
          refine lv_iload hx hb dX0_join_118 (lv_at hl 1 rfl) ?_
          obtain ⟨v8, ev8, hin, hf⟩ := ck_e hf
          refine x_iald hx hb hK hG 8 rfl ev8 hin dX0_join_120 ?_
          refine lv_istore (lv' := [(8, .int v8), (0, .ref (a 0)), (5, .int x5), (6, .int x6), (7, .int x7)]) hx hb dX0_join_121 hl (by decide) rfl (fun ls hl => ?_)
          refine lv_aload_n hx hb dX0_join_123 rfl (lv_at hl 1 rfl) ?_
          refine x_get (C := RX0) (T := TX0) (N := 17) (ci := 0) hx hb hts iX0 hown hK hG 0 rfl rfl 11 (by decide) k37 (v := .ref (a 7)) rfl dX0_join_124 ?_
          refine lv_iload hx hb dX0_join_127 (lv_at hl 2 rfl) ?_
          refine lv_iload hx hb dX0_join_129 (lv_at hl 3 rfl) ?_
          obtain ⟨uh9, euh9, hin, hf⟩ := ck_e hf
          refine x_iast hx hb hK hG 7 rfl (w1 := WH κ a uh9) (by rw [euh9]; rfl) hin dX0_join_131 (fun H locs hG => ?_)
          refine lv_iload hx hb dX0_join_132 (lv_at hl 3 rfl) ?_
          refine lv_iconst (v := (-1)) hx hb dX0_join_134 (by decide) ?_
          refine lv_icmp_eq (tgt := 147) hx hb dX0_join_135 (by decide) (fun c10 => ?_) (fun c10 => ?_)
          · replace hf := if_t c10 hf
            exact L147 (f_X0_join_100 n) ih  x5 x7 v8 uh9 hf H locs ls hG (lv_sub hl [1, 2, 4, 0] rfl)
          · replace hf := if_f c10 hf
            refine lv_aload_n hx hb dX0_join_138 rfl (lv_at hl 1 rfl) ?_
            refine x_get (C := RX0) (T := TX0) (N := 17) (ci := 0) hx hb hts iX0 hown hK hG 0 rfl rfl 12 (by decide) k40 (v := .ref (a 8)) rfl dX0_join_139 ?_
            refine lv_iload hx hb dX0_join_142 (lv_at hl 3 rfl) ?_
            refine lv_iload hx hb dX0_join_144 (lv_at hl 2 rfl) ?_
            obtain ⟨uh11, euh11, hin, hf⟩ := ck_e hf
            refine x_iast hx hb hK hG 8 rfl (w1 := WH κ a uh11) (by rw [euh11]; rfl) hin dX0_join_146 (fun H locs hG => ?_)
            exact L147 (f_X0_join_100 n) ih  x5 x7 v8 uh11 hf H locs ls hG (lv_sub hl [1, 2, 4, 0] rfl)
  have L95 : ∀ (x5 : Int32) (s0 : Int32) (uh : HS), f_X0_join_95 x5 s0 uh = some (r', uh') → ∀ (H : Heap) (locs : List Loc) (ls : Array Slot), xG D A s.heap (WH κ a uh) H locs → lv_has ls 9 [(0, .ref (a 0)), (5, .int x5)] → W p l e ({ frames := 1, cells := 0, slots := 0, locals := 24 } : Room) s m (([.ref (a 0), .int p1, .int p2] : List Value).toArray) below meth c H locs 0 0 (MQ below (xQi D κ r' (WH κ a uh') A) (([.ref (a 0), .int p1, .int p2] : List Value).toArray) s 0 0 A) (F0 m 95 ls [.int s0]) := by
    intro  x5 s0 uh hf H locs ls hG hl
    unfold f_X0_join_95 at hf
    refine lv_istore (lv' := [(6, .int s0), (0, .ref (a 0)), (5, .int x5)]) hx hb dX0_join_95 hl (by decide) rfl (fun ls hl => ?_)
    refine lv_iconst (v := 0) hx hb dX0_join_97 (by decide) ?_
    refine lv_istore (lv' := [(7, .int 0), (6, .int s0), (0, .ref (a 0)), (5, .int x5)]) hx hb dX0_join_98 hl (by decide) rfl (fun ls hl => ?_)
    exact L100  FU x5 s0 0 uh hf H locs ls hG (lv_sub hl [2, 3, 1, 0] rfl)
  have L84 : ∀ (x3 : Int32) (x4 : Int32) (x5 : Int32) (uh : HS), f_X0_join_84 x3 x4 x5 uh = some (r', uh') → ∀ (H : Heap) (locs : List Loc) (ls : Array Slot), xG D A s.heap (WH κ a uh) H locs → lv_has ls 9 [(0, .ref (a 0)), (3, .int x3), (4, .int x4), (5, .int x5)] → W p l e ({ frames := 1, cells := 0, slots := 0, locals := 24 } : Room) s m (([.ref (a 0), .int p1, .int p2] : List Value).toArray) below meth c H locs 0 0 (MQ below (xQi D κ r' (WH κ a uh') A) (([.ref (a 0), .int p1, .int p2] : List Value).toArray) s 0 0 A) (F0 m 84 ls []) := by
    intro  x3 x4 x5 uh hf H locs ls hG hl
    unfold f_X0_join_84 at hf
    refine lv_iload_n hx hb dX0_join_84 rfl (lv_at hl 1 rfl) ?_
    refine lv_iconst (v := (-1)) hx hb dX0_join_85 (by decide) ?_
    refine lv_icmp_ne (tgt := 94) hx hb dX0_join_86 (by decide) (fun c12 => ?_) (fun c12 => ?_)
    · replace hf := if_f c12 hf
      refine lv_iload_n hx hb dX0_join_94 rfl (lv_at hl 1 rfl) ?_
      exact L95   x5 x3 uh hf H locs ls hG (lv_sub hl [0, 3] rfl)
    · replace hf := if_t c12 hf
      refine lv_iload hx hb dX0_join_89 (lv_at hl 2 rfl) ?_
      refine lv_goto (tgt := 95) hx hb dX0_join_91 (by decide) ?_
      exact L95   x5 x4 uh hf H locs ls hG (lv_sub hl [0, 3] rfl)
  have L50 : ∀ (rec11 : Int32 → Int32 → Int32 → Int32 → HS → Option (Int32 × HS)) (hr11 : ∀ (y3 : Int32) (y4 : Int32) (y5 : Int32) (y6 : Int32) (uh : HS), rec11 y3 y4 y5 y6 uh = some (r', uh') → ∀ (H : Heap) (locs : List Loc) (ls : Array Slot), xG D A s.heap (WH κ a uh) H locs → lv_has ls 9 [(0, .ref (a 0)), (3, .int y3), (4, .int y4), (5, .int y5), (6, .int y6)] → W p l e ({ frames := 1, cells := 0, slots := 0, locals := 24 } : Room) s m (([.ref (a 0), .int p1, .int p2] : List Value).toArray) below meth c H locs 0 0 (MQ below (xQi D κ r' (WH κ a uh') A) (([.ref (a 0), .int p1, .int p2] : List Value).toArray) s 0 0 A) (F0 m 11 ls [])), ∀ (x3 : Int32) (x4 : Int32) (x5 : Int32) (x6 : Int32) (uh : HS), f_X0_join_50 rec11 x3 x4 x5 x6 uh = some (r', uh') → ∀ (H : Heap) (locs : List Loc) (ls : Array Slot), xG D A s.heap (WH κ a uh) H locs → lv_has ls 9 [(0, .ref (a 0)), (3, .int x3), (4, .int x4), (5, .int x5), (6, .int x6)] → W p l e ({ frames := 1, cells := 0, slots := 0, locals := 24 } : Room) s m (([.ref (a 0), .int p1, .int p2] : List Value).toArray) below meth c H locs 0 0 (MQ below (xQi D κ r' (WH κ a uh') A) (([.ref (a 0), .int p1, .int p2] : List Value).toArray) s 0 0 A) (F0 m 50 ls []) := by
    intro rec11 hr11 x3 x4 x5 x6 uh hf H locs ls hG hl
    unfold f_X0_join_50 at hf
    refine lv_aload_n hx hb dX0_join_50 rfl (lv_at hl 0 rfl) ?_
    refine x_get (C := RX0) (T := TX0) (N := 17) (ci := 0) hx hb hts iX0 hown hK hG 0 rfl rfl 12 (by decide) k40 (v := .ref (a 8)) rfl dX0_join_51 ?_
    refine lv_iload_n hx hb dX0_join_54 rfl (lv_at hl 1 rfl) ?_
    refine lv_iload hx hb dX0_join_55 (lv_at hl 3 rfl) ?_
    obtain ⟨uh13, euh13, hin, hf⟩ := ck_e hf
    refine x_iast hx hb hK hG 8 rfl (w1 := WH κ a uh13) (by rw [euh13]; rfl) hin dX0_join_57 (fun H locs hG => ?_)
    refine lv_iload_n hx hb dX0_join_58 rfl (lv_at hl 1 rfl) ?_
    refine lv_istore (lv' := [(5, .int x3), (0, .ref (a 0)), (3, .int x3), (4, .int x4), (6, .int x6)]) hx hb dX0_join_59 hl (by decide) rfl (fun ls hl => ?_)
    refine lv_aload_n hx hb dX0_join_61 rfl (lv_at hl 1 rfl) ?_
    refine x_get (C := RX0) (T := TX0) (N := 17) (ci := 0) hx hb hts iX0 hown hK hG 0 rfl rfl 11 (by decide) k37 (v := .ref (a 7)) rfl dX0_join_62 ?_
    refine lv_iload_n hx hb dX0_join_65 rfl (lv_at hl 2 rfl) ?_
    obtain ⟨v14, ev14, hin, hf⟩ := ck_e hf
    refine x_iald hx hb hK hG 7 rfl ev14 hin dX0_join_66 ?_
    refine lv_istore_n (lv' := [(3, .int v14), (5, .int x3), (0, .ref (a 0)), (4, .int x4), (6, .int x6)]) hx hb dX0_join_67 rfl hl (by decide) rfl (fun ls hl => ?_)
    refine lv_aload_n hx hb dX0_join_68 rfl (lv_at hl 2 rfl) ?_
    refine lv_dup hx hb dX0_join_69 rfl ?_
    refine x_get (C := RX0) (T := TX0) (N := 17) (ci := 0) hx hb hts iX0 hown hK hG 0 rfl rfl 4 (by decide) k78 (v := .int (uh13.steps)) rfl dX0_join_70 ?_
    refine lv_iconst (v := 1) hx hb dX0_join_73 (by decide) ?_
    refine lv_iadd hx hb dX0_join_74 ?_
    obtain ⟨uh15, euh15, hf⟩ := bnd_e hf
    refine x_put (C := RX0) (T := TX0) (N := 17) (ci := 0) hx hb hts iX0 tyX0 tyX0_ok nmX0 hown hK hG 0 rfl rfl 4 (by decide) k78 rfl (ty := .int) (v := .int ((uh13.steps) + 1)) rfl rfl rfl (Nat.le_of_ble_eq_true rfl) (w1 := WH κ a uh15) (by rw [euh15]; rfl) dX0_join_75 (fun H locs hG => ?_)
    obtain ⟨y16, ey16, hf⟩ := bnd_e hf
    refine lv_iinc (v := y16) (lv' := [(6, .int y16), (3, .int v14), (5, .int x3), (0, .ref (a 0)), (4, .int x4)]) hx hb dX0_join_78 hl (k := 4) rfl (by rw [ey16]; rfl) (by decide) rfl (fun ls hl => ?_)
    refine lv_goto (tgt := 11) hx hb dX0_join_81 (by decide) ?_
    exact hr11 v14 x4 x3 y16 uh15 hf H locs ls hG (lv_sub hl [3, 1, 4, 2, 0] rfl)
  have L11 : ∀ (n : Nat), ∀ (x3 : Int32) (x4 : Int32) (x5 : Int32) (x6 : Int32) (uh : HS), f_X0_join_11 n x3 x4 x5 x6 uh = some (r', uh') → ∀ (H : Heap) (locs : List Loc) (ls : Array Slot), xG D A s.heap (WH κ a uh) H locs → lv_has ls 9 [(0, .ref (a 0)), (3, .int x3), (4, .int x4), (5, .int x5), (6, .int x6)] → W p l e ({ frames := 1, cells := 0, slots := 0, locals := 24 } : Room) s m (([.ref (a 0), .int p1, .int p2] : List Value).toArray) below meth c H locs 0 0 (MQ below (xQi D κ r' (WH κ a uh') A) (([.ref (a 0), .int p1, .int p2] : List Value).toArray) s 0 0 A) (F0 m 11 ls []) := by
    intro  n
    induction n with
    | zero => intro x3 x4 x5 x6 uh hf; cases hf
    | succ n ih =>
      intro x3 x4 x5 x6 uh hf H locs ls hG hl
      replace hf : f_X0_join_B11 (f_X0_join_11 n) x3 x4 x5 x6 uh = some (r', uh') := hf
      unfold f_X0_join_B11 at hf
      refine lv_iload hx hb dX0_join_11 (lv_at hl 4 rfl) ?_
      refine lv_sipush (v := 300) hx hb dX0_join_13 (by decide) ?_
      refine lv_icmp_ge (tgt := 84) hx hb dX0_join_16 (by decide) (fun c17 => ?_) (fun c17 => ?_)
      · replace hf := if_t c17 hf
        exact L84   x3 x4 x5 uh hf H locs ls hG (lv_sub hl [0, 1, 2, 3] rfl)
      · replace hf := if_f c17 hf
        refine lv_iload_n hx hb dX0_join_19 rfl (lv_at hl 1 rfl) ?_
        refine lv_iconst (v := (-1)) hx hb dX0_join_20 (by decide) ?_
        refine lv_icmp_eq (tgt := 84) hx hb dX0_join_21 (by decide) (fun c18 => ?_) (fun c18 => ?_)
        · replace hf := if_t c18 hf
          exact L84   x3 x4 x5 uh hf H locs ls hG (lv_sub hl [0, 1, 2, 3] rfl)
        · replace hf := if_f c18 hf
          refine lv_iload hx hb dX0_join_24 (lv_at hl 2 rfl) ?_
          refine lv_iconst (v := (-1)) hx hb dX0_join_26 (by decide) ?_
          refine lv_icmp_eq (tgt := 84) hx hb dX0_join_27 (by decide) (fun c19 => ?_) (fun c19 => ?_)
          · replace hf := if_t c19 hf
            exact L84   x3 x4 x5 uh hf H locs ls hG (lv_sub hl [0, 1, 2, 3] rfl)
          · replace hf := if_f c19 hf
            refine lv_aload_n hx hb dX0_join_30 rfl (lv_at hl 0 rfl) ?_
            refine lv_iload hx hb dX0_join_31 (lv_at hl 2 rfl) ?_
            refine lv_iload_n hx hb dX0_join_33 rfl (lv_at hl 1 rfl) ?_
            obtain ⟨r20, q21, hf⟩ := cl1_e hf
            refine x_callVi (pre := ([] : va_W)) (wc := WH κ a uh) (wc1 := WH κ a uh) (post := ([] : va_W)) (As := [.int x4, .int x3]) (rest := []) (w1 := WH κ a uh) ⟨hx, hb, hml, hown, hts⟩ hK hG hA (by simp only [List.append_assoc, List.nil_append, List.append_nil]) (by simp only [List.append_assoc, List.nil_append, List.append_nil]) (c_X0_isLess l D κ a H.size x4 x3 uh r20 q21) (cwV 2 hts gX0_join_X0_isLess rfl rfl rfl (by decide +kernel) ⟨Nat.le_of_ble_eq_true rfl, Nat.le_of_ble_eq_true rfl⟩) 0 0 rfl rfl rfl rfl hl.1 rfl (Nat.le_of_ble_eq_true rfl) dX0_join_34 ⟨Nat.zero_le _, Nat.zero_le _⟩ (fun H locs hG => ?_)
            refine lv_if_eq (tgt := 50) hx hb dX0_join_37 (by decide) (fun c22 => ?_) (fun c22 => ?_)
            · replace hf := if_t c22 hf
              exact L50 (f_X0_join_11 n) ih  x3 x4 x5 x6 uh hf H locs ls hG (lv_sub hl [0, 1, 2, 3, 4] rfl)
            · replace hf := if_f c22 hf
              refine lv_iload_n hx hb dX0_join_40 rfl (lv_at hl 1 rfl) ?_
              refine lv_istore (lv' := [(7, .int x3), (0, .ref (a 0)), (3, .int x3), (4, .int x4), (5, .int x5), (6, .int x6)]) hx hb dX0_join_41 hl (by decide) rfl (fun ls hl => ?_)
              refine lv_iload hx hb dX0_join_43 (lv_at hl 3 rfl) ?_
              refine lv_istore_n (lv' := [(3, .int x4), (7, .int x3), (0, .ref (a 0)), (4, .int x4), (5, .int x5), (6, .int x6)]) hx hb dX0_join_45 rfl hl (by decide) rfl (fun ls hl => ?_)
              refine lv_iload hx hb dX0_join_46 (lv_at hl 1 rfl) ?_
              refine lv_istore (lv' := [(4, .int x3), (3, .int x4), (7, .int x3), (0, .ref (a 0)), (5, .int x5), (6, .int x6)]) hx hb dX0_join_48 hl (by decide) rfl (fun ls hl => ?_)
              exact L50 (f_X0_join_11 n) ih  x4 x3 x5 x6 uh hf H locs ls hG (lv_sub hl [3, 1, 0, 4, 5] rfl)
  unfold f_X0_join at hf
  refine lv_iload_n hx hb dX0_join_0 rfl (lv_at hl 1 rfl) ?_
  refine lv_istore_n (lv' := [(3, .int p1), (0, .ref (a 0)), (1, .int p1), (2, .int p2)]) hx hb dX0_join_1 rfl hl (by decide) rfl (fun ls hl => ?_)
  refine lv_iload_n hx hb dX0_join_2 rfl (lv_at hl 3 rfl) ?_
  refine lv_istore (lv' := [(4, .int p2), (3, .int p1), (0, .ref (a 0)), (1, .int p1), (2, .int p2)]) hx hb dX0_join_3 hl (by decide) rfl (fun ls hl => ?_)
  refine lv_iconst (v := (-1)) hx hb dX0_join_5 (by decide) ?_
  refine lv_istore (lv' := [(5, .int ((-1))), (4, .int p2), (3, .int p1), (0, .ref (a 0)), (1, .int p1), (2, .int p2)]) hx hb dX0_join_6 hl (by decide) rfl (fun ls hl => ?_)
  refine lv_iconst (v := 0) hx hb dX0_join_8 (by decide) ?_
  refine lv_istore (lv' := [(6, .int 0), (5, .int ((-1))), (4, .int p2), (3, .int p1), (0, .ref (a 0)), (1, .int p1), (2, .int p2)]) hx hb dX0_join_9 hl (by decide) rfl (fun ls hl => ?_)
  exact L11  FU p1 p2 ((-1)) 0 uh hf H locs ls hG (lv_sub hl [4, 3, 2, 1, 0] rfl)
set_option maxRecDepth 100000 in
set_option maxHeartbeats 4000000 in
theorem c_X0_place (l : Launch) (D : va_G) (κ : Nat → ClassId) (a : Nat → Nat) (sz : Nat) (p1 : Int32) (p2 : Int32) (uh : HS)  (uh' : HS) (hf : f_X0_place p1 p2 uh = some (uh')) : Met l yX0_place wsX0_place ({ frames := 2, cells := 0, slots := 0, locals := 52 } : Room) (xPc D κ [.ref (a 0), .int p1, .int p2] (WH κ a uh) sz) (xQv D κ (WH κ a uh') (va_A (WH κ a uh) sz)) 0 0 (va_A (WH κ a uh) sz) := by
  refine x_ofW (cc := cX0_place) (maxL := 3) (ret := none) (Qf := fun A => xQv D κ (WH κ a uh') A) (by decide) rfl (Nat.le_of_ble_eq_true rfl) ?_
  intro p e s m below meth c hx hb hr hlk hml hown hts hK A hA H locs hG ls hl
  have hown : s.vm.findClass RX0 = some m.cls := hown
  have hl : lv_has ls 3 [(0, .ref (a 0)), (1, .int p1), (2, .int p2)] := hl
  have iX0 : ∀ w ∈ u_ws RX0 TX0 17, w ∈ wsX0_place := fun _ h => List.mem_cons_of_mem _ (List.mem_append_right _ h)
  have k28 := hts (.fieldLink RX0 28 "SpineDesks$Hall" "deskOf" "[I") (List.mem_of_getElem? (i := 5) rfl)
  have k34 := hts (.fieldLink RX0 34 "SpineDesks$Hall" "left" "[I") (List.mem_of_getElem? (i := 1) rfl)
  have k37 := hts (.fieldLink RX0 37 "SpineDesks$Hall" "right" "[I") (List.mem_of_getElem? (i := 2) rfl)
  have k40 := hts (.fieldLink RX0 40 "SpineDesks$Hall" "up" "[I") (List.mem_of_getElem? (i := 3) rfl)
  have k43 := hts (.fieldLink RX0 43 "SpineDesks$Hall" "rank" "[I") (List.mem_of_getElem? (i := 4) rfl)
  have k9 := hts (.fieldLink RX0 9 "SpineDesks$Hall" "root" "[I") (List.mem_of_getElem? (i := 6) rfl)
  unfold f_X0_place at hf
  refine lv_aload_n hx hb dX0_place_0 rfl (lv_at hl 0 rfl) ?_
  refine x_get (C := RX0) (T := TX0) (N := 17) (ci := 0) hx hb hts iX0 hown hK hG 0 rfl rfl 10 (by decide) k34 (v := .ref (a 6)) rfl dX0_place_1 ?_
  refine lv_iload_n hx hb dX0_place_4 rfl (lv_at hl 1 rfl) ?_
  refine lv_iconst (v := (-1)) hx hb dX0_place_5 (by decide) ?_
  obtain ⟨uh1, euh1, hin, hf⟩ := ck_e hf
  refine x_iast hx hb hK hG 6 rfl (w1 := WH κ a uh1) (by rw [euh1]; rfl) hin dX0_place_6 (fun H locs hG => ?_)
  refine lv_aload_n hx hb dX0_place_7 rfl (lv_at hl 0 rfl) ?_
  refine x_get (C := RX0) (T := TX0) (N := 17) (ci := 0) hx hb hts iX0 hown hK hG 0 rfl rfl 11 (by decide) k37 (v := .ref (a 7)) rfl dX0_place_8 ?_
  refine lv_iload_n hx hb dX0_place_11 rfl (lv_at hl 1 rfl) ?_
  refine lv_iconst (v := (-1)) hx hb dX0_place_12 (by decide) ?_
  obtain ⟨uh2, euh2, hin, hf⟩ := ck_e hf
  refine x_iast hx hb hK hG 7 rfl (w1 := WH κ a uh2) (by rw [euh2]; rfl) hin dX0_place_13 (fun H locs hG => ?_)
  refine lv_aload_n hx hb dX0_place_14 rfl (lv_at hl 0 rfl) ?_
  refine x_get (C := RX0) (T := TX0) (N := 17) (ci := 0) hx hb hts iX0 hown hK hG 0 rfl rfl 12 (by decide) k40 (v := .ref (a 8)) rfl dX0_place_15 ?_
  refine lv_iload_n hx hb dX0_place_18 rfl (lv_at hl 1 rfl) ?_
  refine lv_iconst (v := (-1)) hx hb dX0_place_19 (by decide) ?_
  obtain ⟨uh3, euh3, hin, hf⟩ := ck_e hf
  refine x_iast hx hb hK hG 8 rfl (w1 := WH κ a uh3) (by rw [euh3]; rfl) hin dX0_place_20 (fun H locs hG => ?_)
  refine lv_aload_n hx hb dX0_place_21 rfl (lv_at hl 0 rfl) ?_
  refine x_get (C := RX0) (T := TX0) (N := 17) (ci := 0) hx hb hts iX0 hown hK hG 0 rfl rfl 13 (by decide) k43 (v := .ref (a 9)) rfl dX0_place_22 ?_
  refine lv_iload_n hx hb dX0_place_25 rfl (lv_at hl 1 rfl) ?_
  refine lv_iconst (v := 1) hx hb dX0_place_26 (by decide) ?_
  obtain ⟨uh4, euh4, hin, hf⟩ := ck_e hf
  refine x_iast hx hb hK hG 9 rfl (w1 := WH κ a uh4) (by rw [euh4]; rfl) hin dX0_place_27 (fun H locs hG => ?_)
  refine lv_aload_n hx hb dX0_place_28 rfl (lv_at hl 0 rfl) ?_
  refine x_get (C := RX0) (T := TX0) (N := 17) (ci := 0) hx hb hts iX0 hown hK hG 0 rfl rfl 8 (by decide) k28 (v := .ref (a 4)) rfl dX0_place_29 ?_
  refine lv_iload_n hx hb dX0_place_32 rfl (lv_at hl 1 rfl) ?_
  refine lv_iload_n hx hb dX0_place_33 rfl (lv_at hl 2 rfl) ?_
  obtain ⟨uh5, euh5, hin, hf⟩ := ck_e hf
  refine x_iast hx hb hK hG 4 rfl (w1 := WH κ a uh5) (by rw [euh5]; rfl) hin dX0_place_34 (fun H locs hG => ?_)
  refine lv_aload_n hx hb dX0_place_35 rfl (lv_at hl 0 rfl) ?_
  refine x_get (C := RX0) (T := TX0) (N := 17) (ci := 0) hx hb hts iX0 hown hK hG 0 rfl rfl 5 (by decide) k9 (v := .ref (a 1)) rfl dX0_place_36 ?_
  refine lv_iload_n hx hb dX0_place_39 rfl (lv_at hl 2 rfl) ?_
  refine lv_aload_n hx hb dX0_place_40 rfl (lv_at hl 0 rfl) ?_
  refine lv_aload_n hx hb dX0_place_41 rfl (lv_at hl 0 rfl) ?_
  refine x_get (C := RX0) (T := TX0) (N := 17) (ci := 0) hx hb hts iX0 hown hK hG 0 rfl rfl 5 (by decide) k9 (v := .ref (a 1)) rfl dX0_place_42 ?_
  refine lv_iload_n hx hb dX0_place_45 rfl (lv_at hl 2 rfl) ?_
  obtain ⟨v6, ev6, hin, hf⟩ := ck_e hf
  refine x_iald hx hb hK hG 1 rfl ev6 hin dX0_place_46 ?_
  refine lv_iload_n hx hb dX0_place_47 rfl (lv_at hl 1 rfl) ?_
  obtain ⟨r7, uh8, q9, hf⟩ := cl2_e hf
  refine x_callVi (pre := ([] : va_W)) (wc := WH κ a uh5) (wc1 := WH κ a uh8) (post := ([] : va_W)) (As := [.int v6, .int p1]) (rest := [.int p2, .ref (a 1)]) (w1 := WH κ a uh8) ⟨hx, hb, hml, hown, hts⟩ hK hG hA (by simp only [List.append_assoc, List.nil_append, List.append_nil]) (by simp only [List.append_assoc, List.nil_append, List.append_nil]) (c_X0_join l D κ a H.size v6 p1 uh5 r7 uh8 q9) (cwV 2 hts gX0_place_X0_join rfl rfl rfl (by decide +kernel) ⟨Nat.le_of_ble_eq_true rfl, Nat.le_of_ble_eq_true rfl⟩) 0 0 rfl rfl rfl rfl hl.1 rfl (Nat.le_of_ble_eq_true rfl) dX0_place_48 ⟨Nat.zero_le _, Nat.zero_le _⟩ (fun H locs hG => ?_)
  obtain ⟨uh10, euh10, hin, hf⟩ := ck_e hf
  refine x_iast hx hb hK hG 1 rfl (w1 := WH κ a uh10) (by rw [euh10]; rfl) hin dX0_place_51 (fun H locs hG => ?_)
  have z0 := Option.some.inj hf
  exact x_vret hx hb hr hlk hK hG (by rw [z0]) dX0_place_52
set_option maxRecDepth 100000 in
set_option maxHeartbeats 4000000 in
theorem c_X0_takeRoot (l : Launch) (D : va_G) (κ : Nat → ClassId) (a : Nat → Nat) (sz : Nat) (p1 : Int32) (uh : HS) (r' : Int32) (uh' : HS) (hf : f_X0_takeRoot p1 uh = some (r', uh')) : Met l yX0_takeRoot wsX0_takeRoot ({ frames := 2, cells := 0, slots := 0, locals := 52 } : Room) (xPc D κ [.ref (a 0), .int p1] (WH κ a uh) sz) (xQi D κ r' (WH κ a uh') (va_A (WH κ a uh) sz)) 0 0 (va_A (WH κ a uh) sz) := by
  refine x_ofW (cc := cX0_takeRoot) (maxL := 3) (ret := (some .int)) (Qf := fun A => xQi D κ r' (WH κ a uh') A) (by decide) rfl (Nat.le_of_ble_eq_true rfl) ?_
  intro p e s m below meth c hx hb hr hlk hml hown hts hK A hA H locs hG ls hl
  have hown : s.vm.findClass RX0 = some m.cls := hown
  have hl : lv_has ls 3 [(0, .ref (a 0)), (1, .int p1)] := hl
  have iX0 : ∀ w ∈ u_ws RX0 TX0 17, w ∈ wsX0_takeRoot := fun _ h => List.mem_cons_of_mem _ (List.mem_append_right _ h)
  have k28 := hts (.fieldLink RX0 28 "SpineDesks$Hall" "deskOf" "[I") (List.mem_of_getElem? (i := 4) rfl)
  have k34 := hts (.fieldLink RX0 34 "SpineDesks$Hall" "left" "[I") (List.mem_of_getElem? (i := 2) rfl)
  have k37 := hts (.fieldLink RX0 37 "SpineDesks$Hall" "right" "[I") (List.mem_of_getElem? (i := 3) rfl)
  have k9 := hts (.fieldLink RX0 9 "SpineDesks$Hall" "root" "[I") (List.mem_of_getElem? (i := 1) rfl)
  unfold f_X0_takeRoot at hf
  refine lv_aload_n hx hb dX0_takeRoot_0 rfl (lv_at hl 0 rfl) ?_
  refine x_get (C := RX0) (T := TX0) (N := 17) (ci := 0) hx hb hts iX0 hown hK hG 0 rfl rfl 5 (by decide) k9 (v := .ref (a 1)) rfl dX0_takeRoot_1 ?_
  refine lv_iload_n hx hb dX0_takeRoot_4 rfl (lv_at hl 1 rfl) ?_
  obtain ⟨v1, ev1, hin, hf⟩ := ck_e hf
  refine x_iald hx hb hK hG 1 rfl ev1 hin dX0_takeRoot_5 ?_
  refine lv_istore_n (lv' := [(2, .int v1), (0, .ref (a 0)), (1, .int p1)]) hx hb dX0_takeRoot_6 rfl hl (by decide) rfl (fun ls hl => ?_)
  refine lv_iload_n hx hb dX0_takeRoot_7 rfl (lv_at hl 0 rfl) ?_
  refine lv_iconst (v := (-1)) hx hb dX0_takeRoot_8 (by decide) ?_
  refine lv_icmp_eq (tgt := 41) hx hb dX0_takeRoot_9 (by decide) (fun c2 => ?_) (fun c2 => ?_)
  · replace hf := if_t c2 hf
    refine lv_iload_n hx hb dX0_takeRoot_41 rfl (lv_at hl 0 rfl) ?_
    have hz := Option.some.inj hf
    have z0 := (Prod.mk.inj hz).1
    replace hz := (Prod.mk.inj hz).2
    have z1 := hz
    exact x_iret hx hb hr hlk hK hG z0 (by rw [z1]) dX0_takeRoot_42
  · replace hf := if_f c2 hf
    refine lv_aload_n hx hb dX0_takeRoot_12 rfl (lv_at hl 1 rfl) ?_
    refine x_get (C := RX0) (T := TX0) (N := 17) (ci := 0) hx hb hts iX0 hown hK hG 0 rfl rfl 5 (by decide) k9 (v := .ref (a 1)) rfl dX0_takeRoot_13 ?_
    refine lv_iload_n hx hb dX0_takeRoot_16 rfl (lv_at hl 2 rfl) ?_
    refine lv_aload_n hx hb dX0_takeRoot_17 rfl (lv_at hl 1 rfl) ?_
    refine lv_aload_n hx hb dX0_takeRoot_18 rfl (lv_at hl 1 rfl) ?_
    refine x_get (C := RX0) (T := TX0) (N := 17) (ci := 0) hx hb hts iX0 hown hK hG 0 rfl rfl 10 (by decide) k34 (v := .ref (a 6)) rfl dX0_takeRoot_19 ?_
    refine lv_iload_n hx hb dX0_takeRoot_22 rfl (lv_at hl 0 rfl) ?_
    obtain ⟨v3, ev3, hin, hf⟩ := ck_e hf
    refine x_iald hx hb hK hG 6 rfl ev3 hin dX0_takeRoot_23 ?_
    refine lv_aload_n hx hb dX0_takeRoot_24 rfl (lv_at hl 1 rfl) ?_
    refine x_get (C := RX0) (T := TX0) (N := 17) (ci := 0) hx hb hts iX0 hown hK hG 0 rfl rfl 11 (by decide) k37 (v := .ref (a 7)) rfl dX0_takeRoot_25 ?_
    refine lv_iload_n hx hb dX0_takeRoot_28 rfl (lv_at hl 0 rfl) ?_
    obtain ⟨v4, ev4, hin, hf⟩ := ck_e hf
    refine x_iald hx hb hK hG 7 rfl ev4 hin dX0_takeRoot_29 ?_
    obtain ⟨r5, uh6, q7, hf⟩ := cl2_e hf
    refine x_callVi (pre := ([] : va_W)) (wc := WH κ a uh) (wc1 := WH κ a uh6) (post := ([] : va_W)) (As := [.int v3, .int v4]) (rest := [.int p1, .ref (a 1)]) (w1 := WH κ a uh6) ⟨hx, hb, hml, hown, hts⟩ hK hG hA (by simp only [List.append_assoc, List.nil_append, List.append_nil]) (by simp only [List.append_assoc, List.nil_append, List.append_nil]) (c_X0_join l D κ a H.size v3 v4 uh r5 uh6 q7) (cwV 2 hts gX0_takeRoot_X0_join rfl rfl rfl (by decide +kernel) ⟨Nat.le_of_ble_eq_true rfl, Nat.le_of_ble_eq_true rfl⟩) 0 0 rfl rfl rfl rfl hl.1 rfl (Nat.le_of_ble_eq_true rfl) dX0_takeRoot_30 ⟨Nat.zero_le _, Nat.zero_le _⟩ (fun H locs hG => ?_)
    obtain ⟨uh8, euh8, hin, hf⟩ := ck_e hf
    refine x_iast hx hb hK hG 1 rfl (w1 := WH κ a uh8) (by rw [euh8]; rfl) hin dX0_takeRoot_33 (fun H locs hG => ?_)
    refine lv_aload_n hx hb dX0_takeRoot_34 rfl (lv_at hl 1 rfl) ?_
    refine x_get (C := RX0) (T := TX0) (N := 17) (ci := 0) hx hb hts iX0 hown hK hG 0 rfl rfl 8 (by decide) k28 (v := .ref (a 4)) rfl dX0_takeRoot_35 ?_
    refine lv_iload_n hx hb dX0_takeRoot_38 rfl (lv_at hl 0 rfl) ?_
    refine lv_iconst (v := (-1)) hx hb dX0_takeRoot_39 (by decide) ?_
    obtain ⟨uh9, euh9, hin, hf⟩ := ck_e hf
    refine x_iast hx hb hK hG 4 rfl (w1 := WH κ a uh9) (by rw [euh9]; rfl) hin dX0_takeRoot_40 (fun H locs hG => ?_)
    refine lv_iload_n hx hb dX0_takeRoot_41 rfl (lv_at hl 0 rfl) ?_
    have hz := Option.some.inj hf
    have z0 := (Prod.mk.inj hz).1
    replace hz := (Prod.mk.inj hz).2
    have z1 := hz
    exact x_iret hx hb hr hlk hK hG z0 (by rw [z1]) dX0_takeRoot_42
set_option maxRecDepth 100000 in
set_option maxHeartbeats 4000000 in
theorem c_X0_sweep (l : Launch) (D : va_G) (κ : Nat → ClassId) (a : Nat → Nat) (sz : Nat)  (uh : HS)  (uh' : HS) (hf : f_X0_sweep uh = some (uh')) : Met l yX0_sweep wsX0_sweep ({ frames := 3, cells := 0, slots := 0, locals := 74 } : Room) (xPc D κ [.ref (a 0)] (WH κ a uh) sz) (xQv D κ (WH κ a uh') (va_A (WH κ a uh) sz)) 0 0 (va_A (WH κ a uh) sz) := by
  refine x_ofW (cc := cX0_sweep) (maxL := 3) (ret := none) (Qf := fun A => xQv D κ (WH κ a uh') A) (by decide) rfl (Nat.le_of_ble_eq_true rfl) ?_
  intro p e s m below meth c hx hb hr hlk hml hown hts hK A hA H locs hG ls hl
  have hown : s.vm.findClass RX0 = some m.cls := hown
  have hl : lv_has ls 3 [(0, .ref (a 0))] := hl
  have iX0 : ∀ w ∈ u_ws RX0 TX0 17, w ∈ wsX0_sweep := fun _ h => List.mem_cons_of_mem _ (List.mem_append_right _ h)
  have k31 := hts (.fieldLink RX0 31 "SpineDesks$Hall" "crossed" "[I") (List.mem_of_getElem? (i := 2) rfl)
  have k62 := hts (.fieldLink RX0 62 "SpineDesks$Hall" "swept" "I") (List.mem_of_getElem? (i := 3) rfl)
  have k9 := hts (.fieldLink RX0 9 "SpineDesks$Hall" "root" "[I") (List.mem_of_getElem? (i := 1) rfl)
  have L64 : ∀ (rec2 : Int32 → HS → Option (HS)) (hr2 : ∀ (y1 : Int32) (uh : HS), rec2 y1 uh = some (uh') → ∀ (H : Heap) (locs : List Loc) (ls : Array Slot), xG D A s.heap (WH κ a uh) H locs → lv_has ls 3 [(0, .ref (a 0)), (1, .int y1)] → W p l e ({ frames := 3, cells := 0, slots := 0, locals := 74 } : Room) s m (([.ref (a 0)] : List Value).toArray) below meth c H locs 0 0 (MQ below (xQv D κ (WH κ a uh') A) (([.ref (a 0)] : List Value).toArray) s 0 0 A) (F0 m 2 ls [])), ∀ (x1 : Int32) (uh : HS), f_X0_sweep_64 rec2 x1 uh = some (uh') → ∀ (H : Heap) (locs : List Loc) (ls : Array Slot), xG D A s.heap (WH κ a uh) H locs → lv_has ls 3 [(0, .ref (a 0)), (1, .int x1)] → W p l e ({ frames := 3, cells := 0, slots := 0, locals := 74 } : Room) s m (([.ref (a 0)] : List Value).toArray) below meth c H locs 0 0 (MQ below (xQv D κ (WH κ a uh') A) (([.ref (a 0)] : List Value).toArray) s 0 0 A) (F0 m 64 ls []) := by
    intro rec2 hr2 x1 uh hf H locs ls hG hl
    unfold f_X0_sweep_64 at hf
    obtain ⟨y1, ey1, hf⟩ := bnd_e hf
    refine lv_iinc (v := y1) (lv' := [(1, .int y1), (0, .ref (a 0))]) hx hb dX0_sweep_64 hl (k := 1) rfl (by rw [ey1]; rfl) (by decide) rfl (fun ls hl => ?_)
    refine lv_goto (tgt := 2) hx hb dX0_sweep_67 (by decide) ?_
    exact hr2 y1 uh hf H locs ls hG (lv_sub hl [1, 0] rfl)
  have L10 : ∀ (rec2 : Int32 → HS → Option (HS)) (hr2 : ∀ (y1 : Int32) (uh : HS), rec2 y1 uh = some (uh') → ∀ (H : Heap) (locs : List Loc) (ls : Array Slot), xG D A s.heap (WH κ a uh) H locs → lv_has ls 3 [(0, .ref (a 0)), (1, .int y1)] → W p l e ({ frames := 3, cells := 0, slots := 0, locals := 74 } : Room) s m (([.ref (a 0)] : List Value).toArray) below meth c H locs 0 0 (MQ below (xQv D κ (WH κ a uh') A) (([.ref (a 0)] : List Value).toArray) s 0 0 A) (F0 m 2 ls [])), ∀ (n : Nat), ∀ (x1 : Int32) (x2 : Int32) (uh : HS), f_X0_sweep_10 rec2 n x1 x2 uh = some (uh') → ∀ (H : Heap) (locs : List Loc) (ls : Array Slot), xG D A s.heap (WH κ a uh) H locs → lv_has ls 3 [(0, .ref (a 0)), (1, .int x1), (2, .int x2)] → W p l e ({ frames := 3, cells := 0, slots := 0, locals := 74 } : Room) s m (([.ref (a 0)] : List Value).toArray) below meth c H locs 0 0 (MQ below (xQv D κ (WH κ a uh') A) (([.ref (a 0)] : List Value).toArray) s 0 0 A) (F0 m 10 ls []) := by
    intro rec2 hr2 n
    induction n with
    | zero => intro x1 x2 uh hf; cases hf
    | succ n ih =>
      intro x1 x2 uh hf H locs ls hG hl
      replace hf : f_X0_sweep_B10 rec2 (f_X0_sweep_10 rec2 n) x1 x2 uh = some (uh') := hf
      unfold f_X0_sweep_B10 at hf
      refine lv_iload_n hx hb dX0_sweep_10 rfl (lv_at hl 2 rfl) ?_
      refine lv_sipush (v := 300) hx hb dX0_sweep_11 (by decide) ?_
      refine lv_icmp_ge (tgt := 64) hx hb dX0_sweep_14 (by decide) (fun c2 => ?_) (fun c2 => ?_)
      · replace hf := if_t c2 hf
        exact L64 rec2 hr2  x1 uh hf H locs ls hG (lv_sub hl [0, 1] rfl)
      · replace hf := if_f c2 hf
        refine lv_aload_n hx hb dX0_sweep_17 rfl (lv_at hl 0 rfl) ?_
        refine x_get (C := RX0) (T := TX0) (N := 17) (ci := 0) hx hb hts iX0 hown hK hG 0 rfl rfl 5 (by decide) k9 (v := .ref (a 1)) rfl dX0_sweep_18 ?_
        refine lv_iload_n hx hb dX0_sweep_21 rfl (lv_at hl 1 rfl) ?_
        obtain ⟨v3, ev3, hin, hf⟩ := ck_e hf
        refine x_iald hx hb hK hG 1 rfl ev3 hin dX0_sweep_22 ?_
        refine lv_iconst (v := (-1)) hx hb dX0_sweep_23 (by decide) ?_
        refine lv_icmp_eq (tgt := 64) hx hb dX0_sweep_24 (by decide) (fun c4 => ?_) (fun c4 => ?_)
        · replace hf := if_t c4 hf
          exact L64 rec2 hr2  x1 uh hf H locs ls hG (lv_sub hl [0, 1] rfl)
        · replace hf := if_f c4 hf
          refine lv_aload_n hx hb dX0_sweep_27 rfl (lv_at hl 0 rfl) ?_
          refine x_get (C := RX0) (T := TX0) (N := 17) (ci := 0) hx hb hts iX0 hown hK hG 0 rfl rfl 9 (by decide) k31 (v := .ref (a 5)) rfl dX0_sweep_28 ?_
          refine lv_aload_n hx hb dX0_sweep_31 rfl (lv_at hl 0 rfl) ?_
          refine x_get (C := RX0) (T := TX0) (N := 17) (ci := 0) hx hb hts iX0 hown hK hG 0 rfl rfl 5 (by decide) k9 (v := .ref (a 1)) rfl dX0_sweep_32 ?_
          refine lv_iload_n hx hb dX0_sweep_35 rfl (lv_at hl 1 rfl) ?_
          obtain ⟨v5, ev5, hin, hf⟩ := ck_e hf
          refine x_iald hx hb hK hG 1 rfl ev5 hin dX0_sweep_36 ?_
          obtain ⟨v6, ev6, hin, hf⟩ := ck_e hf
          refine x_iald hx hb hK hG 5 rfl ev6 hin dX0_sweep_37 ?_
          refine lv_iconst (v := 1) hx hb dX0_sweep_38 (by decide) ?_
          refine lv_icmp_ne (tgt := 64) hx hb dX0_sweep_39 (by decide) (fun c7 => ?_) (fun c7 => ?_)
          · replace hf := if_f c7 hf
            exact L64 rec2 hr2  x1 uh hf H locs ls hG (lv_sub hl [0, 1] rfl)
          · replace hf := if_t c7 hf
            refine lv_aload_n hx hb dX0_sweep_42 rfl (lv_at hl 0 rfl) ?_
            refine lv_iload_n hx hb dX0_sweep_43 rfl (lv_at hl 1 rfl) ?_
            obtain ⟨r8, uh9, q10, hf⟩ := cl2_e hf
            refine x_callVi (pre := ([] : va_W)) (wc := WH κ a uh) (wc1 := WH κ a uh9) (post := ([] : va_W)) (As := [.int x1]) (rest := []) (w1 := WH κ a uh9) ⟨hx, hb, hml, hown, hts⟩ hK hG hA (by simp only [List.append_assoc, List.nil_append, List.append_nil]) (by simp only [List.append_assoc, List.nil_append, List.append_nil]) (c_X0_takeRoot l D κ a H.size x1 uh r8 uh9 q10) (cwV 1 hts gX0_sweep_X0_takeRoot rfl rfl rfl (by decide +kernel) ⟨Nat.le_of_ble_eq_true rfl, Nat.le_of_ble_eq_true rfl⟩) 0 0 rfl rfl rfl rfl hl.1 rfl (Nat.le_of_ble_eq_true rfl) dX0_sweep_44 ⟨Nat.zero_le _, Nat.zero_le _⟩ (fun H locs hG => ?_)
            refine lv_pop hx hb dX0_sweep_47 rfl ?_
            refine lv_aload_n hx hb dX0_sweep_48 rfl (lv_at hl 0 rfl) ?_
            refine lv_dup hx hb dX0_sweep_49 rfl ?_
            refine x_get (C := RX0) (T := TX0) (N := 17) (ci := 0) hx hb hts iX0 hown hK hG 0 rfl rfl 2 (by decide) k62 (v := .int (uh9.swept)) rfl dX0_sweep_50 ?_
            refine lv_iconst (v := 1) hx hb dX0_sweep_53 (by decide) ?_
            refine lv_iadd hx hb dX0_sweep_54 ?_
            obtain ⟨uh11, euh11, hf⟩ := bnd_e hf
            refine x_put (C := RX0) (T := TX0) (N := 17) (ci := 0) hx hb hts iX0 tyX0 tyX0_ok nmX0 hown hK hG 0 rfl rfl 2 (by decide) k62 rfl (ty := .int) (v := .int ((uh9.swept) + 1)) rfl rfl rfl (Nat.le_of_ble_eq_true rfl) (w1 := WH κ a uh11) (by rw [euh11]; rfl) dX0_sweep_55 (fun H locs hG => ?_)
            obtain ⟨y12, ey12, hf⟩ := bnd_e hf
            refine lv_iinc (v := y12) (lv' := [(2, .int y12), (0, .ref (a 0)), (1, .int x1)]) hx hb dX0_sweep_58 hl (k := 2) rfl (by rw [ey12]; rfl) (by decide) rfl (fun ls hl => ?_)
            refine lv_goto (tgt := 10) hx hb dX0_sweep_61 (by decide) ?_
            exact ih x1 y12 uh11 hf H locs ls hG (lv_sub hl [1, 2, 0] rfl)
  have L2 : ∀ (n : Nat), ∀ (x1 : Int32) (uh : HS), f_X0_sweep_2 n x1 uh = some (uh') → ∀ (H : Heap) (locs : List Loc) (ls : Array Slot), xG D A s.heap (WH κ a uh) H locs → lv_has ls 3 [(0, .ref (a 0)), (1, .int x1)] → W p l e ({ frames := 3, cells := 0, slots := 0, locals := 74 } : Room) s m (([.ref (a 0)] : List Value).toArray) below meth c H locs 0 0 (MQ below (xQv D κ (WH κ a uh') A) (([.ref (a 0)] : List Value).toArray) s 0 0 A) (F0 m 2 ls []) := by
    intro  n
    induction n with
    | zero => intro x1 uh hf; cases hf
    | succ n ih =>
      intro x1 uh hf H locs ls hG hl
      replace hf : f_X0_sweep_B2 (f_X0_sweep_2 n) x1 uh = some (uh') := hf
      unfold f_X0_sweep_B2 at hf
      refine lv_iload_n hx hb dX0_sweep_2 rfl (lv_at hl 1 rfl) ?_
      refine lv_bipush (v := 6) hx hb dX0_sweep_3 (by decide) ?_
      refine lv_icmp_ge (tgt := 70) hx hb dX0_sweep_5 (by decide) (fun c13 => ?_) (fun c13 => ?_)
      · replace hf := if_t c13 hf
        have z0 := Option.some.inj hf
        exact x_vret hx hb hr hlk hK hG (by rw [z0]) dX0_sweep_70
      · replace hf := if_f c13 hf
        refine lv_iconst (v := 0) hx hb dX0_sweep_8 (by decide) ?_
        refine lv_istore_n (lv' := [(2, .int 0), (0, .ref (a 0)), (1, .int x1)]) hx hb dX0_sweep_9 rfl hl (by decide) rfl (fun ls hl => ?_)
        exact L10 (f_X0_sweep_2 n) ih FU x1 0 uh hf H locs ls hG (lv_sub hl [1, 2, 0] rfl)
  unfold f_X0_sweep at hf
  refine lv_iconst (v := 0) hx hb dX0_sweep_0 (by decide) ?_
  refine lv_istore_n (lv' := [(1, .int 0), (0, .ref (a 0))]) hx hb dX0_sweep_1 rfl hl (by decide) rfl (fun ls hl => ?_)
  exact L2  FU 0 uh hf H locs ls hG (lv_sub hl [1, 0] rfl)
set_option maxRecDepth 100000 in
set_option maxHeartbeats 4000000 in
theorem c_X0_dispatch (l : Launch) (D : va_G) (κ : Nat → ClassId) (a : Nat → Nat) (sz : Nat) (p1 : Int32) (uh : HS) (r' : Int32) (uh' : HS) (hf : f_X0_dispatch p1 uh = some (r', uh')) : Met l yX0_dispatch wsX0_dispatch ({ frames := 4, cells := 0, slots := 0, locals := 96 } : Room) (xPc D κ [.ref (a 0), .int p1] (WH κ a uh) sz) (xQi D κ r' (WH κ a uh') (va_A (WH κ a uh) sz)) 0 0 (va_A (WH κ a uh) sz) := by
  refine x_ofW (cc := cX0_dispatch) (maxL := 4) (ret := (some .int)) (Qf := fun A => xQi D κ r' (WH κ a uh') A) (by decide) rfl (Nat.le_of_ble_eq_true rfl) ?_
  intro p e s m below meth c hx hb hr hlk hml hown hts hK A hA H locs hG ls hl
  have hown : s.vm.findClass RX0 = some m.cls := hown
  have hl : lv_has ls 4 [(0, .ref (a 0)), (1, .int p1)] := hl
  have iX0 : ∀ w ∈ u_ws RX0 TX0 17, w ∈ wsX0_dispatch := fun _ h => List.mem_cons_of_mem _ (List.mem_append_right _ h)
  have k21 := hts (.fieldLink RX0 21 "SpineDesks$Hall" "keyOf" "[J") (List.mem_of_getElem? (i := 4) rfl)
  have k46 := hts (.fieldLink RX0 46 "SpineDesks$Hall" "logItem" "[I") (List.mem_of_getElem? (i := 2) rfl)
  have k49 := hts (.fieldLink RX0 49 "SpineDesks$Hall" "logKey" "[J") (List.mem_of_getElem? (i := 3) rfl)
  have k52 := hts (.fieldLink RX0 52 "SpineDesks$Hall" "logDesk" "[I") (List.mem_of_getElem? (i := 5) rfl)
  have k65 := hts (.fieldLink RX0 65 "SpineDesks$Hall" "logged" "I") (List.mem_of_getElem? (i := 1) rfl)
  unfold f_X0_dispatch at hf
  refine lv_aload_n hx hb dX0_dispatch_0 rfl (lv_at hl 0 rfl) ?_
  refine lv_iload_n hx hb dX0_dispatch_1 rfl (lv_at hl 1 rfl) ?_
  obtain ⟨r1, uh2, q3, hf⟩ := cl2_e hf
  refine x_callVi (pre := ([] : va_W)) (wc := WH κ a uh) (wc1 := WH κ a uh2) (post := ([] : va_W)) (As := [.int p1]) (rest := []) (w1 := WH κ a uh2) ⟨hx, hb, hml, hown, hts⟩ hK hG hA (by simp only [List.append_assoc, List.nil_append, List.append_nil]) (by simp only [List.append_assoc, List.nil_append, List.append_nil]) (c_X0_takeRoot l D κ a H.size p1 uh r1 uh2 q3) (cwV 1 hts gX0_dispatch_X0_takeRoot rfl rfl rfl (by decide +kernel) ⟨Nat.le_of_ble_eq_true rfl, Nat.le_of_ble_eq_true rfl⟩) 0 0 rfl rfl rfl rfl hl.1 rfl (Nat.le_of_ble_eq_true rfl) dX0_dispatch_2 ⟨Nat.zero_le _, Nat.zero_le _⟩ (fun H locs hG => ?_)
  refine lv_istore_n (lv' := [(2, .int r1), (0, .ref (a 0)), (1, .int p1)]) hx hb dX0_dispatch_5 rfl hl (by decide) rfl (fun ls hl => ?_)
  refine lv_iload_n hx hb dX0_dispatch_6 rfl (lv_at hl 0 rfl) ?_
  refine lv_iconst (v := (-1)) hx hb dX0_dispatch_7 (by decide) ?_
  refine lv_icmp_eq (tgt := 59) hx hb dX0_dispatch_8 (by decide) (fun c4 => ?_) (fun c4 => ?_)
  · replace hf := if_t c4 hf
    refine lv_iload_n hx hb dX0_dispatch_59 rfl (lv_at hl 0 rfl) ?_
    have hz := Option.some.inj hf
    have z0 := (Prod.mk.inj hz).1
    replace hz := (Prod.mk.inj hz).2
    have z1 := hz
    exact x_iret hx hb hr hlk hK hG z0 (by rw [z1]) dX0_dispatch_60
  · replace hf := if_f c4 hf
    refine lv_aload_n hx hb dX0_dispatch_11 rfl (lv_at hl 1 rfl) ?_
    refine x_get (C := RX0) (T := TX0) (N := 17) (ci := 0) hx hb hts iX0 hown hK hG 0 rfl rfl 3 (by decide) k65 (v := .int (uh2.logged)) rfl dX0_dispatch_12 ?_
    refine lv_bipush (v := 40) hx hb dX0_dispatch_15 (by decide) ?_
    refine lv_irem hx hb dX0_dispatch_17 (by decide) ?_
    refine lv_topi (fun y5 ey5 => ?_)
    replace hf := bnd_at ey5 hf
    refine lv_istore_n (lv' := [(3, .int y5), (2, .int r1), (0, .ref (a 0)), (1, .int p1)]) hx hb dX0_dispatch_18 rfl hl (by decide) rfl (fun ls hl => ?_)
    refine lv_aload_n hx hb dX0_dispatch_19 rfl (lv_at hl 2 rfl) ?_
    refine x_get (C := RX0) (T := TX0) (N := 17) (ci := 0) hx hb hts iX0 hown hK hG 0 rfl rfl 14 (by decide) k46 (v := .ref (a 10)) rfl dX0_dispatch_20 ?_
    refine lv_iload_n hx hb dX0_dispatch_23 rfl (lv_at hl 0 rfl) ?_
    refine lv_iload_n hx hb dX0_dispatch_24 rfl (lv_at hl 1 rfl) ?_
    obtain ⟨uh6, euh6, hin, hf⟩ := ck_e hf
    refine x_iast hx hb hK hG 10 rfl (w1 := WH κ a uh6) (by rw [euh6]; rfl) hin dX0_dispatch_25 (fun H locs hG => ?_)
    refine lv_aload_n hx hb dX0_dispatch_26 rfl (lv_at hl 2 rfl) ?_
    refine x_get (C := RX0) (T := TX0) (N := 17) (ci := 0) hx hb hts iX0 hown hK hG 0 rfl rfl 15 (by decide) k49 (v := .ref (a 11)) rfl dX0_dispatch_27 ?_
    refine lv_iload_n hx hb dX0_dispatch_30 rfl (lv_at hl 0 rfl) ?_
    refine lv_aload_n hx hb dX0_dispatch_31 rfl (lv_at hl 2 rfl) ?_
    refine x_get (C := RX0) (T := TX0) (N := 17) (ci := 0) hx hb hts iX0 hown hK hG 0 rfl rfl 6 (by decide) k21 (v := .ref (a 2)) rfl dX0_dispatch_32 ?_
    refine lv_iload_n hx hb dX0_dispatch_35 rfl (lv_at hl 1 rfl) ?_
    obtain ⟨v7, ev7, hin, hf⟩ := ck_e hf
    refine x_lald hx hb hK hG 2 rfl ev7 hin dX0_dispatch_36 ?_
    obtain ⟨uh8, euh8, hin, hf⟩ := ck_e hf
    refine x_last hx hb hK hG 11 rfl (w1 := WH κ a uh8) (by rw [euh8]; rfl) hin dX0_dispatch_37 (fun H locs hG => ?_)
    refine lv_aload_n hx hb dX0_dispatch_38 rfl (lv_at hl 2 rfl) ?_
    refine x_get (C := RX0) (T := TX0) (N := 17) (ci := 0) hx hb hts iX0 hown hK hG 0 rfl rfl 16 (by decide) k52 (v := .ref (a 12)) rfl dX0_dispatch_39 ?_
    refine lv_iload_n hx hb dX0_dispatch_42 rfl (lv_at hl 0 rfl) ?_
    refine lv_iload_n hx hb dX0_dispatch_43 rfl (lv_at hl 3 rfl) ?_
    obtain ⟨uh9, euh9, hin, hf⟩ := ck_e hf
    refine x_iast hx hb hK hG 12 rfl (w1 := WH κ a uh9) (by rw [euh9]; rfl) hin dX0_dispatch_44 (fun H locs hG => ?_)
    refine lv_aload_n hx hb dX0_dispatch_45 rfl (lv_at hl 2 rfl) ?_
    refine lv_dup hx hb dX0_dispatch_46 rfl ?_
    refine x_get (C := RX0) (T := TX0) (N := 17) (ci := 0) hx hb hts iX0 hown hK hG 0 rfl rfl 3 (by decide) k65 (v := .int (uh9.logged)) rfl dX0_dispatch_47 ?_
    refine lv_iconst (v := 1) hx hb dX0_dispatch_50 (by decide) ?_
    refine lv_iadd hx hb dX0_dispatch_51 ?_
    obtain ⟨uh10, euh10, hf⟩ := bnd_e hf
    refine x_put (C := RX0) (T := TX0) (N := 17) (ci := 0) hx hb hts iX0 tyX0 tyX0_ok nmX0 hown hK hG 0 rfl rfl 3 (by decide) k65 rfl (ty := .int) (v := .int ((uh9.logged) + 1)) rfl rfl rfl (Nat.le_of_ble_eq_true rfl) (w1 := WH κ a uh10) (by rw [euh10]; rfl) dX0_dispatch_52 (fun H locs hG => ?_)
    refine lv_aload_n hx hb dX0_dispatch_55 rfl (lv_at hl 2 rfl) ?_
    obtain ⟨uh11, q12, hf⟩ := cl1_e hf
    refine x_callVv (pre := ([] : va_W)) (wc := WH κ a uh10) (wc1 := WH κ a uh11) (post := ([] : va_W)) (As := []) (rest := []) (w1 := WH κ a uh11) ⟨hx, hb, hml, hown, hts⟩ hK hG hA (by simp only [List.append_assoc, List.nil_append, List.append_nil]) (by simp only [List.append_assoc, List.nil_append, List.append_nil]) (c_X0_sweep l D κ a H.size uh10 uh11 q12) (cwV 0 hts gX0_dispatch_X0_sweep rfl rfl rfl (by decide +kernel) ⟨Nat.le_of_ble_eq_true rfl, Nat.le_of_ble_eq_true rfl⟩) 0 0 rfl rfl rfl rfl hl.1 rfl (Nat.le_of_ble_eq_true rfl) dX0_dispatch_56 ⟨Nat.zero_le _, Nat.zero_le _⟩ (fun H locs hG => ?_)
    refine lv_iload_n hx hb dX0_dispatch_59 rfl (lv_at hl 1 rfl) ?_
    have hz := Option.some.inj hf
    have z0 := (Prod.mk.inj hz).1
    replace hz := (Prod.mk.inj hz).2
    have z1 := hz
    exact x_iret hx hb hr hlk hK hG z0 (by rw [z1]) dX0_dispatch_60
set_option maxRecDepth 100000 in
set_option maxHeartbeats 4000000 in
theorem c_X0_callNext (l : Launch) (D : va_G) (κ : Nat → ClassId) (a : Nat → Nat) (sz : Nat)  (uh : HS) (r' : Int32) (uh' : HS) (hf : f_X0_callNext uh = some (r', uh')) : Met l yX0_callNext wsX0_callNext ({ frames := 5, cells := 0, slots := 0, locals := 119 } : Room) (xPc D κ [.ref (a 0)] (WH κ a uh) sz) (xQi D κ r' (WH κ a uh') (va_A (WH κ a uh) sz)) 0 0 (va_A (WH κ a uh) sz) := by
  refine x_ofW (cc := cX0_callNext) (maxL := 2) (ret := (some .int)) (Qf := fun A => xQi D κ r' (WH κ a uh') A) (by decide) rfl (Nat.le_of_ble_eq_true rfl) ?_
  intro p e s m below meth c hx hb hr hlk hml hown hts hK A hA H locs hG ls hl
  have hown : s.vm.findClass RX0 = some m.cls := hown
  have hl : lv_has ls 2 [(0, .ref (a 0))] := hl
  have iX0 : ∀ w ∈ u_ws RX0 TX0 17, w ∈ wsX0_callNext := fun _ h => List.mem_cons_of_mem _ (List.mem_append_right _ h)
  have k59 := hts (.fieldLink RX0 59 "SpineDesks$Hall" "turn" "I") (List.mem_of_getElem? (i := 1) rfl)
  have L21 : ∀ (x1 : Int32) (s1 : Int32) (uh : HS), f_X0_callNext_21 x1 s1 uh = some (r', uh') → ∀ (H : Heap) (locs : List Loc) (ls : Array Slot), xG D A s.heap (WH κ a uh) H locs → lv_has ls 2 [(0, .ref (a 0)), (1, .int x1)] → W p l e ({ frames := 5, cells := 0, slots := 0, locals := 119 } : Room) s m (([.ref (a 0)] : List Value).toArray) below meth c H locs 0 0 (MQ below (xQi D κ r' (WH κ a uh') A) (([.ref (a 0)] : List Value).toArray) s 0 0 A) (F0 m 21 ls [.int s1, .ref (a 0)]) := by
    intro  x1 s1 uh hf H locs ls hG hl
    unfold f_X0_callNext_21 at hf
    obtain ⟨uh1, euh1, hf⟩ := bnd_e hf
    refine x_put (C := RX0) (T := TX0) (N := 17) (ci := 0) hx hb hts iX0 tyX0 tyX0_ok nmX0 hown hK hG 0 rfl rfl 1 (by decide) k59 rfl (ty := .int) (v := .int s1) rfl rfl rfl (Nat.le_of_ble_eq_true rfl) (w1 := WH κ a uh1) (by rw [euh1]; rfl) dX0_callNext_21 (fun H locs hG => ?_)
    refine lv_aload_n hx hb dX0_callNext_24 rfl (lv_at hl 0 rfl) ?_
    refine lv_iload_n hx hb dX0_callNext_25 rfl (lv_at hl 1 rfl) ?_
    obtain ⟨r2, uh3, q4, hf⟩ := cl2_e hf
    refine x_callVi (pre := ([] : va_W)) (wc := WH κ a uh1) (wc1 := WH κ a uh3) (post := ([] : va_W)) (As := [.int x1]) (rest := []) (w1 := WH κ a uh3) ⟨hx, hb, hml, hown, hts⟩ hK hG hA (by simp only [List.append_assoc, List.nil_append, List.append_nil]) (by simp only [List.append_assoc, List.nil_append, List.append_nil]) (c_X0_dispatch l D κ a H.size x1 uh1 r2 uh3 q4) (cwV 1 hts gX0_callNext_X0_dispatch rfl rfl rfl (by decide +kernel) ⟨Nat.le_of_ble_eq_true rfl, Nat.le_of_ble_eq_true rfl⟩) 0 0 rfl rfl rfl rfl hl.1 rfl (Nat.le_of_ble_eq_true rfl) dX0_callNext_26 ⟨Nat.zero_le _, Nat.zero_le _⟩ (fun H locs hG => ?_)
    have hz := Option.some.inj hf
    have z0 := (Prod.mk.inj hz).1
    replace hz := (Prod.mk.inj hz).2
    have z1 := hz
    exact x_iret hx hb hr hlk hK hG z0 (by rw [z1]) dX0_callNext_29
  unfold f_X0_callNext at hf
  refine lv_aload_n hx hb dX0_callNext_0 rfl (lv_at hl 0 rfl) ?_
  refine x_get (C := RX0) (T := TX0) (N := 17) (ci := 0) hx hb hts iX0 hown hK hG 0 rfl rfl 1 (by decide) k59 (v := .int (uh.turn)) rfl dX0_callNext_1 ?_
  refine lv_topi (fun y5 ey5 => ?_)
  replace hf := bnd_at ey5 hf
  refine lv_istore_n (lv' := [(1, .int y5), (0, .ref (a 0))]) hx hb dX0_callNext_4 rfl hl (by decide) rfl (fun ls hl => ?_)
  refine lv_aload_n hx hb dX0_callNext_5 rfl (lv_at hl 1 rfl) ?_
  refine lv_iload_n hx hb dX0_callNext_6 rfl (lv_at hl 0 rfl) ?_
  refine lv_iconst (v := 1) hx hb dX0_callNext_7 (by decide) ?_
  refine lv_iadd hx hb dX0_callNext_8 ?_
  refine lv_bipush (v := 6) hx hb dX0_callNext_9 (by decide) ?_
  refine lv_icmp_ge (tgt := 20) hx hb dX0_callNext_11 (by decide) (fun c6 => ?_) (fun c6 => ?_)
  · replace hf := if_t c6 hf
    refine lv_iconst (v := 0) hx hb dX0_callNext_20 (by decide) ?_
    exact L21   y5 0 uh hf H locs ls hG (lv_sub hl [1, 0] rfl)
  · replace hf := if_f c6 hf
    refine lv_iload_n hx hb dX0_callNext_14 rfl (lv_at hl 0 rfl) ?_
    refine lv_iconst (v := 1) hx hb dX0_callNext_15 (by decide) ?_
    refine lv_iadd hx hb dX0_callNext_16 ?_
    refine lv_goto (tgt := 21) hx hb dX0_callNext_17 (by decide) ?_
    exact L21   y5 (y5 + 1) uh hf H locs ls hG (lv_sub hl [1, 0] rfl)
set_option maxRecDepth 100000 in
set_option maxHeartbeats 4000000 in
theorem c_X0_moveLeast (l : Launch) (D : va_G) (κ : Nat → ClassId) (a : Nat → Nat) (sz : Nat) (p1 : Int32) (p2 : Int32) (uh : HS) (r' : Int32) (uh' : HS) (hf : f_X0_moveLeast p1 p2 uh = some (r', uh')) : Met l yX0_moveLeast wsX0_moveLeast ({ frames := 4, cells := 0, slots := 0, locals := 96 } : Room) (xPc D κ [.ref (a 0), .int p1, .int p2] (WH κ a uh) sz) (xQi D κ r' (WH κ a uh') (va_A (WH κ a uh) sz)) 0 0 (va_A (WH κ a uh) sz) := by
  refine x_ofW (cc := cX0_moveLeast) (maxL := 4) (ret := (some .int)) (Qf := fun A => xQi D κ r' (WH κ a uh') A) (by decide) rfl (Nat.le_of_ble_eq_true rfl) ?_
  intro p e s m below meth c hx hb hr hlk hml hown hts hK A hA H locs hG ls hl
  have hown : s.vm.findClass RX0 = some m.cls := hown
  have hl : lv_has ls 4 [(0, .ref (a 0)), (1, .int p1), (2, .int p2)] := hl
  have L21 : ∀ (x3 : Int32) (uh : HS), f_X0_moveLeast_21 x3 uh = some (r', uh') → ∀ (H : Heap) (locs : List Loc) (ls : Array Slot), xG D A s.heap (WH κ a uh) H locs → lv_has ls 4 [(0, .ref (a 0)), (3, .int x3)] → W p l e ({ frames := 4, cells := 0, slots := 0, locals := 96 } : Room) s m (([.ref (a 0), .int p1, .int p2] : List Value).toArray) below meth c H locs 0 0 (MQ below (xQi D κ r' (WH κ a uh') A) (([.ref (a 0), .int p1, .int p2] : List Value).toArray) s 0 0 A) (F0 m 21 ls []) := by
    intro  x3 uh hf H locs ls hG hl
    unfold f_X0_moveLeast_21 at hf
    refine lv_aload_n hx hb dX0_moveLeast_21 rfl (lv_at hl 0 rfl) ?_
    obtain ⟨uh1, q2, hf⟩ := cl1_e hf
    refine x_callVv (pre := ([] : va_W)) (wc := WH κ a uh) (wc1 := WH κ a uh1) (post := ([] : va_W)) (As := []) (rest := []) (w1 := WH κ a uh1) ⟨hx, hb, hml, hown, hts⟩ hK hG hA (by simp only [List.append_assoc, List.nil_append, List.append_nil]) (by simp only [List.append_assoc, List.nil_append, List.append_nil]) (c_X0_sweep l D κ a H.size uh uh1 q2) (cwV 0 hts gX0_moveLeast_X0_sweep rfl rfl rfl (by decide +kernel) ⟨Nat.le_of_ble_eq_true rfl, Nat.le_of_ble_eq_true rfl⟩) 0 0 rfl rfl rfl rfl hl.1 rfl (Nat.le_of_ble_eq_true rfl) dX0_moveLeast_22 ⟨Nat.zero_le _, Nat.zero_le _⟩ (fun H locs hG => ?_)
    refine lv_iload_n hx hb dX0_moveLeast_25 rfl (lv_at hl 1 rfl) ?_
    have hz := Option.some.inj hf
    have z0 := (Prod.mk.inj hz).1
    replace hz := (Prod.mk.inj hz).2
    have z1 := hz
    exact x_iret hx hb hr hlk hK hG z0 (by rw [z1]) dX0_moveLeast_26
  unfold f_X0_moveLeast at hf
  refine lv_aload_n hx hb dX0_moveLeast_0 rfl (lv_at hl 0 rfl) ?_
  refine lv_iload_n hx hb dX0_moveLeast_1 rfl (lv_at hl 1 rfl) ?_
  obtain ⟨r3, uh4, q5, hf⟩ := cl2_e hf
  refine x_callVi (pre := ([] : va_W)) (wc := WH κ a uh) (wc1 := WH κ a uh4) (post := ([] : va_W)) (As := [.int p1]) (rest := []) (w1 := WH κ a uh4) ⟨hx, hb, hml, hown, hts⟩ hK hG hA (by simp only [List.append_assoc, List.nil_append, List.append_nil]) (by simp only [List.append_assoc, List.nil_append, List.append_nil]) (c_X0_takeRoot l D κ a H.size p1 uh r3 uh4 q5) (cwV 1 hts gX0_moveLeast_X0_takeRoot rfl rfl rfl (by decide +kernel) ⟨Nat.le_of_ble_eq_true rfl, Nat.le_of_ble_eq_true rfl⟩) 0 0 rfl rfl rfl rfl hl.1 rfl (Nat.le_of_ble_eq_true rfl) dX0_moveLeast_2 ⟨Nat.zero_le _, Nat.zero_le _⟩ (fun H locs hG => ?_)
  refine lv_istore_n (lv' := [(3, .int r3), (0, .ref (a 0)), (1, .int p1), (2, .int p2)]) hx hb dX0_moveLeast_5 rfl hl (by decide) rfl (fun ls hl => ?_)
  refine lv_aload_n hx hb dX0_moveLeast_6 rfl (lv_at hl 1 rfl) ?_
  obtain ⟨uh6, q7, hf⟩ := cl1_e hf
  refine x_callVv (pre := ([] : va_W)) (wc := WH κ a uh4) (wc1 := WH κ a uh6) (post := ([] : va_W)) (As := []) (rest := []) (w1 := WH κ a uh6) ⟨hx, hb, hml, hown, hts⟩ hK hG hA (by simp only [List.append_assoc, List.nil_append, List.append_nil]) (by simp only [List.append_assoc, List.nil_append, List.append_nil]) (c_X0_sweep l D κ a H.size uh4 uh6 q7) (cwV 0 hts gX0_moveLeast_X0_sweep rfl rfl rfl (by decide +kernel) ⟨Nat.le_of_ble_eq_true rfl, Nat.le_of_ble_eq_true rfl⟩) 0 0 rfl rfl rfl rfl hl.1 rfl (Nat.le_of_ble_eq_true rfl) dX0_moveLeast_7 ⟨Nat.zero_le _, Nat.zero_le _⟩ (fun H locs hG => ?_)
  refine lv_iload_n hx hb dX0_moveLeast_10 rfl (lv_at hl 0 rfl) ?_
  refine lv_iconst (v := (-1)) hx hb dX0_moveLeast_11 (by decide) ?_
  refine lv_icmp_eq (tgt := 21) hx hb dX0_moveLeast_12 (by decide) (fun c8 => ?_) (fun c8 => ?_)
  · replace hf := if_t c8 hf
    exact L21   r3 uh6 hf H locs ls hG (lv_sub hl [1, 0] rfl)
  · replace hf := if_f c8 hf
    refine lv_aload_n hx hb dX0_moveLeast_15 rfl (lv_at hl 1 rfl) ?_
    refine lv_iload_n hx hb dX0_moveLeast_16 rfl (lv_at hl 0 rfl) ?_
    refine lv_iload_n hx hb dX0_moveLeast_17 rfl (lv_at hl 3 rfl) ?_
    obtain ⟨uh9, q10, hf⟩ := cl1_e hf
    refine x_callVv (pre := ([] : va_W)) (wc := WH κ a uh6) (wc1 := WH κ a uh9) (post := ([] : va_W)) (As := [.int r3, .int p2]) (rest := []) (w1 := WH κ a uh9) ⟨hx, hb, hml, hown, hts⟩ hK hG hA (by simp only [List.append_assoc, List.nil_append, List.append_nil]) (by simp only [List.append_assoc, List.nil_append, List.append_nil]) (c_X0_place l D κ a H.size r3 p2 uh6 uh9 q10) (cwV 2 hts gX0_moveLeast_X0_place rfl rfl rfl (by decide +kernel) ⟨Nat.le_of_ble_eq_true rfl, Nat.le_of_ble_eq_true rfl⟩) 0 0 rfl rfl rfl rfl hl.1 rfl (Nat.le_of_ble_eq_true rfl) dX0_moveLeast_18 ⟨Nat.zero_le _, Nat.zero_le _⟩ (fun H locs hG => ?_)
    exact L21   r3 uh9 hf H locs ls hG (lv_sub hl [1, 0] rfl)
set_option maxRecDepth 100000 in
set_option maxHeartbeats 4000000 in
theorem c_X0_cutOut (l : Launch) (D : va_G) (κ : Nat → ClassId) (a : Nat → Nat) (sz : Nat) (p1 : Int32) (uh : HS)  (uh' : HS) (hf : f_X0_cutOut p1 uh = some (uh')) : Met l yX0_cutOut wsX0_cutOut ({ frames := 2, cells := 0, slots := 0, locals := 52 } : Room) (xPc D κ [.ref (a 0), .int p1] (WH κ a uh) sz) (xQv D κ (WH κ a uh') (va_A (WH κ a uh) sz)) 0 0 (va_A (WH κ a uh) sz) := by
  refine x_ofW (cc := cX0_cutOut) (maxL := 5) (ret := none) (Qf := fun A => xQv D κ (WH κ a uh') A) (by decide) rfl (Nat.le_of_ble_eq_true rfl) ?_
  intro p e s m below meth c hx hb hr hlk hml hown hts hK A hA H locs hG ls hl
  have hown : s.vm.findClass RX0 = some m.cls := hown
  have hl : lv_has ls 5 [(0, .ref (a 0)), (1, .int p1)] := hl
  have iX0 : ∀ w ∈ u_ws RX0 TX0 17, w ∈ wsX0_cutOut := fun _ h => List.mem_cons_of_mem _ (List.mem_append_right _ h)
  have k28 := hts (.fieldLink RX0 28 "SpineDesks$Hall" "deskOf" "[I") (List.mem_of_getElem? (i := 5) rfl)
  have k34 := hts (.fieldLink RX0 34 "SpineDesks$Hall" "left" "[I") (List.mem_of_getElem? (i := 2) rfl)
  have k37 := hts (.fieldLink RX0 37 "SpineDesks$Hall" "right" "[I") (List.mem_of_getElem? (i := 3) rfl)
  have k40 := hts (.fieldLink RX0 40 "SpineDesks$Hall" "up" "[I") (List.mem_of_getElem? (i := 1) rfl)
  have k9 := hts (.fieldLink RX0 9 "SpineDesks$Hall" "root" "[I") (List.mem_of_getElem? (i := 4) rfl)
  have L93 : ∀ (n : Nat), ∀ (x2 : Int32) (x4 : Int32) (uh : HS), f_X0_cutOut_93 n x2 x4 uh = some (uh') → ∀ (H : Heap) (locs : List Loc) (ls : Array Slot), xG D A s.heap (WH κ a uh) H locs → lv_has ls 5 [(0, .ref (a 0)), (2, .int x2), (4, .int x4)] → W p l e ({ frames := 2, cells := 0, slots := 0, locals := 52 } : Room) s m (([.ref (a 0), .int p1] : List Value).toArray) below meth c H locs 0 0 (MQ below (xQv D κ (WH κ a uh') A) (([.ref (a 0), .int p1] : List Value).toArray) s 0 0 A) (F0 m 93 ls []) := by
    intro  n
    induction n with
    | zero => intro x2 x4 uh hf; cases hf
    | succ n ih =>
      intro x2 x4 uh hf H locs ls hG hl
      replace hf : f_X0_cutOut_B93 (f_X0_cutOut_93 n) x2 x4 uh = some (uh') := hf
      unfold f_X0_cutOut_B93 at hf
      refine lv_iload hx hb dX0_cutOut_93 (lv_at hl 2 rfl) ?_
      refine lv_sipush (v := 300) hx hb dX0_cutOut_95 (by decide) ?_
      refine lv_icmp_ge (tgt := 124) hx hb dX0_cutOut_98 (by decide) (fun c1 => ?_) (fun c1 => ?_)
      · replace hf := if_t c1 hf
        have z0 := Option.some.inj hf
        exact x_vret hx hb hr hlk hK hG (by rw [z0]) dX0_cutOut_124
      · replace hf := if_f c1 hf
        refine lv_iload_n hx hb dX0_cutOut_101 rfl (lv_at hl 1 rfl) ?_
        refine lv_iconst (v := (-1)) hx hb dX0_cutOut_102 (by decide) ?_
        refine lv_icmp_eq (tgt := 124) hx hb dX0_cutOut_103 (by decide) (fun c2 => ?_) (fun c2 => ?_)
        · replace hf := if_t c2 hf
          have z0 := Option.some.inj hf
          exact x_vret hx hb hr hlk hK hG (by rw [z0]) dX0_cutOut_124
        · replace hf := if_f c2 hf
          refine lv_aload_n hx hb dX0_cutOut_106 rfl (lv_at hl 0 rfl) ?_
          refine lv_iload_n hx hb dX0_cutOut_107 rfl (lv_at hl 1 rfl) ?_
          obtain ⟨uh3, q4, hf⟩ := cl1_e hf
          refine x_callVv (pre := ([] : va_W)) (wc := WH κ a uh) (wc1 := WH κ a uh3) (post := ([] : va_W)) (As := [.int x2]) (rest := []) (w1 := WH κ a uh3) ⟨hx, hb, hml, hown, hts⟩ hK hG hA (by simp only [List.append_assoc, List.nil_append, List.append_nil]) (by simp only [List.append_assoc, List.nil_append, List.append_nil]) (c_X0_settle l D κ a H.size x2 uh uh3 q4) (cwV 1 hts gX0_cutOut_X0_settle rfl rfl rfl (by decide +kernel) ⟨Nat.le_of_ble_eq_true rfl, Nat.le_of_ble_eq_true rfl⟩) 0 0 rfl rfl rfl rfl hl.1 rfl (Nat.le_of_ble_eq_true rfl) dX0_cutOut_108 ⟨Nat.zero_le _, Nat.zero_le _⟩ (fun H locs hG => ?_)
          refine lv_aload_n hx hb dX0_cutOut_111 rfl (lv_at hl 0 rfl) ?_
          refine x_get (C := RX0) (T := TX0) (N := 17) (ci := 0) hx hb hts iX0 hown hK hG 0 rfl rfl 12 (by decide) k40 (v := .ref (a 8)) rfl dX0_cutOut_112 ?_
          refine lv_iload_n hx hb dX0_cutOut_115 rfl (lv_at hl 1 rfl) ?_
          obtain ⟨v5, ev5, hin, hf⟩ := ck_e hf
          refine x_iald hx hb hK hG 8 rfl ev5 hin dX0_cutOut_116 ?_
          refine lv_istore_n (lv' := [(2, .int v5), (0, .ref (a 0)), (4, .int x4)]) hx hb dX0_cutOut_117 rfl hl (by decide) rfl (fun ls hl => ?_)
          obtain ⟨y6, ey6, hf⟩ := bnd_e hf
          refine lv_iinc (v := y6) (lv' := [(4, .int y6), (2, .int v5), (0, .ref (a 0))]) hx hb dX0_cutOut_118 hl (k := 2) rfl (by rw [ey6]; rfl) (by decide) rfl (fun ls hl => ?_)
          refine lv_goto (tgt := 93) hx hb dX0_cutOut_121 (by decide) ?_
          exact ih v5 y6 uh3 hf H locs ls hG (lv_sub hl [2, 1, 0] rfl)
  have L83 : ∀ (x1 : Int32) (x2 : Int32) (uh : HS), f_X0_cutOut_83 x1 x2 uh = some (uh') → ∀ (H : Heap) (locs : List Loc) (ls : Array Slot), xG D A s.heap (WH κ a uh) H locs → lv_has ls 5 [(0, .ref (a 0)), (1, .int x1), (2, .int x2)] → W p l e ({ frames := 2, cells := 0, slots := 0, locals := 52 } : Room) s m (([.ref (a 0), .int p1] : List Value).toArray) below meth c H locs 0 0 (MQ below (xQv D κ (WH κ a uh') A) (([.ref (a 0), .int p1] : List Value).toArray) s 0 0 A) (F0 m 83 ls []) := by
    intro  x1 x2 uh hf H locs ls hG hl
    unfold f_X0_cutOut_83 at hf
    refine lv_aload_n hx hb dX0_cutOut_83 rfl (lv_at hl 0 rfl) ?_
    refine x_get (C := RX0) (T := TX0) (N := 17) (ci := 0) hx hb hts iX0 hown hK hG 0 rfl rfl 8 (by decide) k28 (v := .ref (a 4)) rfl dX0_cutOut_84 ?_
    refine lv_iload_n hx hb dX0_cutOut_87 rfl (lv_at hl 1 rfl) ?_
    refine lv_iconst (v := (-1)) hx hb dX0_cutOut_88 (by decide) ?_
    obtain ⟨uh7, euh7, hin, hf⟩ := ck_e hf
    refine x_iast hx hb hK hG 4 rfl (w1 := WH κ a uh7) (by rw [euh7]; rfl) hin dX0_cutOut_89 (fun H locs hG => ?_)
    refine lv_iconst (v := 0) hx hb dX0_cutOut_90 (by decide) ?_
    refine lv_istore (lv' := [(4, .int 0), (0, .ref (a 0)), (1, .int x1), (2, .int x2)]) hx hb dX0_cutOut_91 hl (by decide) rfl (fun ls hl => ?_)
    exact L93  FU x2 0 uh7 hf H locs ls hG (lv_sub hl [1, 3, 0] rfl)
  have L71 : ∀ (x1 : Int32) (x2 : Int32) (x3 : Int32) (uh : HS), f_X0_cutOut_71 x1 x2 x3 uh = some (uh') → ∀ (H : Heap) (locs : List Loc) (ls : Array Slot), xG D A s.heap (WH κ a uh) H locs → lv_has ls 5 [(0, .ref (a 0)), (1, .int x1), (2, .int x2), (3, .int x3)] → W p l e ({ frames := 2, cells := 0, slots := 0, locals := 52 } : Room) s m (([.ref (a 0), .int p1] : List Value).toArray) below meth c H locs 0 0 (MQ below (xQv D κ (WH κ a uh') A) (([.ref (a 0), .int p1] : List Value).toArray) s 0 0 A) (F0 m 71 ls []) := by
    intro  x1 x2 x3 uh hf H locs ls hG hl
    unfold f_X0_cutOut_71 at hf
    refine lv_iload_n hx hb dX0_cutOut_71 rfl (lv_at hl 3 rfl) ?_
    refine lv_iconst (v := (-1)) hx hb dX0_cutOut_72 (by decide) ?_
    refine lv_icmp_eq (tgt := 83) hx hb dX0_cutOut_73 (by decide) (fun c8 => ?_) (fun c8 => ?_)
    · replace hf := if_t c8 hf
      exact L83   x1 x2 uh hf H locs ls hG (lv_sub hl [0, 1, 2] rfl)
    · replace hf := if_f c8 hf
      refine lv_aload_n hx hb dX0_cutOut_76 rfl (lv_at hl 0 rfl) ?_
      refine x_get (C := RX0) (T := TX0) (N := 17) (ci := 0) hx hb hts iX0 hown hK hG 0 rfl rfl 12 (by decide) k40 (v := .ref (a 8)) rfl dX0_cutOut_77 ?_
      refine lv_iload_n hx hb dX0_cutOut_80 rfl (lv_at hl 3 rfl) ?_
      refine lv_iload_n hx hb dX0_cutOut_81 rfl (lv_at hl 2 rfl) ?_
      obtain ⟨uh9, euh9, hin, hf⟩ := ck_e hf
      refine x_iast hx hb hK hG 8 rfl (w1 := WH κ a uh9) (by rw [euh9]; rfl) hin dX0_cutOut_82 (fun H locs hG => ?_)
      exact L83   x1 x2 uh9 hf H locs ls hG (lv_sub hl [0, 1, 2] rfl)
  unfold f_X0_cutOut at hf
  refine lv_aload_n hx hb dX0_cutOut_0 rfl (lv_at hl 0 rfl) ?_
  refine x_get (C := RX0) (T := TX0) (N := 17) (ci := 0) hx hb hts iX0 hown hK hG 0 rfl rfl 12 (by decide) k40 (v := .ref (a 8)) rfl dX0_cutOut_1 ?_
  refine lv_iload_n hx hb dX0_cutOut_4 rfl (lv_at hl 1 rfl) ?_
  obtain ⟨v10, ev10, hin, hf⟩ := ck_e hf
  refine x_iald hx hb hK hG 8 rfl ev10 hin dX0_cutOut_5 ?_
  refine lv_istore_n (lv' := [(2, .int v10), (0, .ref (a 0)), (1, .int p1)]) hx hb dX0_cutOut_6 rfl hl (by decide) rfl (fun ls hl => ?_)
  refine lv_aload_n hx hb dX0_cutOut_7 rfl (lv_at hl 1 rfl) ?_
  refine lv_aload_n hx hb dX0_cutOut_8 rfl (lv_at hl 1 rfl) ?_
  refine x_get (C := RX0) (T := TX0) (N := 17) (ci := 0) hx hb hts iX0 hown hK hG 0 rfl rfl 10 (by decide) k34 (v := .ref (a 6)) rfl dX0_cutOut_9 ?_
  refine lv_iload_n hx hb dX0_cutOut_12 rfl (lv_at hl 2 rfl) ?_
  obtain ⟨v11, ev11, hin, hf⟩ := ck_e hf
  refine x_iald hx hb hK hG 6 rfl ev11 hin dX0_cutOut_13 ?_
  refine lv_aload_n hx hb dX0_cutOut_14 rfl (lv_at hl 1 rfl) ?_
  refine x_get (C := RX0) (T := TX0) (N := 17) (ci := 0) hx hb hts iX0 hown hK hG 0 rfl rfl 11 (by decide) k37 (v := .ref (a 7)) rfl dX0_cutOut_15 ?_
  refine lv_iload_n hx hb dX0_cutOut_18 rfl (lv_at hl 2 rfl) ?_
  obtain ⟨v12, ev12, hin, hf⟩ := ck_e hf
  refine x_iald hx hb hK hG 7 rfl ev12 hin dX0_cutOut_19 ?_
  obtain ⟨r13, uh14, q15, hf⟩ := cl2_e hf
  refine x_callVi (pre := ([] : va_W)) (wc := WH κ a uh) (wc1 := WH κ a uh14) (post := ([] : va_W)) (As := [.int v11, .int v12]) (rest := []) (w1 := WH κ a uh14) ⟨hx, hb, hml, hown, hts⟩ hK hG hA (by simp only [List.append_assoc, List.nil_append, List.append_nil]) (by simp only [List.append_assoc, List.nil_append, List.append_nil]) (c_X0_join l D κ a H.size v11 v12 uh r13 uh14 q15) (cwV 2 hts gX0_cutOut_X0_join rfl rfl rfl (by decide +kernel) ⟨Nat.le_of_ble_eq_true rfl, Nat.le_of_ble_eq_true rfl⟩) 0 0 rfl rfl rfl rfl hl.1 rfl (Nat.le_of_ble_eq_true rfl) dX0_cutOut_20 ⟨Nat.zero_le _, Nat.zero_le _⟩ (fun H locs hG => ?_)
  refine lv_istore_n (lv' := [(3, .int r13), (2, .int v10), (0, .ref (a 0)), (1, .int p1)]) hx hb dX0_cutOut_23 rfl hl (by decide) rfl (fun ls hl => ?_)
  refine lv_iload_n hx hb dX0_cutOut_24 rfl (lv_at hl 1 rfl) ?_
  refine lv_iconst (v := (-1)) hx hb dX0_cutOut_25 (by decide) ?_
  refine lv_icmp_ne (tgt := 44) hx hb dX0_cutOut_26 (by decide) (fun c16 => ?_) (fun c16 => ?_)
  · replace hf := if_f c16 hf
    refine lv_aload_n hx hb dX0_cutOut_44 rfl (lv_at hl 2 rfl) ?_
    refine x_get (C := RX0) (T := TX0) (N := 17) (ci := 0) hx hb hts iX0 hown hK hG 0 rfl rfl 10 (by decide) k34 (v := .ref (a 6)) rfl dX0_cutOut_45 ?_
    refine lv_iload_n hx hb dX0_cutOut_48 rfl (lv_at hl 1 rfl) ?_
    obtain ⟨v17, ev17, hin, hf⟩ := ck_e hf
    refine x_iald hx hb hK hG 6 rfl ev17 hin dX0_cutOut_49 ?_
    refine lv_iload_n hx hb dX0_cutOut_50 rfl (lv_at hl 3 rfl) ?_
    refine lv_icmp_ne (tgt := 64) hx hb dX0_cutOut_51 (by decide) (fun c18 => ?_) (fun c18 => ?_)
    · replace hf := if_f c18 hf
      refine lv_aload_n hx hb dX0_cutOut_64 rfl (lv_at hl 2 rfl) ?_
      refine x_get (C := RX0) (T := TX0) (N := 17) (ci := 0) hx hb hts iX0 hown hK hG 0 rfl rfl 11 (by decide) k37 (v := .ref (a 7)) rfl dX0_cutOut_65 ?_
      refine lv_iload_n hx hb dX0_cutOut_68 rfl (lv_at hl 1 rfl) ?_
      refine lv_iload_n hx hb dX0_cutOut_69 rfl (lv_at hl 0 rfl) ?_
      obtain ⟨uh19, euh19, hin, hf⟩ := ck_e hf
      refine x_iast hx hb hK hG 7 rfl (w1 := WH κ a uh19) (by rw [euh19]; rfl) hin dX0_cutOut_70 (fun H locs hG => ?_)
      exact L71   p1 v10 r13 uh19 hf H locs ls hG (lv_sub hl [2, 3, 1, 0] rfl)
    · replace hf := if_t c18 hf
      refine lv_aload_n hx hb dX0_cutOut_54 rfl (lv_at hl 2 rfl) ?_
      refine x_get (C := RX0) (T := TX0) (N := 17) (ci := 0) hx hb hts iX0 hown hK hG 0 rfl rfl 10 (by decide) k34 (v := .ref (a 6)) rfl dX0_cutOut_55 ?_
      refine lv_iload_n hx hb dX0_cutOut_58 rfl (lv_at hl 1 rfl) ?_
      refine lv_iload_n hx hb dX0_cutOut_59 rfl (lv_at hl 0 rfl) ?_
      obtain ⟨uh20, euh20, hin, hf⟩ := ck_e hf
      refine x_iast hx hb hK hG 6 rfl (w1 := WH κ a uh20) (by rw [euh20]; rfl) hin dX0_cutOut_60 (fun H locs hG => ?_)
      refine lv_goto (tgt := 71) hx hb dX0_cutOut_61 (by decide) ?_
      exact L71   p1 v10 r13 uh20 hf H locs ls hG (lv_sub hl [2, 3, 1, 0] rfl)
  · replace hf := if_t c16 hf
    refine lv_aload_n hx hb dX0_cutOut_29 rfl (lv_at hl 2 rfl) ?_
    refine x_get (C := RX0) (T := TX0) (N := 17) (ci := 0) hx hb hts iX0 hown hK hG 0 rfl rfl 5 (by decide) k9 (v := .ref (a 1)) rfl dX0_cutOut_30 ?_
    refine lv_aload_n hx hb dX0_cutOut_33 rfl (lv_at hl 2 rfl) ?_
    refine x_get (C := RX0) (T := TX0) (N := 17) (ci := 0) hx hb hts iX0 hown hK hG 0 rfl rfl 8 (by decide) k28 (v := .ref (a 4)) rfl dX0_cutOut_34 ?_
    refine lv_iload_n hx hb dX0_cutOut_37 rfl (lv_at hl 3 rfl) ?_
    obtain ⟨v21, ev21, hin, hf⟩ := ck_e hf
    refine x_iald hx hb hK hG 4 rfl ev21 hin dX0_cutOut_38 ?_
    refine lv_iload_n hx hb dX0_cutOut_39 rfl (lv_at hl 0 rfl) ?_
    obtain ⟨uh22, euh22, hin, hf⟩ := ck_e hf
    refine x_iast hx hb hK hG 1 rfl (w1 := WH κ a uh22) (by rw [euh22]; rfl) hin dX0_cutOut_40 (fun H locs hG => ?_)
    refine lv_goto (tgt := 71) hx hb dX0_cutOut_41 (by decide) ?_
    exact L71   p1 v10 r13 uh22 hf H locs ls hG (lv_sub hl [2, 3, 1, 0] rfl)
set_option maxRecDepth 100000 in
set_option maxHeartbeats 4000000 in
theorem c_X0_raiseAll (l : Launch) (D : va_G) (κ : Nat → ClassId) (a : Nat → Nat) (sz : Nat) (p1 : Int32) (p2 : Int32) (uh : HS)  (uh' : HS) (hf : f_X0_raiseAll p1 p2 uh = some (uh')) : Met l yX0_raiseAll wsX0_raiseAll ({ frames := 0, cells := 0, slots := 0, locals := 0 } : Room) (xPc D κ [.ref (a 0), .int p1, .int p2] (WH κ a uh) sz) (xQv D κ (WH κ a uh') (va_A (WH κ a uh) sz)) 0 0 (va_A (WH κ a uh) sz) := by
  refine x_ofW (cc := cX0_raiseAll) (maxL := 4) (ret := none) (Qf := fun A => xQv D κ (WH κ a uh') A) (by decide) rfl (Nat.le_of_ble_eq_true rfl) ?_
  intro p e s m below meth c hx hb hr hlk hml hown hts hK A hA H locs hG ls hl
  have hown : s.vm.findClass RX0 = some m.cls := hown
  have hl : lv_has ls 4 [(0, .ref (a 0)), (1, .int p1), (2, .int p2)] := hl
  have iX0 : ∀ w ∈ u_ws RX0 TX0 17, w ∈ wsX0_raiseAll := fun _ h => List.mem_cons_of_mem _ (List.mem_append_right _ h)
  have k21 := hts (.fieldLink RX0 21 "SpineDesks$Hall" "keyOf" "[J") (List.mem_of_getElem? (i := 3) rfl)
  have k28 := hts (.fieldLink RX0 28 "SpineDesks$Hall" "deskOf" "[I") (List.mem_of_getElem? (i := 2) rfl)
  have k55 := hts (.fieldLink RX0 55 "SpineDesks$Hall" "came" "I") (List.mem_of_getElem? (i := 1) rfl)
  have L31 : ∀ (rec2 : Int32 → Int32 → Int32 → HS → Option (HS)) (hr2 : ∀ (y1 : Int32) (y2 : Int32) (y3 : Int32) (uh : HS), rec2 y1 y2 y3 uh = some (uh') → ∀ (H : Heap) (locs : List Loc) (ls : Array Slot), xG D A s.heap (WH κ a uh) H locs → lv_has ls 4 [(0, .ref (a 0)), (1, .int y1), (2, .int y2), (3, .int y3)] → W p l e ({ frames := 0, cells := 0, slots := 0, locals := 0 } : Room) s m (([.ref (a 0), .int p1, .int p2] : List Value).toArray) below meth c H locs 0 0 (MQ below (xQv D κ (WH κ a uh') A) (([.ref (a 0), .int p1, .int p2] : List Value).toArray) s 0 0 A) (F0 m 2 ls [])), ∀ (x1 : Int32) (x2 : Int32) (x3 : Int32) (uh : HS), f_X0_raiseAll_31 rec2 x1 x2 x3 uh = some (uh') → ∀ (H : Heap) (locs : List Loc) (ls : Array Slot), xG D A s.heap (WH κ a uh) H locs → lv_has ls 4 [(0, .ref (a 0)), (1, .int x1), (2, .int x2), (3, .int x3)] → W p l e ({ frames := 0, cells := 0, slots := 0, locals := 0 } : Room) s m (([.ref (a 0), .int p1, .int p2] : List Value).toArray) below meth c H locs 0 0 (MQ below (xQv D κ (WH κ a uh') A) (([.ref (a 0), .int p1, .int p2] : List Value).toArray) s 0 0 A) (F0 m 31 ls []) := by
    intro rec2 hr2 x1 x2 x3 uh hf H locs ls hG hl
    unfold f_X0_raiseAll_31 at hf
    obtain ⟨y1, ey1, hf⟩ := bnd_e hf
    refine lv_iinc (v := y1) (lv' := [(3, .int y1), (0, .ref (a 0)), (1, .int x1), (2, .int x2)]) hx hb dX0_raiseAll_31 hl (k := 3) rfl (by rw [ey1]; rfl) (by decide) rfl (fun ls hl => ?_)
    refine lv_goto (tgt := 2) hx hb dX0_raiseAll_34 (by decide) ?_
    exact hr2 x1 x2 y1 uh hf H locs ls hG (lv_sub hl [1, 2, 3, 0] rfl)
  have L2 : ∀ (n : Nat), ∀ (x1 : Int32) (x2 : Int32) (x3 : Int32) (uh : HS), f_X0_raiseAll_2 n x1 x2 x3 uh = some (uh') → ∀ (H : Heap) (locs : List Loc) (ls : Array Slot), xG D A s.heap (WH κ a uh) H locs → lv_has ls 4 [(0, .ref (a 0)), (1, .int x1), (2, .int x2), (3, .int x3)] → W p l e ({ frames := 0, cells := 0, slots := 0, locals := 0 } : Room) s m (([.ref (a 0), .int p1, .int p2] : List Value).toArray) below meth c H locs 0 0 (MQ below (xQv D κ (WH κ a uh') A) (([.ref (a 0), .int p1, .int p2] : List Value).toArray) s 0 0 A) (F0 m 2 ls []) := by
    intro  n
    induction n with
    | zero => intro x1 x2 x3 uh hf; cases hf
    | succ n ih =>
      intro x1 x2 x3 uh hf H locs ls hG hl
      replace hf : f_X0_raiseAll_B2 (f_X0_raiseAll_2 n) x1 x2 x3 uh = some (uh') := hf
      unfold f_X0_raiseAll_B2 at hf
      refine lv_iload_n hx hb dX0_raiseAll_2 rfl (lv_at hl 3 rfl) ?_
      refine lv_aload_n hx hb dX0_raiseAll_3 rfl (lv_at hl 0 rfl) ?_
      refine x_get (C := RX0) (T := TX0) (N := 17) (ci := 0) hx hb hts iX0 hown hK hG 0 rfl rfl 0 (by decide) k55 (v := .int (uh.came)) rfl dX0_raiseAll_4 ?_
      refine lv_icmp_ge (tgt := 37) hx hb dX0_raiseAll_7 (by decide) (fun c2 => ?_) (fun c2 => ?_)
      · replace hf := if_t c2 hf
        have z0 := Option.some.inj hf
        exact x_vret hx hb hr hlk hK hG (by rw [z0]) dX0_raiseAll_37
      · replace hf := if_f c2 hf
        refine lv_aload_n hx hb dX0_raiseAll_10 rfl (lv_at hl 0 rfl) ?_
        refine x_get (C := RX0) (T := TX0) (N := 17) (ci := 0) hx hb hts iX0 hown hK hG 0 rfl rfl 8 (by decide) k28 (v := .ref (a 4)) rfl dX0_raiseAll_11 ?_
        refine lv_iload_n hx hb dX0_raiseAll_14 rfl (lv_at hl 3 rfl) ?_
        obtain ⟨v3, ev3, hin, hf⟩ := ck_e hf
        refine x_iald hx hb hK hG 4 rfl ev3 hin dX0_raiseAll_15 ?_
        refine lv_iload_n hx hb dX0_raiseAll_16 rfl (lv_at hl 1 rfl) ?_
        refine lv_icmp_ne (tgt := 31) hx hb dX0_raiseAll_17 (by decide) (fun c4 => ?_) (fun c4 => ?_)
        · replace hf := if_f c4 hf
          exact L31 (f_X0_raiseAll_2 n) ih  x1 x2 x3 uh hf H locs ls hG (lv_sub hl [0, 1, 2, 3] rfl)
        · replace hf := if_t c4 hf
          refine lv_aload_n hx hb dX0_raiseAll_20 rfl (lv_at hl 0 rfl) ?_
          refine x_get (C := RX0) (T := TX0) (N := 17) (ci := 0) hx hb hts iX0 hown hK hG 0 rfl rfl 6 (by decide) k21 (v := .ref (a 2)) rfl dX0_raiseAll_21 ?_
          refine lv_iload_n hx hb dX0_raiseAll_24 rfl (lv_at hl 3 rfl) ?_
          refine lv_dup2_11 hx hb dX0_raiseAll_25 rfl rfl ?_
          obtain ⟨v5, ev5, hin, hf⟩ := ck_e hf
          refine x_lald hx hb hK hG 2 rfl ev5 hin dX0_raiseAll_26 ?_
          refine lv_iload_n hx hb dX0_raiseAll_27 rfl (lv_at hl 2 rfl) ?_
          refine lv_i2l hx hb dX0_raiseAll_28 rfl ?_
          refine lv_ladd hx hb dX0_raiseAll_29 ?_
          obtain ⟨uh6, euh6, hin, hf⟩ := ck_e hf
          refine x_last hx hb hK hG 2 rfl (w1 := WH κ a uh6) (by rw [euh6]; rfl) hin dX0_raiseAll_30 (fun H locs hG => ?_)
          exact L31 (f_X0_raiseAll_2 n) ih  x1 x2 x3 uh6 hf H locs ls hG (lv_sub hl [0, 1, 2, 3] rfl)
  unfold f_X0_raiseAll at hf
  refine lv_iconst (v := 0) hx hb dX0_raiseAll_0 (by decide) ?_
  refine lv_istore_n (lv' := [(3, .int 0), (0, .ref (a 0)), (1, .int p1), (2, .int p2)]) hx hb dX0_raiseAll_1 rfl hl (by decide) rfl (fun ls hl => ?_)
  exact L2  FU p1 p2 0 uh hf H locs ls hG (lv_sub hl [1, 2, 3, 0] rfl)
set_option maxRecDepth 100000 in
set_option maxHeartbeats 4000000 in
theorem c_X0_relabel (l : Launch) (D : va_G) (κ : Nat → ClassId) (a : Nat → Nat) (sz : Nat) (p1 : Int32) (p2 : Int32) (uh : HS)  (uh' : HS) (hf : f_X0_relabel p1 p2 uh = some (uh')) : Met l yX0_relabel wsX0_relabel ({ frames := 0, cells := 0, slots := 0, locals := 0 } : Room) (xPc D κ [.ref (a 0), .int p1, .int p2] (WH κ a uh) sz) (xQv D κ (WH κ a uh') (va_A (WH κ a uh) sz)) 0 0 (va_A (WH κ a uh) sz) := by
  refine x_ofW (cc := cX0_relabel) (maxL := 4) (ret := none) (Qf := fun A => xQv D κ (WH κ a uh') A) (by decide) rfl (Nat.le_of_ble_eq_true rfl) ?_
  intro p e s m below meth c hx hb hr hlk hml hown hts hK A hA H locs hG ls hl
  have hown : s.vm.findClass RX0 = some m.cls := hown
  have hl : lv_has ls 4 [(0, .ref (a 0)), (1, .int p1), (2, .int p2)] := hl
  have iX0 : ∀ w ∈ u_ws RX0 TX0 17, w ∈ wsX0_relabel := fun _ h => List.mem_cons_of_mem _ (List.mem_append_right _ h)
  have k28 := hts (.fieldLink RX0 28 "SpineDesks$Hall" "deskOf" "[I") (List.mem_of_getElem? (i := 2) rfl)
  have k55 := hts (.fieldLink RX0 55 "SpineDesks$Hall" "came" "I") (List.mem_of_getElem? (i := 1) rfl)
  have L27 : ∀ (rec2 : Int32 → Int32 → Int32 → HS → Option (HS)) (hr2 : ∀ (y1 : Int32) (y2 : Int32) (y3 : Int32) (uh : HS), rec2 y1 y2 y3 uh = some (uh') → ∀ (H : Heap) (locs : List Loc) (ls : Array Slot), xG D A s.heap (WH κ a uh) H locs → lv_has ls 4 [(0, .ref (a 0)), (1, .int y1), (2, .int y2), (3, .int y3)] → W p l e ({ frames := 0, cells := 0, slots := 0, locals := 0 } : Room) s m (([.ref (a 0), .int p1, .int p2] : List Value).toArray) below meth c H locs 0 0 (MQ below (xQv D κ (WH κ a uh') A) (([.ref (a 0), .int p1, .int p2] : List Value).toArray) s 0 0 A) (F0 m 2 ls [])), ∀ (x1 : Int32) (x2 : Int32) (x3 : Int32) (uh : HS), f_X0_relabel_27 rec2 x1 x2 x3 uh = some (uh') → ∀ (H : Heap) (locs : List Loc) (ls : Array Slot), xG D A s.heap (WH κ a uh) H locs → lv_has ls 4 [(0, .ref (a 0)), (1, .int x1), (2, .int x2), (3, .int x3)] → W p l e ({ frames := 0, cells := 0, slots := 0, locals := 0 } : Room) s m (([.ref (a 0), .int p1, .int p2] : List Value).toArray) below meth c H locs 0 0 (MQ below (xQv D κ (WH κ a uh') A) (([.ref (a 0), .int p1, .int p2] : List Value).toArray) s 0 0 A) (F0 m 27 ls []) := by
    intro rec2 hr2 x1 x2 x3 uh hf H locs ls hG hl
    unfold f_X0_relabel_27 at hf
    obtain ⟨y1, ey1, hf⟩ := bnd_e hf
    refine lv_iinc (v := y1) (lv' := [(3, .int y1), (0, .ref (a 0)), (1, .int x1), (2, .int x2)]) hx hb dX0_relabel_27 hl (k := 3) rfl (by rw [ey1]; rfl) (by decide) rfl (fun ls hl => ?_)
    refine lv_goto (tgt := 2) hx hb dX0_relabel_30 (by decide) ?_
    exact hr2 x1 x2 y1 uh hf H locs ls hG (lv_sub hl [1, 2, 3, 0] rfl)
  have L2 : ∀ (n : Nat), ∀ (x1 : Int32) (x2 : Int32) (x3 : Int32) (uh : HS), f_X0_relabel_2 n x1 x2 x3 uh = some (uh') → ∀ (H : Heap) (locs : List Loc) (ls : Array Slot), xG D A s.heap (WH κ a uh) H locs → lv_has ls 4 [(0, .ref (a 0)), (1, .int x1), (2, .int x2), (3, .int x3)] → W p l e ({ frames := 0, cells := 0, slots := 0, locals := 0 } : Room) s m (([.ref (a 0), .int p1, .int p2] : List Value).toArray) below meth c H locs 0 0 (MQ below (xQv D κ (WH κ a uh') A) (([.ref (a 0), .int p1, .int p2] : List Value).toArray) s 0 0 A) (F0 m 2 ls []) := by
    intro  n
    induction n with
    | zero => intro x1 x2 x3 uh hf; cases hf
    | succ n ih =>
      intro x1 x2 x3 uh hf H locs ls hG hl
      replace hf : f_X0_relabel_B2 (f_X0_relabel_2 n) x1 x2 x3 uh = some (uh') := hf
      unfold f_X0_relabel_B2 at hf
      refine lv_iload_n hx hb dX0_relabel_2 rfl (lv_at hl 3 rfl) ?_
      refine lv_aload_n hx hb dX0_relabel_3 rfl (lv_at hl 0 rfl) ?_
      refine x_get (C := RX0) (T := TX0) (N := 17) (ci := 0) hx hb hts iX0 hown hK hG 0 rfl rfl 0 (by decide) k55 (v := .int (uh.came)) rfl dX0_relabel_4 ?_
      refine lv_icmp_ge (tgt := 33) hx hb dX0_relabel_7 (by decide) (fun c2 => ?_) (fun c2 => ?_)
      · replace hf := if_t c2 hf
        have z0 := Option.some.inj hf
        exact x_vret hx hb hr hlk hK hG (by rw [z0]) dX0_relabel_33
      · replace hf := if_f c2 hf
        refine lv_aload_n hx hb dX0_relabel_10 rfl (lv_at hl 0 rfl) ?_
        refine x_get (C := RX0) (T := TX0) (N := 17) (ci := 0) hx hb hts iX0 hown hK hG 0 rfl rfl 8 (by decide) k28 (v := .ref (a 4)) rfl dX0_relabel_11 ?_
        refine lv_iload_n hx hb dX0_relabel_14 rfl (lv_at hl 3 rfl) ?_
        obtain ⟨v3, ev3, hin, hf⟩ := ck_e hf
        refine x_iald hx hb hK hG 4 rfl ev3 hin dX0_relabel_15 ?_
        refine lv_iload_n hx hb dX0_relabel_16 rfl (lv_at hl 1 rfl) ?_
        refine lv_icmp_ne (tgt := 27) hx hb dX0_relabel_17 (by decide) (fun c4 => ?_) (fun c4 => ?_)
        · replace hf := if_f c4 hf
          exact L27 (f_X0_relabel_2 n) ih  x1 x2 x3 uh hf H locs ls hG (lv_sub hl [0, 1, 2, 3] rfl)
        · replace hf := if_t c4 hf
          refine lv_aload_n hx hb dX0_relabel_20 rfl (lv_at hl 0 rfl) ?_
          refine x_get (C := RX0) (T := TX0) (N := 17) (ci := 0) hx hb hts iX0 hown hK hG 0 rfl rfl 8 (by decide) k28 (v := .ref (a 4)) rfl dX0_relabel_21 ?_
          refine lv_iload_n hx hb dX0_relabel_24 rfl (lv_at hl 3 rfl) ?_
          refine lv_iload_n hx hb dX0_relabel_25 rfl (lv_at hl 2 rfl) ?_
          obtain ⟨uh5, euh5, hin, hf⟩ := ck_e hf
          refine x_iast hx hb hK hG 4 rfl (w1 := WH κ a uh5) (by rw [euh5]; rfl) hin dX0_relabel_26 (fun H locs hG => ?_)
          exact L27 (f_X0_relabel_2 n) ih  x1 x2 x3 uh5 hf H locs ls hG (lv_sub hl [0, 1, 2, 3] rfl)
  unfold f_X0_relabel at hf
  refine lv_iconst (v := 0) hx hb dX0_relabel_0 (by decide) ?_
  refine lv_istore_n (lv' := [(3, .int 0), (0, .ref (a 0)), (1, .int p1), (2, .int p2)]) hx hb dX0_relabel_1 rfl hl (by decide) rfl (fun ls hl => ?_)
  exact L2  FU p1 p2 0 uh hf H locs ls hG (lv_sub hl [1, 2, 3, 0] rfl)
set_option maxRecDepth 100000 in
set_option maxHeartbeats 4000000 in
theorem c_X0_howManyAbove (l : Launch) (D : va_G) (κ : Nat → ClassId) (a : Nat → Nat) (sz : Nat) (p1 : Int32) (uh : HS) (r' : Int32)  (hf : f_X0_howManyAbove p1 uh = some (r')) : Met l yX0_howManyAbove wsX0_howManyAbove ({ frames := 0, cells := 0, slots := 0, locals := 0 } : Room) (xPc D κ [.ref (a 0), .int p1] (WH κ a uh) sz) (xQi D κ r' (WH κ a uh) (va_A (WH κ a uh) sz)) 0 0 (va_A (WH κ a uh) sz) := by
  refine x_ofW (cc := cX0_howManyAbove) (maxL := 4) (ret := (some .int)) (Qf := fun A => xQi D κ r' (WH κ a uh) A) (by decide) rfl (Nat.le_of_ble_eq_true rfl) ?_
  intro p e s m below meth c hx hb hr hlk hml hown hts hK A hA H locs hG ls hl
  have hown : s.vm.findClass RX0 = some m.cls := hown
  have hl : lv_has ls 4 [(0, .ref (a 0)), (1, .int p1)] := hl
  have iX0 : ∀ w ∈ u_ws RX0 TX0 17, w ∈ wsX0_howManyAbove := fun _ h => List.mem_cons_of_mem _ (List.mem_append_right _ h)
  have k40 := hts (.fieldLink RX0 40 "SpineDesks$Hall" "up" "[I") (List.mem_of_getElem? (i := 1) rfl)
  have L9 : ∀ (n : Nat), ∀ (x2 : Int32) (x3 : Int32), f_X0_howManyAbove_9 uh n x2 x3 = some (r') → ∀ (H : Heap) (locs : List Loc) (ls : Array Slot), xG D A s.heap (WH κ a uh) H locs → lv_has ls 4 [(0, .ref (a 0)), (2, .int x2), (3, .int x3)] → W p l e ({ frames := 0, cells := 0, slots := 0, locals := 0 } : Room) s m (([.ref (a 0), .int p1] : List Value).toArray) below meth c H locs 0 0 (MQ below (xQi D κ r' (WH κ a uh) A) (([.ref (a 0), .int p1] : List Value).toArray) s 0 0 A) (F0 m 9 ls []) := by
    intro  n
    induction n with
    | zero => intro x2 x3 hf; cases hf
    | succ n ih =>
      intro x2 x3 hf H locs ls hG hl
      replace hf : f_X0_howManyAbove_B9 uh (f_X0_howManyAbove_9 uh n) x2 x3 = some (r') := hf
      unfold f_X0_howManyAbove_B9 at hf
      refine lv_iload_n hx hb dX0_howManyAbove_9 rfl (lv_at hl 2 rfl) ?_
      refine lv_iconst (v := (-1)) hx hb dX0_howManyAbove_10 (by decide) ?_
      refine lv_icmp_eq (tgt := 34) hx hb dX0_howManyAbove_11 (by decide) (fun c1 => ?_) (fun c1 => ?_)
      · replace hf := if_t c1 hf
        refine lv_iload_n hx hb dX0_howManyAbove_34 rfl (lv_at hl 1 rfl) ?_
        have z0 := Option.some.inj hf
        exact x_iret hx hb hr hlk hK hG z0 rfl dX0_howManyAbove_35
      · replace hf := if_f c1 hf
        refine lv_iload_n hx hb dX0_howManyAbove_14 rfl (lv_at hl 1 rfl) ?_
        refine lv_sipush (v := 300) hx hb dX0_howManyAbove_15 (by decide) ?_
        refine lv_icmp_ge (tgt := 34) hx hb dX0_howManyAbove_18 (by decide) (fun c2 => ?_) (fun c2 => ?_)
        · replace hf := if_t c2 hf
          refine lv_iload_n hx hb dX0_howManyAbove_34 rfl (lv_at hl 1 rfl) ?_
          have z0 := Option.some.inj hf
          exact x_iret hx hb hr hlk hK hG z0 rfl dX0_howManyAbove_35
        · replace hf := if_f c2 hf
          obtain ⟨y3, ey3, hf⟩ := bnd_e hf
          refine lv_iinc (v := y3) (lv' := [(2, .int y3), (0, .ref (a 0)), (3, .int x3)]) hx hb dX0_howManyAbove_21 hl (k := 1) rfl (by rw [ey3]; rfl) (by decide) rfl (fun ls hl => ?_)
          refine lv_aload_n hx hb dX0_howManyAbove_24 rfl (lv_at hl 1 rfl) ?_
          refine x_get (C := RX0) (T := TX0) (N := 17) (ci := 0) hx hb hts iX0 hown hK hG 0 rfl rfl 12 (by decide) k40 (v := .ref (a 8)) rfl dX0_howManyAbove_25 ?_
          refine lv_iload_n hx hb dX0_howManyAbove_28 rfl (lv_at hl 2 rfl) ?_
          obtain ⟨v4, ev4, hin, hf⟩ := ck_e hf
          refine x_iald hx hb hK hG 8 rfl ev4 hin dX0_howManyAbove_29 ?_
          refine lv_istore_n (lv' := [(3, .int v4), (2, .int y3), (0, .ref (a 0))]) hx hb dX0_howManyAbove_30 rfl hl (by decide) rfl (fun ls hl => ?_)
          refine lv_goto (tgt := 9) hx hb dX0_howManyAbove_31 (by decide) ?_
          exact ih y3 v4 hf H locs ls hG (lv_sub hl [2, 1, 0] rfl)
  unfold f_X0_howManyAbove at hf
  refine lv_iconst (v := 0) hx hb dX0_howManyAbove_0 (by decide) ?_
  refine lv_istore_n (lv' := [(2, .int 0), (0, .ref (a 0)), (1, .int p1)]) hx hb dX0_howManyAbove_1 rfl hl (by decide) rfl (fun ls hl => ?_)
  refine lv_aload_n hx hb dX0_howManyAbove_2 rfl (lv_at hl 1 rfl) ?_
  refine x_get (C := RX0) (T := TX0) (N := 17) (ci := 0) hx hb hts iX0 hown hK hG 0 rfl rfl 12 (by decide) k40 (v := .ref (a 8)) rfl dX0_howManyAbove_3 ?_
  refine lv_iload_n hx hb dX0_howManyAbove_6 rfl (lv_at hl 2 rfl) ?_
  obtain ⟨v5, ev5, hin, hf⟩ := ck_e hf
  refine x_iald hx hb hK hG 8 rfl ev5 hin dX0_howManyAbove_7 ?_
  refine lv_istore_n (lv' := [(3, .int v5), (2, .int 0), (0, .ref (a 0)), (1, .int p1)]) hx hb dX0_howManyAbove_8 rfl hl (by decide) rfl (fun ls hl => ?_)
  exact L9  FU 0 v5 hf H locs ls hG (lv_sub hl [2, 1, 0] rfl)
set_option maxRecDepth 100000 in
set_option maxHeartbeats 4000000 in
theorem c_X0_allIn (l : Launch) (D : va_G) (κ : Nat → ClassId) (a : Nat → Nat) (sz : Nat) (p1 : Int32) (uh : HS) (r' : Int32)  (hf : f_X0_allIn p1 uh = some (r')) : Met l yX0_allIn wsX0_allIn ({ frames := 0, cells := 0, slots := 0, locals := 0 } : Room) (xPc D κ [.ref (a 0), .int p1] (WH κ a uh) sz) (xQi D κ r' (WH κ a uh) (va_A (WH κ a uh) sz)) 0 0 (va_A (WH κ a uh) sz) := by
  refine x_ofW (cc := cX0_allIn) (maxL := 4) (ret := (some .int)) (Qf := fun A => xQi D κ r' (WH κ a uh) A) (by decide) rfl (Nat.le_of_ble_eq_true rfl) ?_
  intro p e s m below meth c hx hb hr hlk hml hown hts hK A hA H locs hG ls hl
  have hown : s.vm.findClass RX0 = some m.cls := hown
  have hl : lv_has ls 4 [(0, .ref (a 0)), (1, .int p1)] := hl
  have iX0 : ∀ w ∈ u_ws RX0 TX0 17, w ∈ wsX0_allIn := fun _ h => List.mem_cons_of_mem _ (List.mem_append_right _ h)
  have k28 := hts (.fieldLink RX0 28 "SpineDesks$Hall" "deskOf" "[I") (List.mem_of_getElem? (i := 2) rfl)
  have k55 := hts (.fieldLink RX0 55 "SpineDesks$Hall" "came" "I") (List.mem_of_getElem? (i := 1) rfl)
  have L28 : ∀ (rec4 : Int32 → Int32 → Int32 → Option (Int32)) (hr4 : ∀ (y1 : Int32) (y2 : Int32) (y3 : Int32), rec4 y1 y2 y3 = some (r') → ∀ (H : Heap) (locs : List Loc) (ls : Array Slot), xG D A s.heap (WH κ a uh) H locs → lv_has ls 4 [(0, .ref (a 0)), (1, .int y1), (2, .int y2), (3, .int y3)] → W p l e ({ frames := 0, cells := 0, slots := 0, locals := 0 } : Room) s m (([.ref (a 0), .int p1] : List Value).toArray) below meth c H locs 0 0 (MQ below (xQi D κ r' (WH κ a uh) A) (([.ref (a 0), .int p1] : List Value).toArray) s 0 0 A) (F0 m 4 ls [])), ∀ (x1 : Int32) (x3 : Int32) (s0 : Int32) (s1 : Int32), f_X0_allIn_28 uh rec4 x1 x3 s0 s1 = some (r') → ∀ (H : Heap) (locs : List Loc) (ls : Array Slot), xG D A s.heap (WH κ a uh) H locs → lv_has ls 4 [(0, .ref (a 0)), (1, .int x1), (3, .int x3)] → W p l e ({ frames := 0, cells := 0, slots := 0, locals := 0 } : Room) s m (([.ref (a 0), .int p1] : List Value).toArray) below meth c H locs 0 0 (MQ below (xQi D κ r' (WH κ a uh) A) (([.ref (a 0), .int p1] : List Value).toArray) s 0 0 A) (F0 m 28 ls [.int s1, .int s0]) := by
    intro rec4 hr4 x1 x3 s0 s1 hf H locs ls hG hl
    unfold f_X0_allIn_28 at hf
    refine lv_iadd hx hb dX0_allIn_28 ?_
    refine lv_topi (fun y1 ey1 => ?_)
    replace hf := bnd_at ey1 hf
    refine lv_istore_n (lv' := [(2, .int y1), (0, .ref (a 0)), (1, .int x1), (3, .int x3)]) hx hb dX0_allIn_29 rfl hl (by decide) rfl (fun ls hl => ?_)
    obtain ⟨y2, ey2, hf⟩ := bnd_e hf
    refine lv_iinc (v := y2) (lv' := [(3, .int y2), (2, .int y1), (0, .ref (a 0)), (1, .int x1)]) hx hb dX0_allIn_30 hl (k := 3) rfl (by rw [ey2]; rfl) (by decide) rfl (fun ls hl => ?_)
    refine lv_goto (tgt := 4) hx hb dX0_allIn_33 (by decide) ?_
    exact hr4 x1 y1 y2 hf H locs ls hG (lv_sub hl [2, 3, 1, 0] rfl)
  have L4 : ∀ (n : Nat), ∀ (x1 : Int32) (x2 : Int32) (x3 : Int32), f_X0_allIn_4 uh n x1 x2 x3 = some (r') → ∀ (H : Heap) (locs : List Loc) (ls : Array Slot), xG D A s.heap (WH κ a uh) H locs → lv_has ls 4 [(0, .ref (a 0)), (1, .int x1), (2, .int x2), (3, .int x3)] → W p l e ({ frames := 0, cells := 0, slots := 0, locals := 0 } : Room) s m (([.ref (a 0), .int p1] : List Value).toArray) below meth c H locs 0 0 (MQ below (xQi D κ r' (WH κ a uh) A) (([.ref (a 0), .int p1] : List Value).toArray) s 0 0 A) (F0 m 4 ls []) := by
    intro  n
    induction n with
    | zero => intro x1 x2 x3 hf; cases hf
    | succ n ih =>
      intro x1 x2 x3 hf H locs ls hG hl
      replace hf : f_X0_allIn_B4 uh (f_X0_allIn_4 uh n) x1 x2 x3 = some (r') := hf
      unfold f_X0_allIn_B4 at hf
      refine lv_iload_n hx hb dX0_allIn_4 rfl (lv_at hl 3 rfl) ?_
      refine lv_aload_n hx hb dX0_allIn_5 rfl (lv_at hl 0 rfl) ?_
      refine x_get (C := RX0) (T := TX0) (N := 17) (ci := 0) hx hb hts iX0 hown hK hG 0 rfl rfl 0 (by decide) k55 (v := .int (uh.came)) rfl dX0_allIn_6 ?_
      refine lv_icmp_ge (tgt := 36) hx hb dX0_allIn_9 (by decide) (fun c3 => ?_) (fun c3 => ?_)
      · replace hf := if_t c3 hf
        refine lv_iload_n hx hb dX0_allIn_36 rfl (lv_at hl 2 rfl) ?_
        have z0 := Option.some.inj hf
        exact x_iret hx hb hr hlk hK hG z0 rfl dX0_allIn_37
      · replace hf := if_f c3 hf
        refine lv_iload_n hx hb dX0_allIn_12 rfl (lv_at hl 2 rfl) ?_
        refine lv_aload_n hx hb dX0_allIn_13 rfl (lv_at hl 0 rfl) ?_
        refine x_get (C := RX0) (T := TX0) (N := 17) (ci := 0) hx hb hts iX0 hown hK hG 0 rfl rfl 8 (by decide) k28 (v := .ref (a 4)) rfl dX0_allIn_14 ?_
        refine lv_iload_n hx hb dX0_allIn_17 rfl (lv_at hl 3 rfl) ?_
        obtain ⟨v4, ev4, hin, hf⟩ := ck_e hf
        refine x_iald hx hb hK hG 4 rfl ev4 hin dX0_allIn_18 ?_
        refine lv_iload_n hx hb dX0_allIn_19 rfl (lv_at hl 1 rfl) ?_
        refine lv_icmp_ne (tgt := 27) hx hb dX0_allIn_20 (by decide) (fun c5 => ?_) (fun c5 => ?_)
        · replace hf := if_f c5 hf
          refine lv_iconst (v := 0) hx hb dX0_allIn_27 (by decide) ?_
          exact L28 (f_X0_allIn_4 uh n) ih  x1 x3 x2 0 hf H locs ls hG (lv_sub hl [0, 1, 3] rfl)
        · replace hf := if_t c5 hf
          refine lv_iconst (v := 1) hx hb dX0_allIn_23 (by decide) ?_
          refine lv_goto (tgt := 28) hx hb dX0_allIn_24 (by decide) ?_
          exact L28 (f_X0_allIn_4 uh n) ih  x1 x3 x2 1 hf H locs ls hG (lv_sub hl [0, 1, 3] rfl)
  unfold f_X0_allIn at hf
  refine lv_iconst (v := 0) hx hb dX0_allIn_0 (by decide) ?_
  refine lv_istore_n (lv' := [(2, .int 0), (0, .ref (a 0)), (1, .int p1)]) hx hb dX0_allIn_1 rfl hl (by decide) rfl (fun ls hl => ?_)
  refine lv_iconst (v := 0) hx hb dX0_allIn_2 (by decide) ?_
  refine lv_istore_n (lv' := [(3, .int 0), (2, .int 0), (0, .ref (a 0)), (1, .int p1)]) hx hb dX0_allIn_3 rfl hl (by decide) rfl (fun ls hl => ?_)
  exact L4  FU p1 0 0 hf H locs ls hG (lv_sub hl [2, 3, 1, 0] rfl)
set_option maxRecDepth 100000 in
set_option maxHeartbeats 4000000 in
theorem c_X0_plainIn (l : Launch) (D : va_G) (κ : Nat → ClassId) (a : Nat → Nat) (sz : Nat) (p1 : Int32) (uh : HS) (r' : Int32)  (hf : f_X0_plainIn p1 uh = some (r')) : Met l yX0_plainIn wsX0_plainIn ({ frames := 1, cells := 0, slots := 0, locals := 22 } : Room) (xPc D κ [.ref (a 0), .int p1] (WH κ a uh) sz) (xQi D κ r' (WH κ a uh) (va_A (WH κ a uh) sz)) 0 0 (va_A (WH κ a uh) sz) := by
  refine x_ofW (cc := cX0_plainIn) (maxL := 4) (ret := (some .int)) (Qf := fun A => xQi D κ r' (WH κ a uh) A) (by decide) rfl (Nat.le_of_ble_eq_true rfl) ?_
  intro p e s m below meth c hx hb hr hlk hml hown hts hK A hA H locs hG ls hl
  have hown : s.vm.findClass RX0 = some m.cls := hown
  have hl : lv_has ls 4 [(0, .ref (a 0)), (1, .int p1)] := hl
  have iX0 : ∀ w ∈ u_ws RX0 TX0 17, w ∈ wsX0_plainIn := fun _ h => List.mem_cons_of_mem _ (List.mem_append_right _ h)
  have k55 := hts (.fieldLink RX0 55 "SpineDesks$Hall" "came" "I") (List.mem_of_getElem? (i := 1) rfl)
  have L27 : ∀ (rec4 : Int32 → Int32 → Int32 → Option (Int32)) (hr4 : ∀ (y1 : Int32) (y2 : Int32) (y3 : Int32), rec4 y1 y2 y3 = some (r') → ∀ (H : Heap) (locs : List Loc) (ls : Array Slot), xG D A s.heap (WH κ a uh) H locs → lv_has ls 4 [(0, .ref (a 0)), (1, .int y1), (2, .int y2), (3, .int y3)] → W p l e ({ frames := 1, cells := 0, slots := 0, locals := 22 } : Room) s m (([.ref (a 0), .int p1] : List Value).toArray) below meth c H locs 0 0 (MQ below (xQi D κ r' (WH κ a uh) A) (([.ref (a 0), .int p1] : List Value).toArray) s 0 0 A) (F0 m 4 ls [])), ∀ (x1 : Int32) (x3 : Int32) (s0 : Int32) (s1 : Int32), f_X0_plainIn_27 uh rec4 x1 x3 s0 s1 = some (r') → ∀ (H : Heap) (locs : List Loc) (ls : Array Slot), xG D A s.heap (WH κ a uh) H locs → lv_has ls 4 [(0, .ref (a 0)), (1, .int x1), (3, .int x3)] → W p l e ({ frames := 1, cells := 0, slots := 0, locals := 22 } : Room) s m (([.ref (a 0), .int p1] : List Value).toArray) below meth c H locs 0 0 (MQ below (xQi D κ r' (WH κ a uh) A) (([.ref (a 0), .int p1] : List Value).toArray) s 0 0 A) (F0 m 27 ls [.int s1, .int s0]) := by
    intro rec4 hr4 x1 x3 s0 s1 hf H locs ls hG hl
    unfold f_X0_plainIn_27 at hf
    refine lv_iadd hx hb dX0_plainIn_27 ?_
    refine lv_topi (fun y1 ey1 => ?_)
    replace hf := bnd_at ey1 hf
    refine lv_istore_n (lv' := [(2, .int y1), (0, .ref (a 0)), (1, .int x1), (3, .int x3)]) hx hb dX0_plainIn_28 rfl hl (by decide) rfl (fun ls hl => ?_)
    obtain ⟨y2, ey2, hf⟩ := bnd_e hf
    refine lv_iinc (v := y2) (lv' := [(3, .int y2), (2, .int y1), (0, .ref (a 0)), (1, .int x1)]) hx hb dX0_plainIn_29 hl (k := 3) rfl (by rw [ey2]; rfl) (by decide) rfl (fun ls hl => ?_)
    refine lv_goto (tgt := 4) hx hb dX0_plainIn_32 (by decide) ?_
    exact hr4 x1 y1 y2 hf H locs ls hG (lv_sub hl [2, 3, 1, 0] rfl)
  have L4 : ∀ (n : Nat), ∀ (x1 : Int32) (x2 : Int32) (x3 : Int32), f_X0_plainIn_4 uh n x1 x2 x3 = some (r') → ∀ (H : Heap) (locs : List Loc) (ls : Array Slot), xG D A s.heap (WH κ a uh) H locs → lv_has ls 4 [(0, .ref (a 0)), (1, .int x1), (2, .int x2), (3, .int x3)] → W p l e ({ frames := 1, cells := 0, slots := 0, locals := 22 } : Room) s m (([.ref (a 0), .int p1] : List Value).toArray) below meth c H locs 0 0 (MQ below (xQi D κ r' (WH κ a uh) A) (([.ref (a 0), .int p1] : List Value).toArray) s 0 0 A) (F0 m 4 ls []) := by
    intro  n
    induction n with
    | zero => intro x1 x2 x3 hf; cases hf
    | succ n ih =>
      intro x1 x2 x3 hf H locs ls hG hl
      replace hf : f_X0_plainIn_B4 uh (f_X0_plainIn_4 uh n) x1 x2 x3 = some (r') := hf
      unfold f_X0_plainIn_B4 at hf
      refine lv_iload_n hx hb dX0_plainIn_4 rfl (lv_at hl 3 rfl) ?_
      refine lv_aload_n hx hb dX0_plainIn_5 rfl (lv_at hl 0 rfl) ?_
      refine x_get (C := RX0) (T := TX0) (N := 17) (ci := 0) hx hb hts iX0 hown hK hG 0 rfl rfl 0 (by decide) k55 (v := .int (uh.came)) rfl dX0_plainIn_6 ?_
      refine lv_icmp_ge (tgt := 35) hx hb dX0_plainIn_9 (by decide) (fun c3 => ?_) (fun c3 => ?_)
      · replace hf := if_t c3 hf
        refine lv_iload_n hx hb dX0_plainIn_35 rfl (lv_at hl 2 rfl) ?_
        have z0 := Option.some.inj hf
        exact x_iret hx hb hr hlk hK hG z0 rfl dX0_plainIn_36
      · replace hf := if_f c3 hf
        refine lv_iload_n hx hb dX0_plainIn_12 rfl (lv_at hl 2 rfl) ?_
        refine lv_aload_n hx hb dX0_plainIn_13 rfl (lv_at hl 0 rfl) ?_
        refine lv_iload_n hx hb dX0_plainIn_14 rfl (lv_at hl 3 rfl) ?_
        refine lv_iload_n hx hb dX0_plainIn_15 rfl (lv_at hl 1 rfl) ?_
        obtain ⟨r4, q5, hf⟩ := cl1_e hf
        refine x_callVi (pre := ([] : va_W)) (wc := WH κ a uh) (wc1 := WH κ a uh) (post := ([] : va_W)) (As := [.int x3, .int x1]) (rest := [.int x2]) (w1 := WH κ a uh) ⟨hx, hb, hml, hown, hts⟩ hK hG hA (by simp only [List.append_assoc, List.nil_append, List.append_nil]) (by simp only [List.append_assoc, List.nil_append, List.append_nil]) (c_X0_isPlainIn l D κ a H.size x3 x1 uh r4 q5) (cwV 2 hts gX0_plainIn_X0_isPlainIn rfl rfl rfl (by decide +kernel) ⟨Nat.le_of_ble_eq_true rfl, Nat.le_of_ble_eq_true rfl⟩) 0 0 rfl rfl rfl rfl hl.1 rfl (Nat.le_of_ble_eq_true rfl) dX0_plainIn_16 ⟨Nat.zero_le _, Nat.zero_le _⟩ (fun H locs hG => ?_)
        refine lv_if_eq (tgt := 26) hx hb dX0_plainIn_19 (by decide) (fun c6 => ?_) (fun c6 => ?_)
        · replace hf := if_t c6 hf
          refine lv_iconst (v := 0) hx hb dX0_plainIn_26 (by decide) ?_
          exact L27 (f_X0_plainIn_4 uh n) ih  x1 x3 x2 0 hf H locs ls hG (lv_sub hl [0, 1, 3] rfl)
        · replace hf := if_f c6 hf
          refine lv_iconst (v := 1) hx hb dX0_plainIn_22 (by decide) ?_
          refine lv_goto (tgt := 27) hx hb dX0_plainIn_23 (by decide) ?_
          exact L27 (f_X0_plainIn_4 uh n) ih  x1 x3 x2 1 hf H locs ls hG (lv_sub hl [0, 1, 3] rfl)
  unfold f_X0_plainIn at hf
  refine lv_iconst (v := 0) hx hb dX0_plainIn_0 (by decide) ?_
  refine lv_istore_n (lv' := [(2, .int 0), (0, .ref (a 0)), (1, .int p1)]) hx hb dX0_plainIn_1 rfl hl (by decide) rfl (fun ls hl => ?_)
  refine lv_iconst (v := 0) hx hb dX0_plainIn_2 (by decide) ?_
  refine lv_istore_n (lv' := [(3, .int 0), (2, .int 0), (0, .ref (a 0)), (1, .int p1)]) hx hb dX0_plainIn_3 rfl hl (by decide) rfl (fun ls hl => ?_)
  exact L4  FU p1 0 0 hf H locs ls hG (lv_sub hl [2, 3, 1, 0] rfl)
set_option maxRecDepth 100000 in
set_option maxHeartbeats 4000000 in
theorem c_X0_plainLess (l : Launch) (D : va_G) (κ : Nat → ClassId) (a : Nat → Nat) (sz : Nat) (p1 : Int32) (p2 : Int32) (uh : HS) (r' : Int32)  (hf : f_X0_plainLess p1 p2 uh = some (r')) : Met l yX0_plainLess wsX0_plainLess ({ frames := 1, cells := 0, slots := 0, locals := 22 } : Room) (xPc D κ [.ref (a 0), .int p1, .int p2] (WH κ a uh) sz) (xQi D κ r' (WH κ a uh) (va_A (WH κ a uh) sz)) 0 0 (va_A (WH κ a uh) sz) := by
  refine x_ofW (cc := cX0_plainLess) (maxL := 5) (ret := (some .int)) (Qf := fun A => xQi D κ r' (WH κ a uh) A) (by decide) rfl (Nat.le_of_ble_eq_true rfl) ?_
  intro p e s m below meth c hx hb hr hlk hml hown hts hK A hA H locs hG ls hl
  have hown : s.vm.findClass RX0 = some m.cls := hown
  have hl : lv_has ls 5 [(0, .ref (a 0)), (1, .int p1), (2, .int p2)] := hl
  have iX0 : ∀ w ∈ u_ws RX0 TX0 17, w ∈ wsX0_plainLess := fun _ h => List.mem_cons_of_mem _ (List.mem_append_right _ h)
  have k55 := hts (.fieldLink RX0 55 "SpineDesks$Hall" "came" "I") (List.mem_of_getElem? (i := 1) rfl)
  have L40 : ∀ (rec5 : Int32 → Int32 → Int32 → Int32 → Option (Int32)) (hr5 : ∀ (y1 : Int32) (y2 : Int32) (y3 : Int32) (y4 : Int32), rec5 y1 y2 y3 y4 = some (r') → ∀ (H : Heap) (locs : List Loc) (ls : Array Slot), xG D A s.heap (WH κ a uh) H locs → lv_has ls 5 [(0, .ref (a 0)), (1, .int y1), (2, .int y2), (3, .int y3), (4, .int y4)] → W p l e ({ frames := 1, cells := 0, slots := 0, locals := 22 } : Room) s m (([.ref (a 0), .int p1, .int p2] : List Value).toArray) below meth c H locs 0 0 (MQ below (xQi D κ r' (WH κ a uh) A) (([.ref (a 0), .int p1, .int p2] : List Value).toArray) s 0 0 A) (F0 m 5 ls [])), ∀ (x1 : Int32) (x2 : Int32) (x4 : Int32) (s0 : Int32) (s1 : Int32), f_X0_plainLess_40 uh rec5 x1 x2 x4 s0 s1 = some (r') → ∀ (H : Heap) (locs : List Loc) (ls : Array Slot), xG D A s.heap (WH κ a uh) H locs → lv_has ls 5 [(0, .ref (a 0)), (1, .int x1), (2, .int x2), (4, .int x4)] → W p l e ({ frames := 1, cells := 0, slots := 0, locals := 22 } : Room) s m (([.ref (a 0), .int p1, .int p2] : List Value).toArray) below meth c H locs 0 0 (MQ below (xQi D κ r' (WH κ a uh) A) (([.ref (a 0), .int p1, .int p2] : List Value).toArray) s 0 0 A) (F0 m 40 ls [.int s1, .int s0]) := by
    intro rec5 hr5 x1 x2 x4 s0 s1 hf H locs ls hG hl
    unfold f_X0_plainLess_40 at hf
    refine lv_iadd hx hb dX0_plainLess_40 ?_
    refine lv_topi (fun y1 ey1 => ?_)
    replace hf := bnd_at ey1 hf
    refine lv_istore_n (lv' := [(3, .int y1), (0, .ref (a 0)), (1, .int x1), (2, .int x2), (4, .int x4)]) hx hb dX0_plainLess_41 rfl hl (by decide) rfl (fun ls hl => ?_)
    obtain ⟨y2, ey2, hf⟩ := bnd_e hf
    refine lv_iinc (v := y2) (lv' := [(4, .int y2), (3, .int y1), (0, .ref (a 0)), (1, .int x1), (2, .int x2)]) hx hb dX0_plainLess_42 hl (k := 4) rfl (by rw [ey2]; rfl) (by decide) rfl (fun ls hl => ?_)
    refine lv_goto (tgt := 5) hx hb dX0_plainLess_45 (by decide) ?_
    exact hr5 x1 x2 y1 y2 hf H locs ls hG (lv_sub hl [2, 3, 4, 1, 0] rfl)
  have L39 : ∀ (rec5 : Int32 → Int32 → Int32 → Int32 → Option (Int32)) (hr5 : ∀ (y1 : Int32) (y2 : Int32) (y3 : Int32) (y4 : Int32), rec5 y1 y2 y3 y4 = some (r') → ∀ (H : Heap) (locs : List Loc) (ls : Array Slot), xG D A s.heap (WH κ a uh) H locs → lv_has ls 5 [(0, .ref (a 0)), (1, .int y1), (2, .int y2), (3, .int y3), (4, .int y4)] → W p l e ({ frames := 1, cells := 0, slots := 0, locals := 22 } : Room) s m (([.ref (a 0), .int p1, .int p2] : List Value).toArray) below meth c H locs 0 0 (MQ below (xQi D κ r' (WH κ a uh) A) (([.ref (a 0), .int p1, .int p2] : List Value).toArray) s 0 0 A) (F0 m 5 ls [])), ∀ (x1 : Int32) (x2 : Int32) (x4 : Int32) (s0 : Int32), f_X0_plainLess_39 uh rec5 x1 x2 x4 s0 = some (r') → ∀ (H : Heap) (locs : List Loc) (ls : Array Slot), xG D A s.heap (WH κ a uh) H locs → lv_has ls 5 [(0, .ref (a 0)), (1, .int x1), (2, .int x2), (4, .int x4)] → W p l e ({ frames := 1, cells := 0, slots := 0, locals := 22 } : Room) s m (([.ref (a 0), .int p1, .int p2] : List Value).toArray) below meth c H locs 0 0 (MQ below (xQi D κ r' (WH κ a uh) A) (([.ref (a 0), .int p1, .int p2] : List Value).toArray) s 0 0 A) (F0 m 39 ls [.int s0]) := by
    intro rec5 hr5 x1 x2 x4 s0 hf H locs ls hG hl
    unfold f_X0_plainLess_39 at hf
    refine lv_iconst (v := 0) hx hb dX0_plainLess_39 (by decide) ?_
    exact L40 rec5 hr5  x1 x2 x4 s0 0 hf H locs ls hG (lv_sub hl [0, 1, 2, 3] rfl)
  have L5 : ∀ (n : Nat), ∀ (x1 : Int32) (x2 : Int32) (x3 : Int32) (x4 : Int32), f_X0_plainLess_5 uh n x1 x2 x3 x4 = some (r') → ∀ (H : Heap) (locs : List Loc) (ls : Array Slot), xG D A s.heap (WH κ a uh) H locs → lv_has ls 5 [(0, .ref (a 0)), (1, .int x1), (2, .int x2), (3, .int x3), (4, .int x4)] → W p l e ({ frames := 1, cells := 0, slots := 0, locals := 22 } : Room) s m (([.ref (a 0), .int p1, .int p2] : List Value).toArray) below meth c H locs 0 0 (MQ below (xQi D κ r' (WH κ a uh) A) (([.ref (a 0), .int p1, .int p2] : List Value).toArray) s 0 0 A) (F0 m 5 ls []) := by
    intro  n
    induction n with
    | zero => intro x1 x2 x3 x4 hf; cases hf
    | succ n ih =>
      intro x1 x2 x3 x4 hf H locs ls hG hl
      replace hf : f_X0_plainLess_B5 uh (f_X0_plainLess_5 uh n) x1 x2 x3 x4 = some (r') := hf
      unfold f_X0_plainLess_B5 at hf
      refine lv_iload hx hb dX0_plainLess_5 (lv_at hl 4 rfl) ?_
      refine lv_aload_n hx hb dX0_plainLess_7 rfl (lv_at hl 0 rfl) ?_
      refine x_get (C := RX0) (T := TX0) (N := 17) (ci := 0) hx hb hts iX0 hown hK hG 0 rfl rfl 0 (by decide) k55 (v := .int (uh.came)) rfl dX0_plainLess_8 ?_
      refine lv_icmp_ge (tgt := 48) hx hb dX0_plainLess_11 (by decide) (fun c3 => ?_) (fun c3 => ?_)
      · replace hf := if_t c3 hf
        refine lv_iload_n hx hb dX0_plainLess_48 rfl (lv_at hl 3 rfl) ?_
        have z0 := Option.some.inj hf
        exact x_iret hx hb hr hlk hK hG z0 rfl dX0_plainLess_49
      · replace hf := if_f c3 hf
        refine lv_iload_n hx hb dX0_plainLess_14 rfl (lv_at hl 3 rfl) ?_
        refine lv_aload_n hx hb dX0_plainLess_15 rfl (lv_at hl 0 rfl) ?_
        refine lv_iload hx hb dX0_plainLess_16 (lv_at hl 4 rfl) ?_
        refine lv_iload_n hx hb dX0_plainLess_18 rfl (lv_at hl 1 rfl) ?_
        obtain ⟨r4, q5, hf⟩ := cl1_e hf
        refine x_callVi (pre := ([] : va_W)) (wc := WH κ a uh) (wc1 := WH κ a uh) (post := ([] : va_W)) (As := [.int x4, .int x1]) (rest := [.int x3]) (w1 := WH κ a uh) ⟨hx, hb, hml, hown, hts⟩ hK hG hA (by simp only [List.append_assoc, List.nil_append, List.append_nil]) (by simp only [List.append_assoc, List.nil_append, List.append_nil]) (c_X0_isPlainIn l D κ a H.size x4 x1 uh r4 q5) (cwV 2 hts gX0_plainLess_X0_isPlainIn rfl rfl rfl (by decide +kernel) ⟨Nat.le_of_ble_eq_true rfl, Nat.le_of_ble_eq_true rfl⟩) 0 0 rfl rfl rfl rfl hl.1 rfl (Nat.le_of_ble_eq_true rfl) dX0_plainLess_19 ⟨Nat.zero_le _, Nat.zero_le _⟩ (fun H locs hG => ?_)
        refine lv_if_eq (tgt := 39) hx hb dX0_plainLess_22 (by decide) (fun c6 => ?_) (fun c6 => ?_)
        · replace hf := if_t c6 hf
          exact L39 (f_X0_plainLess_5 uh n) ih  x1 x2 x4 x3 hf H locs ls hG (lv_sub hl [0, 1, 2, 4] rfl)
        · replace hf := if_f c6 hf
          refine lv_aload_n hx hb dX0_plainLess_25 rfl (lv_at hl 0 rfl) ?_
          refine lv_iload hx hb dX0_plainLess_26 (lv_at hl 4 rfl) ?_
          refine lv_iload_n hx hb dX0_plainLess_28 rfl (lv_at hl 2 rfl) ?_
          obtain ⟨r7, q8, hf⟩ := cl1_e hf
          refine x_callVi (pre := ([] : va_W)) (wc := WH κ a uh) (wc1 := WH κ a uh) (post := ([] : va_W)) (As := [.int x4, .int x2]) (rest := [.int x3]) (w1 := WH κ a uh) ⟨hx, hb, hml, hown, hts⟩ hK hG hA (by simp only [List.append_assoc, List.nil_append, List.append_nil]) (by simp only [List.append_assoc, List.nil_append, List.append_nil]) (c_X0_isLess l D κ a H.size x4 x2 uh r7 q8) (cwV 2 hts gX0_plainLess_X0_isLess rfl rfl rfl (by decide +kernel) ⟨Nat.le_of_ble_eq_true rfl, Nat.le_of_ble_eq_true rfl⟩) 0 0 rfl rfl rfl rfl hl.1 rfl (Nat.le_of_ble_eq_true rfl) dX0_plainLess_29 ⟨Nat.zero_le _, Nat.zero_le _⟩ (fun H locs hG => ?_)
          refine lv_if_eq (tgt := 39) hx hb dX0_plainLess_32 (by decide) (fun c9 => ?_) (fun c9 => ?_)
          · replace hf := if_t c9 hf
            exact L39 (f_X0_plainLess_5 uh n) ih  x1 x2 x4 x3 hf H locs ls hG (lv_sub hl [0, 1, 2, 4] rfl)
          · replace hf := if_f c9 hf
            refine lv_iconst (v := 1) hx hb dX0_plainLess_35 (by decide) ?_
            refine lv_goto (tgt := 40) hx hb dX0_plainLess_36 (by decide) ?_
            exact L40 (f_X0_plainLess_5 uh n) ih  x1 x2 x4 x3 1 hf H locs ls hG (lv_sub hl [0, 1, 2, 4] rfl)
  unfold f_X0_plainLess at hf
  refine lv_iconst (v := 0) hx hb dX0_plainLess_0 (by decide) ?_
  refine lv_istore_n (lv' := [(3, .int 0), (0, .ref (a 0)), (1, .int p1), (2, .int p2)]) hx hb dX0_plainLess_1 rfl hl (by decide) rfl (fun ls hl => ?_)
  refine lv_iconst (v := 0) hx hb dX0_plainLess_2 (by decide) ?_
  refine lv_istore (lv' := [(4, .int 0), (3, .int 0), (0, .ref (a 0)), (1, .int p1), (2, .int p2)]) hx hb dX0_plainLess_3 hl (by decide) rfl (fun ls hl => ?_)
  exact L5  FU p1 p2 0 0 hf H locs ls hG (lv_sub hl [2, 3, 4, 1, 0] rfl)
set_option maxRecDepth 100000 in
set_option maxHeartbeats 4000000 in
theorem c_X0_plainBelow (l : Launch) (D : va_G) (κ : Nat → ClassId) (a : Nat → Nat) (sz : Nat) (p1 : Int32) (p2 : Int64) (uh : HS) (r' : Int32)  (hf : f_X0_plainBelow p1 p2 uh = some (r')) : Met l yX0_plainBelow wsX0_plainBelow ({ frames := 1, cells := 0, slots := 0, locals := 22 } : Room) (xPc D κ [.ref (a 0), .int p1, .long p2] (WH κ a uh) sz) (xQi D κ r' (WH κ a uh) (va_A (WH κ a uh) sz)) 0 0 (va_A (WH κ a uh) sz) := by
  refine x_ofW (cc := cX0_plainBelow) (maxL := 6) (ret := (some .int)) (Qf := fun A => xQi D κ r' (WH κ a uh) A) (by decide) rfl (Nat.le_of_ble_eq_true rfl) ?_
  intro p e s m below meth c hx hb hr hlk hml hown hts hK A hA H locs hG ls hl
  have hown : s.vm.findClass RX0 = some m.cls := hown
  have hl : lv_has ls 6 [(0, .ref (a 0)), (1, .int p1), (2, .long p2)] := hl
  have iX0 : ∀ w ∈ u_ws RX0 TX0 17, w ∈ wsX0_plainBelow := fun _ h => List.mem_cons_of_mem _ (List.mem_append_right _ h)
  have k21 := hts (.fieldLink RX0 21 "SpineDesks$Hall" "keyOf" "[J") (List.mem_of_getElem? (i := 2) rfl)
  have k55 := hts (.fieldLink RX0 55 "SpineDesks$Hall" "came" "I") (List.mem_of_getElem? (i := 1) rfl)
  have L44 : ∀ (rec6 : Int32 → Int64 → Int32 → Int32 → Option (Int32)) (hr6 : ∀ (y1 : Int32) (y2 : Int64) (y4 : Int32) (y5 : Int32), rec6 y1 y2 y4 y5 = some (r') → ∀ (H : Heap) (locs : List Loc) (ls : Array Slot), xG D A s.heap (WH κ a uh) H locs → lv_has ls 6 [(0, .ref (a 0)), (1, .int y1), (2, .long y2), (4, .int y4), (5, .int y5)] → W p l e ({ frames := 1, cells := 0, slots := 0, locals := 22 } : Room) s m (([.ref (a 0), .int p1, .long p2] : List Value).toArray) below meth c H locs 0 0 (MQ below (xQi D κ r' (WH κ a uh) A) (([.ref (a 0), .int p1, .long p2] : List Value).toArray) s 0 0 A) (F0 m 6 ls [])), ∀ (x1 : Int32) (x2 : Int64) (x5 : Int32) (s0 : Int32) (s1 : Int32), f_X0_plainBelow_44 uh rec6 x1 x2 x5 s0 s1 = some (r') → ∀ (H : Heap) (locs : List Loc) (ls : Array Slot), xG D A s.heap (WH κ a uh) H locs → lv_has ls 6 [(0, .ref (a 0)), (1, .int x1), (2, .long x2), (5, .int x5)] → W p l e ({ frames := 1, cells := 0, slots := 0, locals := 22 } : Room) s m (([.ref (a 0), .int p1, .long p2] : List Value).toArray) below meth c H locs 0 0 (MQ below (xQi D κ r' (WH κ a uh) A) (([.ref (a 0), .int p1, .long p2] : List Value).toArray) s 0 0 A) (F0 m 44 ls [.int s1, .int s0]) := by
    intro rec6 hr6 x1 x2 x5 s0 s1 hf H locs ls hG hl
    unfold f_X0_plainBelow_44 at hf
    refine lv_iadd hx hb dX0_plainBelow_44 ?_
    refine lv_topi (fun y1 ey1 => ?_)
    replace hf := bnd_at ey1 hf
    refine lv_istore (lv' := [(4, .int y1), (0, .ref (a 0)), (1, .int x1), (2, .long x2), (5, .int x5)]) hx hb dX0_plainBelow_45 hl (by decide) rfl (fun ls hl => ?_)
    obtain ⟨y2, ey2, hf⟩ := bnd_e hf
    refine lv_iinc (v := y2) (lv' := [(5, .int y2), (4, .int y1), (0, .ref (a 0)), (1, .int x1), (2, .long x2)]) hx hb dX0_plainBelow_47 hl (k := 4) rfl (by rw [ey2]; rfl) (by decide) rfl (fun ls hl => ?_)
    refine lv_goto (tgt := 6) hx hb dX0_plainBelow_50 (by decide) ?_
    exact hr6 x1 x2 y1 y2 hf H locs ls hG (lv_sub hl [2, 3, 4, 1, 0] rfl)
  have L43 : ∀ (rec6 : Int32 → Int64 → Int32 → Int32 → Option (Int32)) (hr6 : ∀ (y1 : Int32) (y2 : Int64) (y4 : Int32) (y5 : Int32), rec6 y1 y2 y4 y5 = some (r') → ∀ (H : Heap) (locs : List Loc) (ls : Array Slot), xG D A s.heap (WH κ a uh) H locs → lv_has ls 6 [(0, .ref (a 0)), (1, .int y1), (2, .long y2), (4, .int y4), (5, .int y5)] → W p l e ({ frames := 1, cells := 0, slots := 0, locals := 22 } : Room) s m (([.ref (a 0), .int p1, .long p2] : List Value).toArray) below meth c H locs 0 0 (MQ below (xQi D κ r' (WH κ a uh) A) (([.ref (a 0), .int p1, .long p2] : List Value).toArray) s 0 0 A) (F0 m 6 ls [])), ∀ (x1 : Int32) (x2 : Int64) (x5 : Int32) (s0 : Int32), f_X0_plainBelow_43 uh rec6 x1 x2 x5 s0 = some (r') → ∀ (H : Heap) (locs : List Loc) (ls : Array Slot), xG D A s.heap (WH κ a uh) H locs → lv_has ls 6 [(0, .ref (a 0)), (1, .int x1), (2, .long x2), (5, .int x5)] → W p l e ({ frames := 1, cells := 0, slots := 0, locals := 22 } : Room) s m (([.ref (a 0), .int p1, .long p2] : List Value).toArray) below meth c H locs 0 0 (MQ below (xQi D κ r' (WH κ a uh) A) (([.ref (a 0), .int p1, .long p2] : List Value).toArray) s 0 0 A) (F0 m 43 ls [.int s0]) := by
    intro rec6 hr6 x1 x2 x5 s0 hf H locs ls hG hl
    unfold f_X0_plainBelow_43 at hf
    refine lv_iconst (v := 0) hx hb dX0_plainBelow_43 (by decide) ?_
    exact L44 rec6 hr6  x1 x2 x5 s0 0 hf H locs ls hG (lv_sub hl [0, 1, 2, 3] rfl)
  have L6 : ∀ (n : Nat), ∀ (x1 : Int32) (x2 : Int64) (x4 : Int32) (x5 : Int32), f_X0_plainBelow_6 uh n x1 x2 x4 x5 = some (r') → ∀ (H : Heap) (locs : List Loc) (ls : Array Slot), xG D A s.heap (WH κ a uh) H locs → lv_has ls 6 [(0, .ref (a 0)), (1, .int x1), (2, .long x2), (4, .int x4), (5, .int x5)] → W p l e ({ frames := 1, cells := 0, slots := 0, locals := 22 } : Room) s m (([.ref (a 0), .int p1, .long p2] : List Value).toArray) below meth c H locs 0 0 (MQ below (xQi D κ r' (WH κ a uh) A) (([.ref (a 0), .int p1, .long p2] : List Value).toArray) s 0 0 A) (F0 m 6 ls []) := by
    intro  n
    induction n with
    | zero => intro x1 x2 x4 x5 hf; cases hf
    | succ n ih =>
      intro x1 x2 x4 x5 hf H locs ls hG hl
      replace hf : f_X0_plainBelow_B6 uh (f_X0_plainBelow_6 uh n) x1 x2 x4 x5 = some (r') := hf
      unfold f_X0_plainBelow_B6 at hf
      refine lv_iload hx hb dX0_plainBelow_6 (lv_at hl 4 rfl) ?_
      refine lv_aload_n hx hb dX0_plainBelow_8 rfl (lv_at hl 0 rfl) ?_
      refine x_get (C := RX0) (T := TX0) (N := 17) (ci := 0) hx hb hts iX0 hown hK hG 0 rfl rfl 0 (by decide) k55 (v := .int (uh.came)) rfl dX0_plainBelow_9 ?_
      refine lv_icmp_ge (tgt := 53) hx hb dX0_plainBelow_12 (by decide) (fun c3 => ?_) (fun c3 => ?_)
      · replace hf := if_t c3 hf
        refine lv_iload hx hb dX0_plainBelow_53 (lv_at hl 3 rfl) ?_
        have z0 := Option.some.inj hf
        exact x_iret hx hb hr hlk hK hG z0 rfl dX0_plainBelow_55
      · replace hf := if_f c3 hf
        refine lv_iload hx hb dX0_plainBelow_15 (lv_at hl 3 rfl) ?_
        refine lv_aload_n hx hb dX0_plainBelow_17 rfl (lv_at hl 0 rfl) ?_
        refine lv_iload hx hb dX0_plainBelow_18 (lv_at hl 4 rfl) ?_
        refine lv_iload_n hx hb dX0_plainBelow_20 rfl (lv_at hl 1 rfl) ?_
        obtain ⟨r4, q5, hf⟩ := cl1_e hf
        refine x_callVi (pre := ([] : va_W)) (wc := WH κ a uh) (wc1 := WH κ a uh) (post := ([] : va_W)) (As := [.int x5, .int x1]) (rest := [.int x4]) (w1 := WH κ a uh) ⟨hx, hb, hml, hown, hts⟩ hK hG hA (by simp only [List.append_assoc, List.nil_append, List.append_nil]) (by simp only [List.append_assoc, List.nil_append, List.append_nil]) (c_X0_isPlainIn l D κ a H.size x5 x1 uh r4 q5) (cwV 2 hts gX0_plainBelow_X0_isPlainIn rfl rfl rfl (by decide +kernel) ⟨Nat.le_of_ble_eq_true rfl, Nat.le_of_ble_eq_true rfl⟩) 0 0 rfl rfl rfl rfl hl.1 rfl (Nat.le_of_ble_eq_true rfl) dX0_plainBelow_21 ⟨Nat.zero_le _, Nat.zero_le _⟩ (fun H locs hG => ?_)
        refine lv_if_eq (tgt := 43) hx hb dX0_plainBelow_24 (by decide) (fun c6 => ?_) (fun c6 => ?_)
        · replace hf := if_t c6 hf
          exact L43 (f_X0_plainBelow_6 uh n) ih  x1 x2 x5 x4 hf H locs ls hG (lv_sub hl [0, 1, 2, 4] rfl)
        · replace hf := if_f c6 hf
          refine lv_aload_n hx hb dX0_plainBelow_27 rfl (lv_at hl 0 rfl) ?_
          refine x_get (C := RX0) (T := TX0) (N := 17) (ci := 0) hx hb hts iX0 hown hK hG 0 rfl rfl 6 (by decide) k21 (v := .ref (a 2)) rfl dX0_plainBelow_28 ?_
          refine lv_iload hx hb dX0_plainBelow_31 (lv_at hl 4 rfl) ?_
          obtain ⟨v7, ev7, hin, hf⟩ := ck_e hf
          refine x_lald hx hb hK hG 2 rfl ev7 hin dX0_plainBelow_33 ?_
          refine lv_lload_n hx hb dX0_plainBelow_34 rfl (lv_at hl 2 rfl) ?_
          refine W.lcmp hx hb dX0_plainBelow_35 ?_
          refine lv_if_ge (tgt := 43) hx hb dX0_plainBelow_36 (by decide) (fun c8 => ?_) (fun c8 => ?_)
          · rw [lg_cmp_ge] at c8
            replace hf := if_t c8 hf
            exact L43 (f_X0_plainBelow_6 uh n) ih  x1 x2 x5 x4 hf H locs ls hG (lv_sub hl [0, 1, 2, 4] rfl)
          · rw [lg_cmp_ge] at c8
            replace hf := if_f c8 hf
            refine lv_iconst (v := 1) hx hb dX0_plainBelow_39 (by decide) ?_
            refine lv_goto (tgt := 44) hx hb dX0_plainBelow_40 (by decide) ?_
            exact L44 (f_X0_plainBelow_6 uh n) ih  x1 x2 x5 x4 1 hf H locs ls hG (lv_sub hl [0, 1, 2, 4] rfl)
  unfold f_X0_plainBelow at hf
  refine lv_iconst (v := 0) hx hb dX0_plainBelow_0 (by decide) ?_
  refine lv_istore (lv' := [(4, .int 0), (0, .ref (a 0)), (1, .int p1), (2, .long p2)]) hx hb dX0_plainBelow_1 hl (by decide) rfl (fun ls hl => ?_)
  refine lv_iconst (v := 0) hx hb dX0_plainBelow_3 (by decide) ?_
  refine lv_istore (lv' := [(5, .int 0), (4, .int 0), (0, .ref (a 0)), (1, .int p1), (2, .long p2)]) hx hb dX0_plainBelow_4 hl (by decide) rfl (fun ls hl => ?_)
  exact L6  FU p1 p2 0 0 hf H locs ls hG (lv_sub hl [2, 3, 4, 1, 0] rfl)
set_option maxRecDepth 100000 in
set_option maxHeartbeats 4000000 in
theorem c_X0_plainWithTag (l : Launch) (D : va_G) (κ : Nat → ClassId) (a : Nat → Nat) (sz : Nat) (p1 : Int32) (p2 : Int32) (uh : HS) (r' : Int32)  (hf : f_X0_plainWithTag p1 p2 uh = some (r')) : Met l yX0_plainWithTag wsX0_plainWithTag ({ frames := 1, cells := 0, slots := 0, locals := 22 } : Room) (xPc D κ [.ref (a 0), .int p1, .int p2] (WH κ a uh) sz) (xQi D κ r' (WH κ a uh) (va_A (WH κ a uh) sz)) 0 0 (va_A (WH κ a uh) sz) := by
  refine x_ofW (cc := cX0_plainWithTag) (maxL := 5) (ret := (some .int)) (Qf := fun A => xQi D κ r' (WH κ a uh) A) (by decide) rfl (Nat.le_of_ble_eq_true rfl) ?_
  intro p e s m below meth c hx hb hr hlk hml hown hts hK A hA H locs hG ls hl
  have hown : s.vm.findClass RX0 = some m.cls := hown
  have hl : lv_has ls 5 [(0, .ref (a 0)), (1, .int p1), (2, .int p2)] := hl
  have iX0 : ∀ w ∈ u_ws RX0 TX0 17, w ∈ wsX0_plainWithTag := fun _ h => List.mem_cons_of_mem _ (List.mem_append_right _ h)
  have k25 := hts (.fieldLink RX0 25 "SpineDesks$Hall" "tagOf" "[I") (List.mem_of_getElem? (i := 2) rfl)
  have k55 := hts (.fieldLink RX0 55 "SpineDesks$Hall" "came" "I") (List.mem_of_getElem? (i := 1) rfl)
  have L41 : ∀ (rec5 : Int32 → Int32 → Int32 → Int32 → Option (Int32)) (hr5 : ∀ (y1 : Int32) (y2 : Int32) (y3 : Int32) (y4 : Int32), rec5 y1 y2 y3 y4 = some (r') → ∀ (H : Heap) (locs : List Loc) (ls : Array Slot), xG D A s.heap (WH κ a uh) H locs → lv_has ls 5 [(0, .ref (a 0)), (1, .int y1), (2, .int y2), (3, .int y3), (4, .int y4)] → W p l e ({ frames := 1, cells := 0, slots := 0, locals := 22 } : Room) s m (([.ref (a 0), .int p1, .int p2] : List Value).toArray) below meth c H locs 0 0 (MQ below (xQi D κ r' (WH κ a uh) A) (([.ref (a 0), .int p1, .int p2] : List Value).toArray) s 0 0 A) (F0 m 5 ls [])), ∀ (x1 : Int32) (x2 : Int32) (x4 : Int32) (s0 : Int32) (s1 : Int32), f_X0_plainWithTag_41 uh rec5 x1 x2 x4 s0 s1 = some (r') → ∀ (H : Heap) (locs : List Loc) (ls : Array Slot), xG D A s.heap (WH κ a uh) H locs → lv_has ls 5 [(0, .ref (a 0)), (1, .int x1), (2, .int x2), (4, .int x4)] → W p l e ({ frames := 1, cells := 0, slots := 0, locals := 22 } : Room) s m (([.ref (a 0), .int p1, .int p2] : List Value).toArray) below meth c H locs 0 0 (MQ below (xQi D κ r' (WH κ a uh) A) (([.ref (a 0), .int p1, .int p2] : List Value).toArray) s 0 0 A) (F0 m 41 ls [.int s1, .int s0]) := by
    intro rec5 hr5 x1 x2 x4 s0 s1 hf H locs ls hG hl
    unfold f_X0_plainWithTag_41 at hf
    refine lv_iadd hx hb dX0_plainWithTag_41 ?_
    refine lv_topi (fun y1 ey1 => ?_)
    replace hf := bnd_at ey1 hf
    refine lv_istore_n (lv' := [(3, .int y1), (0, .ref (a 0)), (1, .int x1), (2, .int x2), (4, .int x4)]) hx hb dX0_plainWithTag_42 rfl hl (by decide) rfl (fun ls hl => ?_)
    obtain ⟨y2, ey2, hf⟩ := bnd_e hf
    refine lv_iinc (v := y2) (lv' := [(4, .int y2), (3, .int y1), (0, .ref (a 0)), (1, .int x1), (2, .int x2)]) hx hb dX0_plainWithTag_43 hl (k := 4) rfl (by rw [ey2]; rfl) (by decide) rfl (fun ls hl => ?_)
    refine lv_goto (tgt := 5) hx hb dX0_plainWithTag_46 (by decide) ?_
    exact hr5 x1 x2 y1 y2 hf H locs ls hG (lv_sub hl [2, 3, 4, 1, 0] rfl)
  have L40 : ∀ (rec5 : Int32 → Int32 → Int32 → Int32 → Option (Int32)) (hr5 : ∀ (y1 : Int32) (y2 : Int32) (y3 : Int32) (y4 : Int32), rec5 y1 y2 y3 y4 = some (r') → ∀ (H : Heap) (locs : List Loc) (ls : Array Slot), xG D A s.heap (WH κ a uh) H locs → lv_has ls 5 [(0, .ref (a 0)), (1, .int y1), (2, .int y2), (3, .int y3), (4, .int y4)] → W p l e ({ frames := 1, cells := 0, slots := 0, locals := 22 } : Room) s m (([.ref (a 0), .int p1, .int p2] : List Value).toArray) below meth c H locs 0 0 (MQ below (xQi D κ r' (WH κ a uh) A) (([.ref (a 0), .int p1, .int p2] : List Value).toArray) s 0 0 A) (F0 m 5 ls [])), ∀ (x1 : Int32) (x2 : Int32) (x4 : Int32) (s0 : Int32), f_X0_plainWithTag_40 uh rec5 x1 x2 x4 s0 = some (r') → ∀ (H : Heap) (locs : List Loc) (ls : Array Slot), xG D A s.heap (WH κ a uh) H locs → lv_has ls 5 [(0, .ref (a 0)), (1, .int x1), (2, .int x2), (4, .int x4)] → W p l e ({ frames := 1, cells := 0, slots := 0, locals := 22 } : Room) s m (([.ref (a 0), .int p1, .int p2] : List Value).toArray) below meth c H locs 0 0 (MQ below (xQi D κ r' (WH κ a uh) A) (([.ref (a 0), .int p1, .int p2] : List Value).toArray) s 0 0 A) (F0 m 40 ls [.int s0]) := by
    intro rec5 hr5 x1 x2 x4 s0 hf H locs ls hG hl
    unfold f_X0_plainWithTag_40 at hf
    refine lv_iconst (v := 0) hx hb dX0_plainWithTag_40 (by decide) ?_
    exact L41 rec5 hr5  x1 x2 x4 s0 0 hf H locs ls hG (lv_sub hl [0, 1, 2, 3] rfl)
  have L5 : ∀ (n : Nat), ∀ (x1 : Int32) (x2 : Int32) (x3 : Int32) (x4 : Int32), f_X0_plainWithTag_5 uh n x1 x2 x3 x4 = some (r') → ∀ (H : Heap) (locs : List Loc) (ls : Array Slot), xG D A s.heap (WH κ a uh) H locs → lv_has ls 5 [(0, .ref (a 0)), (1, .int x1), (2, .int x2), (3, .int x3), (4, .int x4)] → W p l e ({ frames := 1, cells := 0, slots := 0, locals := 22 } : Room) s m (([.ref (a 0), .int p1, .int p2] : List Value).toArray) below meth c H locs 0 0 (MQ below (xQi D κ r' (WH κ a uh) A) (([.ref (a 0), .int p1, .int p2] : List Value).toArray) s 0 0 A) (F0 m 5 ls []) := by
    intro  n
    induction n with
    | zero => intro x1 x2 x3 x4 hf; cases hf
    | succ n ih =>
      intro x1 x2 x3 x4 hf H locs ls hG hl
      replace hf : f_X0_plainWithTag_B5 uh (f_X0_plainWithTag_5 uh n) x1 x2 x3 x4 = some (r') := hf
      unfold f_X0_plainWithTag_B5 at hf
      refine lv_iload hx hb dX0_plainWithTag_5 (lv_at hl 4 rfl) ?_
      refine lv_aload_n hx hb dX0_plainWithTag_7 rfl (lv_at hl 0 rfl) ?_
      refine x_get (C := RX0) (T := TX0) (N := 17) (ci := 0) hx hb hts iX0 hown hK hG 0 rfl rfl 0 (by decide) k55 (v := .int (uh.came)) rfl dX0_plainWithTag_8 ?_
      refine lv_icmp_ge (tgt := 49) hx hb dX0_plainWithTag_11 (by decide) (fun c3 => ?_) (fun c3 => ?_)
      · replace hf := if_t c3 hf
        refine lv_iload_n hx hb dX0_plainWithTag_49 rfl (lv_at hl 3 rfl) ?_
        have z0 := Option.some.inj hf
        exact x_iret hx hb hr hlk hK hG z0 rfl dX0_plainWithTag_50
      · replace hf := if_f c3 hf
        refine lv_iload_n hx hb dX0_plainWithTag_14 rfl (lv_at hl 3 rfl) ?_
        refine lv_aload_n hx hb dX0_plainWithTag_15 rfl (lv_at hl 0 rfl) ?_
        refine lv_iload hx hb dX0_plainWithTag_16 (lv_at hl 4 rfl) ?_
        refine lv_iload_n hx hb dX0_plainWithTag_18 rfl (lv_at hl 1 rfl) ?_
        obtain ⟨r4, q5, hf⟩ := cl1_e hf
        refine x_callVi (pre := ([] : va_W)) (wc := WH κ a uh) (wc1 := WH κ a uh) (post := ([] : va_W)) (As := [.int x4, .int x1]) (rest := [.int x3]) (w1 := WH κ a uh) ⟨hx, hb, hml, hown, hts⟩ hK hG hA (by simp only [List.append_assoc, List.nil_append, List.append_nil]) (by simp only [List.append_assoc, List.nil_append, List.append_nil]) (c_X0_isPlainIn l D κ a H.size x4 x1 uh r4 q5) (cwV 2 hts gX0_plainWithTag_X0_isPlainIn rfl rfl rfl (by decide +kernel) ⟨Nat.le_of_ble_eq_true rfl, Nat.le_of_ble_eq_true rfl⟩) 0 0 rfl rfl rfl rfl hl.1 rfl (Nat.le_of_ble_eq_true rfl) dX0_plainWithTag_19 ⟨Nat.zero_le _, Nat.zero_le _⟩ (fun H locs hG => ?_)
        refine lv_if_eq (tgt := 40) hx hb dX0_plainWithTag_22 (by decide) (fun c6 => ?_) (fun c6 => ?_)
        · replace hf := if_t c6 hf
          exact L40 (f_X0_plainWithTag_5 uh n) ih  x1 x2 x4 x3 hf H locs ls hG (lv_sub hl [0, 1, 2, 4] rfl)
        · replace hf := if_f c6 hf
          refine lv_aload_n hx hb dX0_plainWithTag_25 rfl (lv_at hl 0 rfl) ?_
          refine x_get (C := RX0) (T := TX0) (N := 17) (ci := 0) hx hb hts iX0 hown hK hG 0 rfl rfl 7 (by decide) k25 (v := .ref (a 3)) rfl dX0_plainWithTag_26 ?_
          refine lv_iload hx hb dX0_plainWithTag_29 (lv_at hl 4 rfl) ?_
          obtain ⟨v7, ev7, hin, hf⟩ := ck_e hf
          refine x_iald hx hb hK hG 3 rfl ev7 hin dX0_plainWithTag_31 ?_
          refine lv_iload_n hx hb dX0_plainWithTag_32 rfl (lv_at hl 2 rfl) ?_
          refine lv_icmp_ne (tgt := 40) hx hb dX0_plainWithTag_33 (by decide) (fun c8 => ?_) (fun c8 => ?_)
          · replace hf := if_f c8 hf
            exact L40 (f_X0_plainWithTag_5 uh n) ih  x1 x2 x4 x3 hf H locs ls hG (lv_sub hl [0, 1, 2, 4] rfl)
          · replace hf := if_t c8 hf
            refine lv_iconst (v := 1) hx hb dX0_plainWithTag_36 (by decide) ?_
            refine lv_goto (tgt := 41) hx hb dX0_plainWithTag_37 (by decide) ?_
            exact L41 (f_X0_plainWithTag_5 uh n) ih  x1 x2 x4 x3 1 hf H locs ls hG (lv_sub hl [0, 1, 2, 4] rfl)
  unfold f_X0_plainWithTag at hf
  refine lv_iconst (v := 0) hx hb dX0_plainWithTag_0 (by decide) ?_
  refine lv_istore_n (lv' := [(3, .int 0), (0, .ref (a 0)), (1, .int p1), (2, .int p2)]) hx hb dX0_plainWithTag_1 rfl hl (by decide) rfl (fun ls hl => ?_)
  refine lv_iconst (v := 0) hx hb dX0_plainWithTag_2 (by decide) ?_
  refine lv_istore (lv' := [(4, .int 0), (3, .int 0), (0, .ref (a 0)), (1, .int p1), (2, .int p2)]) hx hb dX0_plainWithTag_3 hl (by decide) rfl (fun ls hl => ?_)
  exact L5  FU p1 p2 0 0 hf H locs ls hG (lv_sub hl [2, 3, 4, 1, 0] rfl)
set_option maxRecDepth 100000 in
set_option maxHeartbeats 4000000 in
theorem c_X0_rankedIn (l : Launch) (D : va_G) (κ : Nat → ClassId) (a : Nat → Nat) (sz : Nat) (p1 : Int32) (p2 : Int32) (uh : HS) (r' : Int32)  (hf : f_X0_rankedIn p1 p2 uh = some (r')) : Met l yX0_rankedIn wsX0_rankedIn ({ frames := 0, cells := 0, slots := 0, locals := 0 } : Room) (xPc D κ [.ref (a 0), .int p1, .int p2] (WH κ a uh) sz) (xQi D κ r' (WH κ a uh) (va_A (WH κ a uh) sz)) 0 0 (va_A (WH κ a uh) sz) := by
  refine x_ofW (cc := cX0_rankedIn) (maxL := 5) (ret := (some .int)) (Qf := fun A => xQi D κ r' (WH κ a uh) A) (by decide) rfl (Nat.le_of_ble_eq_true rfl) ?_
  intro p e s m below meth c hx hb hr hlk hml hown hts hK A hA H locs hG ls hl
  have hown : s.vm.findClass RX0 = some m.cls := hown
  have hl : lv_has ls 5 [(0, .ref (a 0)), (1, .int p1), (2, .int p2)] := hl
  have iX0 : ∀ w ∈ u_ws RX0 TX0 17, w ∈ wsX0_rankedIn := fun _ h => List.mem_cons_of_mem _ (List.mem_append_right _ h)
  have k28 := hts (.fieldLink RX0 28 "SpineDesks$Hall" "deskOf" "[I") (List.mem_of_getElem? (i := 2) rfl)
  have k43 := hts (.fieldLink RX0 43 "SpineDesks$Hall" "rank" "[I") (List.mem_of_getElem? (i := 3) rfl)
  have k55 := hts (.fieldLink RX0 55 "SpineDesks$Hall" "came" "I") (List.mem_of_getElem? (i := 1) rfl)
  have L42 : ∀ (rec5 : Int32 → Int32 → Int32 → Int32 → Option (Int32)) (hr5 : ∀ (y1 : Int32) (y2 : Int32) (y3 : Int32) (y4 : Int32), rec5 y1 y2 y3 y4 = some (r') → ∀ (H : Heap) (locs : List Loc) (ls : Array Slot), xG D A s.heap (WH κ a uh) H locs → lv_has ls 5 [(0, .ref (a 0)), (1, .int y1), (2, .int y2), (3, .int y3), (4, .int y4)] → W p l e ({ frames := 0, cells := 0, slots := 0, locals := 0 } : Room) s m (([.ref (a 0), .int p1, .int p2] : List Value).toArray) below meth c H locs 0 0 (MQ below (xQi D κ r' (WH κ a uh) A) (([.ref (a 0), .int p1, .int p2] : List Value).toArray) s 0 0 A) (F0 m 5 ls [])), ∀ (x1 : Int32) (x2 : Int32) (x4 : Int32) (s0 : Int32) (s1 : Int32), f_X0_rankedIn_42 uh rec5 x1 x2 x4 s0 s1 = some (r') → ∀ (H : Heap) (locs : List Loc) (ls : Array Slot), xG D A s.heap (WH κ a uh) H locs → lv_has ls 5 [(0, .ref (a 0)), (1, .int x1), (2, .int x2), (4, .int x4)] → W p l e ({ frames := 0, cells := 0, slots := 0, locals := 0 } : Room) s m (([.ref (a 0), .int p1, .int p2] : List Value).toArray) below meth c H locs 0 0 (MQ below (xQi D κ r' (WH κ a uh) A) (([.ref (a 0), .int p1, .int p2] : List Value).toArray) s 0 0 A) (F0 m 42 ls [.int s1, .int s0]) := by
    intro rec5 hr5 x1 x2 x4 s0 s1 hf H locs ls hG hl
    unfold f_X0_rankedIn_42 at hf
    refine lv_iadd hx hb dX0_rankedIn_42 ?_
    refine lv_topi (fun y1 ey1 => ?_)
    replace hf := bnd_at ey1 hf
    refine lv_istore_n (lv' := [(3, .int y1), (0, .ref (a 0)), (1, .int x1), (2, .int x2), (4, .int x4)]) hx hb dX0_rankedIn_43 rfl hl (by decide) rfl (fun ls hl => ?_)
    obtain ⟨y2, ey2, hf⟩ := bnd_e hf
    refine lv_iinc (v := y2) (lv' := [(4, .int y2), (3, .int y1), (0, .ref (a 0)), (1, .int x1), (2, .int x2)]) hx hb dX0_rankedIn_44 hl (k := 4) rfl (by rw [ey2]; rfl) (by decide) rfl (fun ls hl => ?_)
    refine lv_goto (tgt := 5) hx hb dX0_rankedIn_47 (by decide) ?_
    exact hr5 x1 x2 y1 y2 hf H locs ls hG (lv_sub hl [2, 3, 4, 1, 0] rfl)
  have L41 : ∀ (rec5 : Int32 → Int32 → Int32 → Int32 → Option (Int32)) (hr5 : ∀ (y1 : Int32) (y2 : Int32) (y3 : Int32) (y4 : Int32), rec5 y1 y2 y3 y4 = some (r') → ∀ (H : Heap) (locs : List Loc) (ls : Array Slot), xG D A s.heap (WH κ a uh) H locs → lv_has ls 5 [(0, .ref (a 0)), (1, .int y1), (2, .int y2), (3, .int y3), (4, .int y4)] → W p l e ({ frames := 0, cells := 0, slots := 0, locals := 0 } : Room) s m (([.ref (a 0), .int p1, .int p2] : List Value).toArray) below meth c H locs 0 0 (MQ below (xQi D κ r' (WH κ a uh) A) (([.ref (a 0), .int p1, .int p2] : List Value).toArray) s 0 0 A) (F0 m 5 ls [])), ∀ (x1 : Int32) (x2 : Int32) (x4 : Int32) (s0 : Int32), f_X0_rankedIn_41 uh rec5 x1 x2 x4 s0 = some (r') → ∀ (H : Heap) (locs : List Loc) (ls : Array Slot), xG D A s.heap (WH κ a uh) H locs → lv_has ls 5 [(0, .ref (a 0)), (1, .int x1), (2, .int x2), (4, .int x4)] → W p l e ({ frames := 0, cells := 0, slots := 0, locals := 0 } : Room) s m (([.ref (a 0), .int p1, .int p2] : List Value).toArray) below meth c H locs 0 0 (MQ below (xQi D κ r' (WH κ a uh) A) (([.ref (a 0), .int p1, .int p2] : List Value).toArray) s 0 0 A) (F0 m 41 ls [.int s0]) := by
    intro rec5 hr5 x1 x2 x4 s0 hf H locs ls hG hl
    unfold f_X0_rankedIn_41 at hf
    refine lv_iconst (v := 0) hx hb dX0_rankedIn_41 (by decide) ?_
    exact L42 rec5 hr5  x1 x2 x4 s0 0 hf H locs ls hG (lv_sub hl [0, 1, 2, 3] rfl)
  have L5 : ∀ (n : Nat), ∀ (x1 : Int32) (x2 : Int32) (x3 : Int32) (x4 : Int32), f_X0_rankedIn_5 uh n x1 x2 x3 x4 = some (r') → ∀ (H : Heap) (locs : List Loc) (ls : Array Slot), xG D A s.heap (WH κ a uh) H locs → lv_has ls 5 [(0, .ref (a 0)), (1, .int x1), (2, .int x2), (3, .int x3), (4, .int x4)] → W p l e ({ frames := 0, cells := 0, slots := 0, locals := 0 } : Room) s m (([.ref (a 0), .int p1, .int p2] : List Value).toArray) below meth c H locs 0 0 (MQ below (xQi D κ r' (WH κ a uh) A) (([.ref (a 0), .int p1, .int p2] : List Value).toArray) s 0 0 A) (F0 m 5 ls []) := by
    intro  n
    induction n with
    | zero => intro x1 x2 x3 x4 hf; cases hf
    | succ n ih =>
      intro x1 x2 x3 x4 hf H locs ls hG hl
      replace hf : f_X0_rankedIn_B5 uh (f_X0_rankedIn_5 uh n) x1 x2 x3 x4 = some (r') := hf
      unfold f_X0_rankedIn_B5 at hf
      refine lv_iload hx hb dX0_rankedIn_5 (lv_at hl 4 rfl) ?_
      refine lv_aload_n hx hb dX0_rankedIn_7 rfl (lv_at hl 0 rfl) ?_
      refine x_get (C := RX0) (T := TX0) (N := 17) (ci := 0) hx hb hts iX0 hown hK hG 0 rfl rfl 0 (by decide) k55 (v := .int (uh.came)) rfl dX0_rankedIn_8 ?_
      refine lv_icmp_ge (tgt := 50) hx hb dX0_rankedIn_11 (by decide) (fun c3 => ?_) (fun c3 => ?_)
      · replace hf := if_t c3 hf
        refine lv_iload_n hx hb dX0_rankedIn_50 rfl (lv_at hl 3 rfl) ?_
        have z0 := Option.some.inj hf
        exact x_iret hx hb hr hlk hK hG z0 rfl dX0_rankedIn_51
      · replace hf := if_f c3 hf
        refine lv_iload_n hx hb dX0_rankedIn_14 rfl (lv_at hl 3 rfl) ?_
        refine lv_aload_n hx hb dX0_rankedIn_15 rfl (lv_at hl 0 rfl) ?_
        refine x_get (C := RX0) (T := TX0) (N := 17) (ci := 0) hx hb hts iX0 hown hK hG 0 rfl rfl 8 (by decide) k28 (v := .ref (a 4)) rfl dX0_rankedIn_16 ?_
        refine lv_iload hx hb dX0_rankedIn_19 (lv_at hl 4 rfl) ?_
        obtain ⟨v4, ev4, hin, hf⟩ := ck_e hf
        refine x_iald hx hb hK hG 4 rfl ev4 hin dX0_rankedIn_21 ?_
        refine lv_iload_n hx hb dX0_rankedIn_22 rfl (lv_at hl 1 rfl) ?_
        refine lv_icmp_ne (tgt := 41) hx hb dX0_rankedIn_23 (by decide) (fun c5 => ?_) (fun c5 => ?_)
        · replace hf := if_f c5 hf
          exact L41 (f_X0_rankedIn_5 uh n) ih  x1 x2 x4 x3 hf H locs ls hG (lv_sub hl [0, 1, 2, 4] rfl)
        · replace hf := if_t c5 hf
          refine lv_aload_n hx hb dX0_rankedIn_26 rfl (lv_at hl 0 rfl) ?_
          refine x_get (C := RX0) (T := TX0) (N := 17) (ci := 0) hx hb hts iX0 hown hK hG 0 rfl rfl 13 (by decide) k43 (v := .ref (a 9)) rfl dX0_rankedIn_27 ?_
          refine lv_iload hx hb dX0_rankedIn_30 (lv_at hl 4 rfl) ?_
          obtain ⟨v6, ev6, hin, hf⟩ := ck_e hf
          refine x_iald hx hb hK hG 9 rfl ev6 hin dX0_rankedIn_32 ?_
          refine lv_iload_n hx hb dX0_rankedIn_33 rfl (lv_at hl 2 rfl) ?_
          refine lv_icmp_ne (tgt := 41) hx hb dX0_rankedIn_34 (by decide) (fun c7 => ?_) (fun c7 => ?_)
          · replace hf := if_f c7 hf
            exact L41 (f_X0_rankedIn_5 uh n) ih  x1 x2 x4 x3 hf H locs ls hG (lv_sub hl [0, 1, 2, 4] rfl)
          · replace hf := if_t c7 hf
            refine lv_iconst (v := 1) hx hb dX0_rankedIn_37 (by decide) ?_
            refine lv_goto (tgt := 42) hx hb dX0_rankedIn_38 (by decide) ?_
            exact L42 (f_X0_rankedIn_5 uh n) ih  x1 x2 x4 x3 1 hf H locs ls hG (lv_sub hl [0, 1, 2, 4] rfl)
  unfold f_X0_rankedIn at hf
  refine lv_iconst (v := 0) hx hb dX0_rankedIn_0 (by decide) ?_
  refine lv_istore_n (lv' := [(3, .int 0), (0, .ref (a 0)), (1, .int p1), (2, .int p2)]) hx hb dX0_rankedIn_1 rfl hl (by decide) rfl (fun ls hl => ?_)
  refine lv_iconst (v := 0) hx hb dX0_rankedIn_2 (by decide) ?_
  refine lv_istore (lv' := [(4, .int 0), (3, .int 0), (0, .ref (a 0)), (1, .int p1), (2, .int p2)]) hx hb dX0_rankedIn_3 hl (by decide) rfl (fun ls hl => ?_)
  exact L5  FU p1 p2 0 0 hf H locs ls hG (lv_sub hl [2, 3, 4, 1, 0] rfl)
set_option maxRecDepth 100000 in
set_option maxHeartbeats 4000000 in
theorem c_X0_allThere (l : Launch) (D : va_G) (κ : Nat → ClassId) (a : Nat → Nat) (sz : Nat)  (uh : HS) (r' : Int32)  (hf : f_X0_allThere uh = some (r')) : Met l yX0_allThere wsX0_allThere ({ frames := 0, cells := 0, slots := 0, locals := 0 } : Room) (xPc D κ [.ref (a 0)] (WH κ a uh) sz) (xQi D κ r' (WH κ a uh) (va_A (WH κ a uh) sz)) 0 0 (va_A (WH κ a uh) sz) := by
  refine x_ofW (cc := cX0_allThere) (maxL := 3) (ret := (some .int)) (Qf := fun A => xQi D κ r' (WH κ a uh) A) (by decide) rfl (Nat.le_of_ble_eq_true rfl) ?_
  intro p e s m below meth c hx hb hr hlk hml hown hts hK A hA H locs hG ls hl
  have hown : s.vm.findClass RX0 = some m.cls := hown
  have hl : lv_has ls 3 [(0, .ref (a 0))] := hl
  have iX0 : ∀ w ∈ u_ws RX0 TX0 17, w ∈ wsX0_allThere := fun _ h => List.mem_cons_of_mem _ (List.mem_append_right _ h)
  have k28 := hts (.fieldLink RX0 28 "SpineDesks$Hall" "deskOf" "[I") (List.mem_of_getElem? (i := 2) rfl)
  have k55 := hts (.fieldLink RX0 55 "SpineDesks$Hall" "came" "I") (List.mem_of_getElem? (i := 1) rfl)
  have L28 : ∀ (rec4 : Int32 → Int32 → Option (Int32)) (hr4 : ∀ (y1 : Int32) (y2 : Int32), rec4 y1 y2 = some (r') → ∀ (H : Heap) (locs : List Loc) (ls : Array Slot), xG D A s.heap (WH κ a uh) H locs → lv_has ls 3 [(0, .ref (a 0)), (1, .int y1), (2, .int y2)] → W p l e ({ frames := 0, cells := 0, slots := 0, locals := 0 } : Room) s m (([.ref (a 0)] : List Value).toArray) below meth c H locs 0 0 (MQ below (xQi D κ r' (WH κ a uh) A) (([.ref (a 0)] : List Value).toArray) s 0 0 A) (F0 m 4 ls [])), ∀ (x2 : Int32) (s0 : Int32) (s1 : Int32), f_X0_allThere_28 uh rec4 x2 s0 s1 = some (r') → ∀ (H : Heap) (locs : List Loc) (ls : Array Slot), xG D A s.heap (WH κ a uh) H locs → lv_has ls 3 [(0, .ref (a 0)), (2, .int x2)] → W p l e ({ frames := 0, cells := 0, slots := 0, locals := 0 } : Room) s m (([.ref (a 0)] : List Value).toArray) below meth c H locs 0 0 (MQ below (xQi D κ r' (WH κ a uh) A) (([.ref (a 0)] : List Value).toArray) s 0 0 A) (F0 m 28 ls [.int s1, .int s0]) := by
    intro rec4 hr4 x2 s0 s1 hf H locs ls hG hl
    unfold f_X0_allThere_28 at hf
    refine lv_iadd hx hb dX0_allThere_28 ?_
    refine lv_topi (fun y1 ey1 => ?_)
    replace hf := bnd_at ey1 hf
    refine lv_istore_n (lv' := [(1, .int y1), (0, .ref (a 0)), (2, .int x2)]) hx hb dX0_allThere_29 rfl hl (by decide) rfl (fun ls hl => ?_)
    obtain ⟨y2, ey2, hf⟩ := bnd_e hf
    refine lv_iinc (v := y2) (lv' := [(2, .int y2), (1, .int y1), (0, .ref (a 0))]) hx hb dX0_allThere_30 hl (k := 2) rfl (by rw [ey2]; rfl) (by decide) rfl (fun ls hl => ?_)
    refine lv_goto (tgt := 4) hx hb dX0_allThere_33 (by decide) ?_
    exact hr4 y1 y2 hf H locs ls hG (lv_sub hl [2, 1, 0] rfl)
  have L4 : ∀ (n : Nat), ∀ (x1 : Int32) (x2 : Int32), f_X0_allThere_4 uh n x1 x2 = some (r') → ∀ (H : Heap) (locs : List Loc) (ls : Array Slot), xG D A s.heap (WH κ a uh) H locs → lv_has ls 3 [(0, .ref (a 0)), (1, .int x1), (2, .int x2)] → W p l e ({ frames := 0, cells := 0, slots := 0, locals := 0 } : Room) s m (([.ref (a 0)] : List Value).toArray) below meth c H locs 0 0 (MQ below (xQi D κ r' (WH κ a uh) A) (([.ref (a 0)] : List Value).toArray) s 0 0 A) (F0 m 4 ls []) := by
    intro  n
    induction n with
    | zero => intro x1 x2 hf; cases hf
    | succ n ih =>
      intro x1 x2 hf H locs ls hG hl
      replace hf : f_X0_allThere_B4 uh (f_X0_allThere_4 uh n) x1 x2 = some (r') := hf
      unfold f_X0_allThere_B4 at hf
      refine lv_iload_n hx hb dX0_allThere_4 rfl (lv_at hl 2 rfl) ?_
      refine lv_aload_n hx hb dX0_allThere_5 rfl (lv_at hl 0 rfl) ?_
      refine x_get (C := RX0) (T := TX0) (N := 17) (ci := 0) hx hb hts iX0 hown hK hG 0 rfl rfl 0 (by decide) k55 (v := .int (uh.came)) rfl dX0_allThere_6 ?_
      refine lv_icmp_ge (tgt := 36) hx hb dX0_allThere_9 (by decide) (fun c3 => ?_) (fun c3 => ?_)
      · replace hf := if_t c3 hf
        refine lv_iload_n hx hb dX0_allThere_36 rfl (lv_at hl 1 rfl) ?_
        have z0 := Option.some.inj hf
        exact x_iret hx hb hr hlk hK hG z0 rfl dX0_allThere_37
      · replace hf := if_f c3 hf
        refine lv_iload_n hx hb dX0_allThere_12 rfl (lv_at hl 1 rfl) ?_
        refine lv_aload_n hx hb dX0_allThere_13 rfl (lv_at hl 0 rfl) ?_
        refine x_get (C := RX0) (T := TX0) (N := 17) (ci := 0) hx hb hts iX0 hown hK hG 0 rfl rfl 8 (by decide) k28 (v := .ref (a 4)) rfl dX0_allThere_14 ?_
        refine lv_iload_n hx hb dX0_allThere_17 rfl (lv_at hl 2 rfl) ?_
        obtain ⟨v4, ev4, hin, hf⟩ := ck_e hf
        refine x_iald hx hb hK hG 4 rfl ev4 hin dX0_allThere_18 ?_
        refine lv_iconst (v := (-1)) hx hb dX0_allThere_19 (by decide) ?_
        refine lv_icmp_eq (tgt := 27) hx hb dX0_allThere_20 (by decide) (fun c5 => ?_) (fun c5 => ?_)
        · replace hf := if_t c5 hf
          refine lv_iconst (v := 0) hx hb dX0_allThere_27 (by decide) ?_
          exact L28 (f_X0_allThere_4 uh n) ih  x2 x1 0 hf H locs ls hG (lv_sub hl [0, 2] rfl)
        · replace hf := if_f c5 hf
          refine lv_iconst (v := 1) hx hb dX0_allThere_23 (by decide) ?_
          refine lv_goto (tgt := 28) hx hb dX0_allThere_24 (by decide) ?_
          exact L28 (f_X0_allThere_4 uh n) ih  x2 x1 1 hf H locs ls hG (lv_sub hl [0, 2] rfl)
  unfold f_X0_allThere at hf
  refine lv_iconst (v := 0) hx hb dX0_allThere_0 (by decide) ?_
  refine lv_istore_n (lv' := [(1, .int 0), (0, .ref (a 0))]) hx hb dX0_allThere_1 rfl hl (by decide) rfl (fun ls hl => ?_)
  refine lv_iconst (v := 0) hx hb dX0_allThere_2 (by decide) ?_
  refine lv_istore_n (lv' := [(2, .int 0), (1, .int 0), (0, .ref (a 0))]) hx hb dX0_allThere_3 rfl hl (by decide) rfl (fun ls hl => ?_)
  exact L4  FU 0 0 hf H locs ls hG (lv_sub hl [2, 1, 0] rfl)
set_option maxRecDepth 100000 in
set_option maxHeartbeats 4000000 in
theorem c_X0_plainThere (l : Launch) (D : va_G) (κ : Nat → ClassId) (a : Nat → Nat) (sz : Nat)  (uh : HS) (r' : Int32)  (hf : f_X0_plainThere uh = some (r')) : Met l yX0_plainThere wsX0_plainThere ({ frames := 0, cells := 0, slots := 0, locals := 0 } : Room) (xPc D κ [.ref (a 0)] (WH κ a uh) sz) (xQi D κ r' (WH κ a uh) (va_A (WH κ a uh) sz)) 0 0 (va_A (WH κ a uh) sz) := by
  refine x_ofW (cc := cX0_plainThere) (maxL := 3) (ret := (some .int)) (Qf := fun A => xQi D κ r' (WH κ a uh) A) (by decide) rfl (Nat.le_of_ble_eq_true rfl) ?_
  intro p e s m below meth c hx hb hr hlk hml hown hts hK A hA H locs hG ls hl
  have hown : s.vm.findClass RX0 = some m.cls := hown
  have hl : lv_has ls 3 [(0, .ref (a 0))] := hl
  have iX0 : ∀ w ∈ u_ws RX0 TX0 17, w ∈ wsX0_plainThere := fun _ h => List.mem_cons_of_mem _ (List.mem_append_right _ h)
  have k28 := hts (.fieldLink RX0 28 "SpineDesks$Hall" "deskOf" "[I") (List.mem_of_getElem? (i := 2) rfl)
  have k31 := hts (.fieldLink RX0 31 "SpineDesks$Hall" "crossed" "[I") (List.mem_of_getElem? (i := 3) rfl)
  have k55 := hts (.fieldLink RX0 55 "SpineDesks$Hall" "came" "I") (List.mem_of_getElem? (i := 1) rfl)
  have L37 : ∀ (rec4 : Int32 → Int32 → Option (Int32)) (hr4 : ∀ (y1 : Int32) (y2 : Int32), rec4 y1 y2 = some (r') → ∀ (H : Heap) (locs : List Loc) (ls : Array Slot), xG D A s.heap (WH κ a uh) H locs → lv_has ls 3 [(0, .ref (a 0)), (1, .int y1), (2, .int y2)] → W p l e ({ frames := 0, cells := 0, slots := 0, locals := 0 } : Room) s m (([.ref (a 0)] : List Value).toArray) below meth c H locs 0 0 (MQ below (xQi D κ r' (WH κ a uh) A) (([.ref (a 0)] : List Value).toArray) s 0 0 A) (F0 m 4 ls [])), ∀ (x2 : Int32) (s0 : Int32) (s1 : Int32), f_X0_plainThere_37 uh rec4 x2 s0 s1 = some (r') → ∀ (H : Heap) (locs : List Loc) (ls : Array Slot), xG D A s.heap (WH κ a uh) H locs → lv_has ls 3 [(0, .ref (a 0)), (2, .int x2)] → W p l e ({ frames := 0, cells := 0, slots := 0, locals := 0 } : Room) s m (([.ref (a 0)] : List Value).toArray) below meth c H locs 0 0 (MQ below (xQi D κ r' (WH κ a uh) A) (([.ref (a 0)] : List Value).toArray) s 0 0 A) (F0 m 37 ls [.int s1, .int s0]) := by
    intro rec4 hr4 x2 s0 s1 hf H locs ls hG hl
    unfold f_X0_plainThere_37 at hf
    refine lv_iadd hx hb dX0_plainThere_37 ?_
    refine lv_topi (fun y1 ey1 => ?_)
    replace hf := bnd_at ey1 hf
    refine lv_istore_n (lv' := [(1, .int y1), (0, .ref (a 0)), (2, .int x2)]) hx hb dX0_plainThere_38 rfl hl (by decide) rfl (fun ls hl => ?_)
    obtain ⟨y2, ey2, hf⟩ := bnd_e hf
    refine lv_iinc (v := y2) (lv' := [(2, .int y2), (1, .int y1), (0, .ref (a 0))]) hx hb dX0_plainThere_39 hl (k := 2) rfl (by rw [ey2]; rfl) (by decide) rfl (fun ls hl => ?_)
    refine lv_goto (tgt := 4) hx hb dX0_plainThere_42 (by decide) ?_
    exact hr4 y1 y2 hf H locs ls hG (lv_sub hl [2, 1, 0] rfl)
  have L36 : ∀ (rec4 : Int32 → Int32 → Option (Int32)) (hr4 : ∀ (y1 : Int32) (y2 : Int32), rec4 y1 y2 = some (r') → ∀ (H : Heap) (locs : List Loc) (ls : Array Slot), xG D A s.heap (WH κ a uh) H locs → lv_has ls 3 [(0, .ref (a 0)), (1, .int y1), (2, .int y2)] → W p l e ({ frames := 0, cells := 0, slots := 0, locals := 0 } : Room) s m (([.ref (a 0)] : List Value).toArray) below meth c H locs 0 0 (MQ below (xQi D κ r' (WH κ a uh) A) (([.ref (a 0)] : List Value).toArray) s 0 0 A) (F0 m 4 ls [])), ∀ (x2 : Int32) (s0 : Int32), f_X0_plainThere_36 uh rec4 x2 s0 = some (r') → ∀ (H : Heap) (locs : List Loc) (ls : Array Slot), xG D A s.heap (WH κ a uh) H locs → lv_has ls 3 [(0, .ref (a 0)), (2, .int x2)] → W p l e ({ frames := 0, cells := 0, slots := 0, locals := 0 } : Room) s m (([.ref (a 0)] : List Value).toArray) below meth c H locs 0 0 (MQ below (xQi D κ r' (WH κ a uh) A) (([.ref (a 0)] : List Value).toArray) s 0 0 A) (F0 m 36 ls [.int s0]) := by
    intro rec4 hr4 x2 s0 hf H locs ls hG hl
    unfold f_X0_plainThere_36 at hf
    refine lv_iconst (v := 0) hx hb dX0_plainThere_36 (by decide) ?_
    exact L37 rec4 hr4  x2 s0 0 hf H locs ls hG (lv_sub hl [0, 1] rfl)
  have L4 : ∀ (n : Nat), ∀ (x1 : Int32) (x2 : Int32), f_X0_plainThere_4 uh n x1 x2 = some (r') → ∀ (H : Heap) (locs : List Loc) (ls : Array Slot), xG D A s.heap (WH κ a uh) H locs → lv_has ls 3 [(0, .ref (a 0)), (1, .int x1), (2, .int x2)] → W p l e ({ frames := 0, cells := 0, slots := 0, locals := 0 } : Room) s m (([.ref (a 0)] : List Value).toArray) below meth c H locs 0 0 (MQ below (xQi D κ r' (WH κ a uh) A) (([.ref (a 0)] : List Value).toArray) s 0 0 A) (F0 m 4 ls []) := by
    intro  n
    induction n with
    | zero => intro x1 x2 hf; cases hf
    | succ n ih =>
      intro x1 x2 hf H locs ls hG hl
      replace hf : f_X0_plainThere_B4 uh (f_X0_plainThere_4 uh n) x1 x2 = some (r') := hf
      unfold f_X0_plainThere_B4 at hf
      refine lv_iload_n hx hb dX0_plainThere_4 rfl (lv_at hl 2 rfl) ?_
      refine lv_aload_n hx hb dX0_plainThere_5 rfl (lv_at hl 0 rfl) ?_
      refine x_get (C := RX0) (T := TX0) (N := 17) (ci := 0) hx hb hts iX0 hown hK hG 0 rfl rfl 0 (by decide) k55 (v := .int (uh.came)) rfl dX0_plainThere_6 ?_
      refine lv_icmp_ge (tgt := 45) hx hb dX0_plainThere_9 (by decide) (fun c3 => ?_) (fun c3 => ?_)
      · replace hf := if_t c3 hf
        refine lv_iload_n hx hb dX0_plainThere_45 rfl (lv_at hl 1 rfl) ?_
        have z0 := Option.some.inj hf
        exact x_iret hx hb hr hlk hK hG z0 rfl dX0_plainThere_46
      · replace hf := if_f c3 hf
        refine lv_iload_n hx hb dX0_plainThere_12 rfl (lv_at hl 1 rfl) ?_
        refine lv_aload_n hx hb dX0_plainThere_13 rfl (lv_at hl 0 rfl) ?_
        refine x_get (C := RX0) (T := TX0) (N := 17) (ci := 0) hx hb hts iX0 hown hK hG 0 rfl rfl 8 (by decide) k28 (v := .ref (a 4)) rfl dX0_plainThere_14 ?_
        refine lv_iload_n hx hb dX0_plainThere_17 rfl (lv_at hl 2 rfl) ?_
        obtain ⟨v4, ev4, hin, hf⟩ := ck_e hf
        refine x_iald hx hb hK hG 4 rfl ev4 hin dX0_plainThere_18 ?_
        refine lv_iconst (v := (-1)) hx hb dX0_plainThere_19 (by decide) ?_
        refine lv_icmp_eq (tgt := 36) hx hb dX0_plainThere_20 (by decide) (fun c5 => ?_) (fun c5 => ?_)
        · replace hf := if_t c5 hf
          exact L36 (f_X0_plainThere_4 uh n) ih  x2 x1 hf H locs ls hG (lv_sub hl [0, 2] rfl)
        · replace hf := if_f c5 hf
          refine lv_aload_n hx hb dX0_plainThere_23 rfl (lv_at hl 0 rfl) ?_
          refine x_get (C := RX0) (T := TX0) (N := 17) (ci := 0) hx hb hts iX0 hown hK hG 0 rfl rfl 9 (by decide) k31 (v := .ref (a 5)) rfl dX0_plainThere_24 ?_
          refine lv_iload_n hx hb dX0_plainThere_27 rfl (lv_at hl 2 rfl) ?_
          obtain ⟨v6, ev6, hin, hf⟩ := ck_e hf
          refine x_iald hx hb hK hG 5 rfl ev6 hin dX0_plainThere_28 ?_
          refine lv_if_ne (tgt := 36) hx hb dX0_plainThere_29 (by decide) (fun c7 => ?_) (fun c7 => ?_)
          · replace hf := if_f c7 hf
            exact L36 (f_X0_plainThere_4 uh n) ih  x2 x1 hf H locs ls hG (lv_sub hl [0, 2] rfl)
          · replace hf := if_t c7 hf
            refine lv_iconst (v := 1) hx hb dX0_plainThere_32 (by decide) ?_
            refine lv_goto (tgt := 37) hx hb dX0_plainThere_33 (by decide) ?_
            exact L37 (f_X0_plainThere_4 uh n) ih  x2 x1 1 hf H locs ls hG (lv_sub hl [0, 2] rfl)
  unfold f_X0_plainThere at hf
  refine lv_iconst (v := 0) hx hb dX0_plainThere_0 (by decide) ?_
  refine lv_istore_n (lv' := [(1, .int 0), (0, .ref (a 0))]) hx hb dX0_plainThere_1 rfl hl (by decide) rfl (fun ls hl => ?_)
  refine lv_iconst (v := 0) hx hb dX0_plainThere_2 (by decide) ?_
  refine lv_istore_n (lv' := [(2, .int 0), (1, .int 0), (0, .ref (a 0))]) hx hb dX0_plainThere_3 rfl hl (by decide) rfl (fun ls hl => ?_)
  exact L4  FU 0 0 hf H locs ls hG (lv_sub hl [2, 1, 0] rfl)
set_option maxRecDepth 100000 in
set_option maxHeartbeats 4000000 in
theorem c_X0_logSize (l : Launch) (D : va_G) (κ : Nat → ClassId) (a : Nat → Nat) (sz : Nat)  (uh : HS) (r' : Int32)  (hf : f_X0_logSize uh = some (r')) : Met l yX0_logSize wsX0_logSize ({ frames := 1, cells := 0, slots := 0, locals := 24 } : Room) (xPc D κ [.ref (a 0)] (WH κ a uh) sz) (xQi D κ r' (WH κ a uh) (va_A (WH κ a uh) sz)) 0 0 (va_A (WH κ a uh) sz) := by
  refine x_ofW (cc := cX0_logSize) (maxL := 1) (ret := (some .int)) (Qf := fun A => xQi D κ r' (WH κ a uh) A) (by decide) rfl (Nat.le_of_ble_eq_true rfl) ?_
  intro p e s m below meth c hx hb hr hlk hml hown hts hK A hA H locs hG ls hl
  have hown : s.vm.findClass RX0 = some m.cls := hown
  have hl : lv_has ls 1 [(0, .ref (a 0))] := hl
  have iX0 : ∀ w ∈ u_ws RX0 TX0 17, w ∈ wsX0_logSize := fun _ h => List.mem_cons_of_mem _ (List.mem_append_right _ h)
  have k109 := hts (.methodLink RX0 109 Lib.Math.min.name) (List.mem_of_getElem? (i := 2) rfl)
  have k65 := hts (.fieldLink RX0 65 "SpineDesks$Hall" "logged" "I") (List.mem_of_getElem? (i := 1) rfl)
  have kc109 := hts (.code Lib.Math.min.name Lib.Math.min.code 2 (some .int)) (List.mem_of_getElem? (i := 5) rfl)
  have ki := hts (.initialized "java/lang/Math") (List.mem_of_getElem? (i := 4) rfl)
  have ks109 := hts (.static Lib.Math.min.name) (List.mem_of_getElem? (i := 3) rfl)
  unfold f_X0_logSize at hf
  refine lv_aload_n hx hb dX0_logSize_0 rfl (lv_at hl 0 rfl) ?_
  refine x_get (C := RX0) (T := TX0) (N := 17) (ci := 0) hx hb hts iX0 hown hK hG 0 rfl rfl 3 (by decide) k65 (v := .int (uh.logged)) rfl dX0_logSize_1 ?_
  refine lv_bipush (v := 40) hx hb dX0_logSize_4 (by decide) ?_
  refine va_mmin hx hb (hml.trans hl.1.symm) hown k109 ks109 ki kc109 (Nat.le_of_ble_eq_true rfl) (Nat.le_of_ble_eq_true rfl) (Nat.zero_le _) (Nat.zero_le _) dX0_logSize_6 ?_
  refine lv_topi (fun y1 ey1 => ?_)
  replace hf := bnd_at ey1 hf
  have z0 := Option.some.inj hf
  exact x_iret hx hb hr hlk hK hG z0 rfl dX0_logSize_9
set_option maxRecDepth 100000 in
set_option maxHeartbeats 4000000 in
theorem c_X0_logPlace (l : Launch) (D : va_G) (κ : Nat → ClassId) (a : Nat → Nat) (sz : Nat) (p1 : Int32) (uh : HS) (r' : Int32)  (hf : f_X0_logPlace p1 uh = some (r')) : Met l yX0_logPlace wsX0_logPlace ({ frames := 0, cells := 0, slots := 0, locals := 0 } : Room) (xPc D κ [.ref (a 0), .int p1] (WH κ a uh) sz) (xQi D κ r' (WH κ a uh) (va_A (WH κ a uh) sz)) 0 0 (va_A (WH κ a uh) sz) := by
  refine x_ofW (cc := cX0_logPlace) (maxL := 2) (ret := (some .int)) (Qf := fun A => xQi D κ r' (WH κ a uh) A) (by decide) rfl (Nat.le_of_ble_eq_true rfl) ?_
  intro p e s m below meth c hx hb hr hlk hml hown hts hK A hA H locs hG ls hl
  have hown : s.vm.findClass RX0 = some m.cls := hown
  have hl : lv_has ls 2 [(0, .ref (a 0)), (1, .int p1)] := hl
  have iX0 : ∀ w ∈ u_ws RX0 TX0 17, w ∈ wsX0_logPlace := fun _ h => List.mem_cons_of_mem _ (List.mem_append_right _ h)
  have k65 := hts (.fieldLink RX0 65 "SpineDesks$Hall" "logged" "I") (List.mem_of_getElem? (i := 1) rfl)
  unfold f_X0_logPlace at hf
  refine lv_aload_n hx hb dX0_logPlace_0 rfl (lv_at hl 0 rfl) ?_
  refine x_get (C := RX0) (T := TX0) (N := 17) (ci := 0) hx hb hts iX0 hown hK hG 0 rfl rfl 3 (by decide) k65 (v := .int (uh.logged)) rfl dX0_logPlace_1 ?_
  refine lv_iconst (v := 1) hx hb dX0_logPlace_4 (by decide) ?_
  refine lv_isub hx hb dX0_logPlace_5 ?_
  refine lv_iload_n hx hb dX0_logPlace_6 rfl (lv_at hl 1 rfl) ?_
  refine lv_isub hx hb dX0_logPlace_7 ?_
  refine lv_bipush (v := 40) hx hb dX0_logPlace_8 (by decide) ?_
  refine lv_irem hx hb dX0_logPlace_10 (by decide) ?_
  have z0 := Option.some.inj hf
  exact x_iret hx hb hr hlk hK hG z0 rfl dX0_logPlace_11
set_option maxRecDepth 100000 in
set_option maxHeartbeats 4000000 in
theorem c_X1_isThere (l : Launch) (D : va_G) (κ : Nat → ClassId) (a : Nat → Nat) (sz : Nat) (p1 : Int32) (un : NS) (r' : Int32)  (hf : f_X1_isThere p1 un = some (r')) : Met l yX1_isThere wsX1_isThere ({ frames := 0, cells := 0, slots := 0, locals := 0 } : Room) (xPc D κ [.ref (a 19), .int p1] (WN κ a un) sz) (xQi D κ r' (WN κ a un) (va_A (WN κ a un) sz)) 0 0 (va_A (WN κ a un) sz) := by
  refine x_ofW (cc := cX1_isThere) (maxL := 2) (ret := (some .boolean)) (Qf := fun A => xQi D κ r' (WN κ a un) A) (by decide) rfl (Nat.le_of_ble_eq_true rfl) ?_
  intro p e s m below meth c hx hb hr hlk hml hown hts hK A hA H locs hG ls hl
  have hown : s.vm.findClass RX1 = some m.cls := hown
  have hl : lv_has ls 2 [(0, .ref (a 19)), (1, .int p1)] := hl
  have iX1 : ∀ w ∈ u_ws RX1 TX1 3, w ∈ wsX1_isThere := fun _ h => List.mem_cons_of_mem _ (List.mem_append_right _ h)
  have k9 := hts (.fieldLink RX1 9 "SpineDesks$Net" "from" "[I") (List.mem_of_getElem? (i := 1) rfl)
  unfold f_X1_isThere at hf
  refine lv_iload_n hx hb dX1_isThere_0 rfl (lv_at hl 1 rfl) ?_
  refine lv_if_lt (tgt := 24) hx hb dX1_isThere_1 (by decide) (fun c1 => ?_) (fun c1 => ?_)
  · replace hf := if_t c1 hf
    refine lv_iconst (v := 0) hx hb dX1_isThere_24 (by decide) ?_
    have z0 := Option.some.inj hf
    exact x_zret hx hb hr hlk hK hG (by decide) z0 rfl dX1_isThere_25
  · replace hf := if_f c1 hf
    refine lv_iload_n hx hb dX1_isThere_4 rfl (lv_at hl 1 rfl) ?_
    refine lv_bipush (v := 20) hx hb dX1_isThere_5 (by decide) ?_
    refine lv_icmp_ge (tgt := 24) hx hb dX1_isThere_7 (by decide) (fun c2 => ?_) (fun c2 => ?_)
    · replace hf := if_t c2 hf
      refine lv_iconst (v := 0) hx hb dX1_isThere_24 (by decide) ?_
      have z0 := Option.some.inj hf
      exact x_zret hx hb hr hlk hK hG (by decide) z0 rfl dX1_isThere_25
    · replace hf := if_f c2 hf
      refine lv_aload_n hx hb dX1_isThere_10 rfl (lv_at hl 0 rfl) ?_
      refine x_get (C := RX1) (T := TX1) (N := 3) (ci := 1) hx hb hts iX1 hown hK hG 0 rfl rfl 0 (by decide) k9 (v := .ref (a 20)) rfl dX1_isThere_11 ?_
      refine lv_iload_n hx hb dX1_isThere_14 rfl (lv_at hl 1 rfl) ?_
      obtain ⟨v3, ev3, hin, hf⟩ := ck_e hf
      refine x_iald hx hb hK hG 1 rfl ev3 hin dX1_isThere_15 ?_
      refine lv_iconst (v := (-1)) hx hb dX1_isThere_16 (by decide) ?_
      refine lv_icmp_eq (tgt := 24) hx hb dX1_isThere_17 (by decide) (fun c4 => ?_) (fun c4 => ?_)
      · replace hf := if_t c4 hf
        refine lv_iconst (v := 0) hx hb dX1_isThere_24 (by decide) ?_
        have z0 := Option.some.inj hf
        exact x_zret hx hb hr hlk hK hG (by decide) z0 rfl dX1_isThere_25
      · replace hf := if_f c4 hf
        refine lv_iconst (v := 1) hx hb dX1_isThere_20 (by decide) ?_
        refine lv_goto (tgt := 25) hx hb dX1_isThere_21 (by decide) ?_
        have z0 := Option.some.inj hf
        exact x_zret hx hb hr hlk hK hG (by decide) z0 rfl dX1_isThere_25
set_option maxRecDepth 100000 in
set_option maxHeartbeats 4000000 in
theorem c_X1_firstFree (l : Launch) (D : va_G) (κ : Nat → ClassId) (a : Nat → Nat) (sz : Nat)  (un : NS) (r' : Int32)  (hf : f_X1_firstFree un = some (r')) : Met l yX1_firstFree wsX1_firstFree ({ frames := 0, cells := 0, slots := 0, locals := 0 } : Room) (xPc D κ [.ref (a 19)] (WN κ a un) sz) (xQi D κ r' (WN κ a un) (va_A (WN κ a un) sz)) 0 0 (va_A (WN κ a un) sz) := by
  refine x_ofW (cc := cX1_firstFree) (maxL := 2) (ret := (some .int)) (Qf := fun A => xQi D κ r' (WN κ a un) A) (by decide) rfl (Nat.le_of_ble_eq_true rfl) ?_
  intro p e s m below meth c hx hb hr hlk hml hown hts hK A hA H locs hG ls hl
  have hown : s.vm.findClass RX1 = some m.cls := hown
  have hl : lv_has ls 2 [(0, .ref (a 19))] := hl
  have iX1 : ∀ w ∈ u_ws RX1 TX1 3, w ∈ wsX1_firstFree := fun _ h => List.mem_cons_of_mem _ (List.mem_append_right _ h)
  have k9 := hts (.fieldLink RX1 9 "SpineDesks$Net" "from" "[I") (List.mem_of_getElem? (i := 1) rfl)
  have L2 : ∀ (n : Nat), ∀ (x1 : Int32), f_X1_firstFree_2 un n x1 = some (r') → ∀ (H : Heap) (locs : List Loc) (ls : Array Slot), xG D A s.heap (WN κ a un) H locs → lv_has ls 2 [(0, .ref (a 19)), (1, .int x1)] → W p l e ({ frames := 0, cells := 0, slots := 0, locals := 0 } : Room) s m (([.ref (a 19)] : List Value).toArray) below meth c H locs 0 0 (MQ below (xQi D κ r' (WN κ a un) A) (([.ref (a 19)] : List Value).toArray) s 0 0 A) (F0 m 2 ls []) := by
    intro  n
    induction n with
    | zero => intro x1 hf; cases hf
    | succ n ih =>
      intro x1 hf H locs ls hG hl
      replace hf : f_X1_firstFree_B2 un (f_X1_firstFree_2 un n) x1 = some (r') := hf
      unfold f_X1_firstFree_B2 at hf
      refine lv_iload_n hx hb dX1_firstFree_2 rfl (lv_at hl 1 rfl) ?_
      refine lv_bipush (v := 20) hx hb dX1_firstFree_3 (by decide) ?_
      refine lv_icmp_ge (tgt := 26) hx hb dX1_firstFree_5 (by decide) (fun c1 => ?_) (fun c1 => ?_)
      · replace hf := if_t c1 hf
        refine lv_iconst (v := (-1)) hx hb dX1_firstFree_26 (by decide) ?_
        have z0 := Option.some.inj hf
        exact x_iret hx hb hr hlk hK hG z0 rfl dX1_firstFree_27
      · replace hf := if_f c1 hf
        refine lv_aload_n hx hb dX1_firstFree_8 rfl (lv_at hl 0 rfl) ?_
        refine x_get (C := RX1) (T := TX1) (N := 3) (ci := 1) hx hb hts iX1 hown hK hG 0 rfl rfl 0 (by decide) k9 (v := .ref (a 20)) rfl dX1_firstFree_9 ?_
        refine lv_iload_n hx hb dX1_firstFree_12 rfl (lv_at hl 1 rfl) ?_
        obtain ⟨v2, ev2, hin, hf⟩ := ck_e hf
        refine x_iald hx hb hK hG 1 rfl ev2 hin dX1_firstFree_13 ?_
        refine lv_iconst (v := (-1)) hx hb dX1_firstFree_14 (by decide) ?_
        refine lv_icmp_ne (tgt := 20) hx hb dX1_firstFree_15 (by decide) (fun c3 => ?_) (fun c3 => ?_)
        · replace hf := if_f c3 hf
          obtain ⟨y4, ey4, hf⟩ := bnd_e hf
          refine lv_iinc (v := y4) (lv' := [(1, .int y4), (0, .ref (a 19))]) hx hb dX1_firstFree_20 hl (k := 1) rfl (by rw [ey4]; rfl) (by decide) rfl (fun ls hl => ?_)
          refine lv_goto (tgt := 2) hx hb dX1_firstFree_23 (by decide) ?_
          exact ih y4 hf H locs ls hG (lv_sub hl [1, 0] rfl)
        · replace hf := if_t c3 hf
          refine lv_iload_n hx hb dX1_firstFree_18 rfl (lv_at hl 1 rfl) ?_
          have z0 := Option.some.inj hf
          exact x_iret hx hb hr hlk hK hG z0 rfl dX1_firstFree_19
  unfold f_X1_firstFree at hf
  refine lv_iconst (v := 0) hx hb dX1_firstFree_0 (by decide) ?_
  refine lv_istore_n (lv' := [(1, .int 0), (0, .ref (a 19))]) hx hb dX1_firstFree_1 rfl hl (by decide) rfl (fun ls hl => ?_)
  exact L2  FU 0 hf H locs ls hG (lv_sub hl [1, 0] rfl)
set_option maxRecDepth 100000 in
set_option maxHeartbeats 4000000 in
theorem c_X1_size (l : Launch) (D : va_G) (κ : Nat → ClassId) (a : Nat → Nat) (sz : Nat)  (un : NS) (r' : Int32)  (hf : f_X1_size un = some (r')) : Met l yX1_size wsX1_size ({ frames := 0, cells := 0, slots := 0, locals := 0 } : Room) (xPc D κ [.ref (a 19)] (WN κ a un) sz) (xQi D κ r' (WN κ a un) (va_A (WN κ a un) sz)) 0 0 (va_A (WN κ a un) sz) := by
  refine x_ofW (cc := cX1_size) (maxL := 3) (ret := (some .int)) (Qf := fun A => xQi D κ r' (WN κ a un) A) (by decide) rfl (Nat.le_of_ble_eq_true rfl) ?_
  intro p e s m below meth c hx hb hr hlk hml hown hts hK A hA H locs hG ls hl
  have hown : s.vm.findClass RX1 = some m.cls := hown
  have hl : lv_has ls 3 [(0, .ref (a 19))] := hl
  have iX1 : ∀ w ∈ u_ws RX1 TX1 3, w ∈ wsX1_size := fun _ h => List.mem_cons_of_mem _ (List.mem_append_right _ h)
  have k9 := hts (.fieldLink RX1 9 "SpineDesks$Net" "from" "[I") (List.mem_of_getElem? (i := 1) rfl)
  have L26 : ∀ (rec4 : Int32 → Int32 → Option (Int32)) (hr4 : ∀ (y1 : Int32) (y2 : Int32), rec4 y1 y2 = some (r') → ∀ (H : Heap) (locs : List Loc) (ls : Array Slot), xG D A s.heap (WN κ a un) H locs → lv_has ls 3 [(0, .ref (a 19)), (1, .int y1), (2, .int y2)] → W p l e ({ frames := 0, cells := 0, slots := 0, locals := 0 } : Room) s m (([.ref (a 19)] : List Value).toArray) below meth c H locs 0 0 (MQ below (xQi D κ r' (WN κ a un) A) (([.ref (a 19)] : List Value).toArray) s 0 0 A) (F0 m 4 ls [])), ∀ (x2 : Int32) (s0 : Int32) (s1 : Int32), f_X1_size_26 un rec4 x2 s0 s1 = some (r') → ∀ (H : Heap) (locs : List Loc) (ls : Array Slot), xG D A s.heap (WN κ a un) H locs → lv_has ls 3 [(0, .ref (a 19)), (2, .int x2)] → W p l e ({ frames := 0, cells := 0, slots := 0, locals := 0 } : Room) s m (([.ref (a 19)] : List Value).toArray) below meth c H locs 0 0 (MQ below (xQi D κ r' (WN κ a un) A) (([.ref (a 19)] : List Value).toArray) s 0 0 A) (F0 m 26 ls [.int s1, .int s0]) := by
    intro rec4 hr4 x2 s0 s1 hf H locs ls hG hl
    unfold f_X1_size_26 at hf
    refine lv_iadd hx hb dX1_size_26 ?_
    refine lv_topi (fun y1 ey1 => ?_)
    replace hf := bnd_at ey1 hf
    refine lv_istore_n (lv' := [(1, .int y1), (0, .ref (a 19)), (2, .int x2)]) hx hb dX1_size_27 rfl hl (by decide) rfl (fun ls hl => ?_)
    obtain ⟨y2, ey2, hf⟩ := bnd_e hf
    refine lv_iinc (v := y2) (lv' := [(2, .int y2), (1, .int y1), (0, .ref (a 19))]) hx hb dX1_size_28 hl (k := 2) rfl (by rw [ey2]; rfl) (by decide) rfl (fun ls hl => ?_)
    refine lv_goto (tgt := 4) hx hb dX1_size_31 (by decide) ?_
    exact hr4 y1 y2 hf H locs ls hG (lv_sub hl [2, 1, 0] rfl)
  have L4 : ∀ (n : Nat), ∀ (x1 : Int32) (x2 : Int32), f_X1_size_4 un n x1 x2 = some (r') → ∀ (H : Heap) (locs : List Loc) (ls : Array Slot), xG D A s.heap (WN κ a un) H locs → lv_has ls 3 [(0, .ref (a 19)), (1, .int x1), (2, .int x2)] → W p l e ({ frames := 0, cells := 0, slots := 0, locals := 0 } : Room) s m (([.ref (a 19)] : List Value).toArray) below meth c H locs 0 0 (MQ below (xQi D κ r' (WN κ a un) A) (([.ref (a 19)] : List Value).toArray) s 0 0 A) (F0 m 4 ls []) := by
    intro  n
    induction n with
    | zero => intro x1 x2 hf; cases hf
    | succ n ih =>
      intro x1 x2 hf H locs ls hG hl
      replace hf : f_X1_size_B4 un (f_X1_size_4 un n) x1 x2 = some (r') := hf
      unfold f_X1_size_B4 at hf
      refine lv_iload_n hx hb dX1_size_4 rfl (lv_at hl 2 rfl) ?_
      refine lv_bipush (v := 20) hx hb dX1_size_5 (by decide) ?_
      refine lv_icmp_ge (tgt := 34) hx hb dX1_size_7 (by decide) (fun c3 => ?_) (fun c3 => ?_)
      · replace hf := if_t c3 hf
        refine lv_iload_n hx hb dX1_size_34 rfl (lv_at hl 1 rfl) ?_
        have z0 := Option.some.inj hf
        exact x_iret hx hb hr hlk hK hG z0 rfl dX1_size_35
      · replace hf := if_f c3 hf
        refine lv_iload_n hx hb dX1_size_10 rfl (lv_at hl 1 rfl) ?_
        refine lv_aload_n hx hb dX1_size_11 rfl (lv_at hl 0 rfl) ?_
        refine x_get (C := RX1) (T := TX1) (N := 3) (ci := 1) hx hb hts iX1 hown hK hG 0 rfl rfl 0 (by decide) k9 (v := .ref (a 20)) rfl dX1_size_12 ?_
        refine lv_iload_n hx hb dX1_size_15 rfl (lv_at hl 2 rfl) ?_
        obtain ⟨v4, ev4, hin, hf⟩ := ck_e hf
        refine x_iald hx hb hK hG 1 rfl ev4 hin dX1_size_16 ?_
        refine lv_iconst (v := (-1)) hx hb dX1_size_17 (by decide) ?_
        refine lv_icmp_eq (tgt := 25) hx hb dX1_size_18 (by decide) (fun c5 => ?_) (fun c5 => ?_)
        · replace hf := if_t c5 hf
          refine lv_iconst (v := 0) hx hb dX1_size_25 (by decide) ?_
          exact L26 (f_X1_size_4 un n) ih  x2 x1 0 hf H locs ls hG (lv_sub hl [0, 2] rfl)
        · replace hf := if_f c5 hf
          refine lv_iconst (v := 1) hx hb dX1_size_21 (by decide) ?_
          refine lv_goto (tgt := 26) hx hb dX1_size_22 (by decide) ?_
          exact L26 (f_X1_size_4 un n) ih  x2 x1 1 hf H locs ls hG (lv_sub hl [0, 2] rfl)
  unfold f_X1_size at hf
  refine lv_iconst (v := 0) hx hb dX1_size_0 (by decide) ?_
  refine lv_istore_n (lv' := [(1, .int 0), (0, .ref (a 19))]) hx hb dX1_size_1 rfl hl (by decide) rfl (fun ls hl => ?_)
  refine lv_iconst (v := 0) hx hb dX1_size_2 (by decide) ?_
  refine lv_istore_n (lv' := [(2, .int 0), (1, .int 0), (0, .ref (a 19))]) hx hb dX1_size_3 rfl hl (by decide) rfl (fun ls hl => ?_)
  exact L4  FU 0 0 hf H locs ls hG (lv_sub hl [2, 1, 0] rfl)
set_option maxRecDepth 100000 in
set_option maxHeartbeats 4000000 in
theorem c_X0_copyFrom (l : Launch) (D : va_G) (κ : Nat → ClassId) (a : Nat → Nat) (b : Nat → Nat) (sz : Nat)  (uh : HS) (uk : HS)  (uh' : HS) (hf : f_X0_copyFrom uh uk = some (uh')) : Met l yX0_copyFrom wsX0_copyFrom ({ frames := 1, cells := 0, slots := 0, locals := 64 } : Room) (xPc D κ [.ref (a 0), .ref (b 0)] (WH κ a uh ++ (WH κ b uk)) sz) (xQv D κ (WH κ a uh' ++ (WH κ b uk)) (va_A (WH κ a uh ++ (WH κ b uk)) sz)) 0 0 (va_A (WH κ a uh ++ (WH κ b uk)) sz) := by
  refine x_ofW (cc := cX0_copyFrom) (maxL := 2) (ret := none) (Qf := fun A => xQv D κ (WH κ a uh' ++ (WH κ b uk)) A) (by decide) rfl (Nat.le_of_ble_eq_true rfl) ?_
  intro p e s m below meth c hx hb hr hlk hml hown hts hK A hA H locs hG ls hl
  have hown : s.vm.findClass RX0 = some m.cls := hown
  have hl : lv_has ls 2 [(0, .ref (a 0)), (1, .ref (b 0))] := hl
  have iX0 : ∀ w ∈ u_ws RX0 TX0 17, w ∈ wsX0_copyFrom := fun _ h => List.mem_cons_of_mem _ (List.mem_append_right _ h)
  have k21 := hts (.fieldLink RX0 21 "SpineDesks$Hall" "keyOf" "[J") (List.mem_of_getElem? (i := 10) rfl)
  have k25 := hts (.fieldLink RX0 25 "SpineDesks$Hall" "tagOf" "[I") (List.mem_of_getElem? (i := 11) rfl)
  have k28 := hts (.fieldLink RX0 28 "SpineDesks$Hall" "deskOf" "[I") (List.mem_of_getElem? (i := 12) rfl)
  have k31 := hts (.fieldLink RX0 31 "SpineDesks$Hall" "crossed" "[I") (List.mem_of_getElem? (i := 13) rfl)
  have k34 := hts (.fieldLink RX0 34 "SpineDesks$Hall" "left" "[I") (List.mem_of_getElem? (i := 14) rfl)
  have k37 := hts (.fieldLink RX0 37 "SpineDesks$Hall" "right" "[I") (List.mem_of_getElem? (i := 15) rfl)
  have k40 := hts (.fieldLink RX0 40 "SpineDesks$Hall" "up" "[I") (List.mem_of_getElem? (i := 16) rfl)
  have k43 := hts (.fieldLink RX0 43 "SpineDesks$Hall" "rank" "[I") (List.mem_of_getElem? (i := 17) rfl)
  have k46 := hts (.fieldLink RX0 46 "SpineDesks$Hall" "logItem" "[I") (List.mem_of_getElem? (i := 18) rfl)
  have k49 := hts (.fieldLink RX0 49 "SpineDesks$Hall" "logKey" "[J") (List.mem_of_getElem? (i := 19) rfl)
  have k52 := hts (.fieldLink RX0 52 "SpineDesks$Hall" "logDesk" "[I") (List.mem_of_getElem? (i := 20) rfl)
  have k55 := hts (.fieldLink RX0 55 "SpineDesks$Hall" "came" "I") (List.mem_of_getElem? (i := 1) rfl)
  have k59 := hts (.fieldLink RX0 59 "SpineDesks$Hall" "turn" "I") (List.mem_of_getElem? (i := 2) rfl)
  have k62 := hts (.fieldLink RX0 62 "SpineDesks$Hall" "swept" "I") (List.mem_of_getElem? (i := 3) rfl)
  have k65 := hts (.fieldLink RX0 65 "SpineDesks$Hall" "logged" "I") (List.mem_of_getElem? (i := 4) rfl)
  have k68 := hts (.methodLink RX0 68 arraycopyName) (List.mem_of_getElem? (i := 6) rfl)
  have k9 := hts (.fieldLink RX0 9 "SpineDesks$Hall" "root" "[I") (List.mem_of_getElem? (i := 5) rfl)
  have ki := hts (.initialized "java/lang/System") (List.mem_of_getElem? (i := 9) rfl)
  have kn := hts (.native arraycopyName) (List.mem_of_getElem? (i := 7) rfl)
  have ks := hts (.static arraycopyName) (List.mem_of_getElem? (i := 8) rfl)
  unfold f_X0_copyFrom at hf
  refine lv_aload_n hx hb dX0_copyFrom_0 rfl (lv_at hl 0 rfl) ?_
  refine lv_aload_n hx hb dX0_copyFrom_1 rfl (lv_at hl 1 rfl) ?_
  refine x_get (C := RX0) (T := TX0) (N := 17) (ci := 0) hx hb hts iX0 hown hK hG 13 rfl rfl 0 (by decide) k55 (v := .int (uk.came)) rfl dX0_copyFrom_2 ?_
  obtain ⟨uh1, euh1, hf⟩ := bnd_e hf
  refine x_put (C := RX0) (T := TX0) (N := 17) (ci := 0) hx hb hts iX0 tyX0 tyX0_ok nmX0 hown hK hG 0 rfl rfl 0 (by decide) k55 rfl (ty := .int) (v := .int (uk.came)) rfl rfl rfl (Nat.le_of_ble_eq_true rfl) (w1 := WH κ a uh1 ++ (WH κ b uk)) (by rw [euh1]; rfl) dX0_copyFrom_5 (fun H locs hG => ?_)
  refine lv_aload_n hx hb dX0_copyFrom_8 rfl (lv_at hl 0 rfl) ?_
  refine lv_aload_n hx hb dX0_copyFrom_9 rfl (lv_at hl 1 rfl) ?_
  refine x_get (C := RX0) (T := TX0) (N := 17) (ci := 0) hx hb hts iX0 hown hK hG 13 rfl rfl 1 (by decide) k59 (v := .int (uk.turn)) rfl dX0_copyFrom_10 ?_
  obtain ⟨uh2, euh2, hf⟩ := bnd_e hf
  refine x_put (C := RX0) (T := TX0) (N := 17) (ci := 0) hx hb hts iX0 tyX0 tyX0_ok nmX0 hown hK hG 0 rfl rfl 1 (by decide) k59 rfl (ty := .int) (v := .int (uk.turn)) rfl rfl rfl (Nat.le_of_ble_eq_true rfl) (w1 := WH κ a uh2 ++ (WH κ b uk)) (by rw [euh2]; rfl) dX0_copyFrom_13 (fun H locs hG => ?_)
  refine lv_aload_n hx hb dX0_copyFrom_16 rfl (lv_at hl 0 rfl) ?_
  refine lv_aload_n hx hb dX0_copyFrom_17 rfl (lv_at hl 1 rfl) ?_
  refine x_get (C := RX0) (T := TX0) (N := 17) (ci := 0) hx hb hts iX0 hown hK hG 13 rfl rfl 2 (by decide) k62 (v := .int (uk.swept)) rfl dX0_copyFrom_18 ?_
  obtain ⟨uh3, euh3, hf⟩ := bnd_e hf
  refine x_put (C := RX0) (T := TX0) (N := 17) (ci := 0) hx hb hts iX0 tyX0 tyX0_ok nmX0 hown hK hG 0 rfl rfl 2 (by decide) k62 rfl (ty := .int) (v := .int (uk.swept)) rfl rfl rfl (Nat.le_of_ble_eq_true rfl) (w1 := WH κ a uh3 ++ (WH κ b uk)) (by rw [euh3]; rfl) dX0_copyFrom_21 (fun H locs hG => ?_)
  refine lv_aload_n hx hb dX0_copyFrom_24 rfl (lv_at hl 0 rfl) ?_
  refine lv_aload_n hx hb dX0_copyFrom_25 rfl (lv_at hl 1 rfl) ?_
  refine x_get (C := RX0) (T := TX0) (N := 17) (ci := 0) hx hb hts iX0 hown hK hG 13 rfl rfl 3 (by decide) k65 (v := .int (uk.logged)) rfl dX0_copyFrom_26 ?_
  obtain ⟨uh4, euh4, hf⟩ := bnd_e hf
  refine x_put (C := RX0) (T := TX0) (N := 17) (ci := 0) hx hb hts iX0 tyX0 tyX0_ok nmX0 hown hK hG 0 rfl rfl 3 (by decide) k65 rfl (ty := .int) (v := .int (uk.logged)) rfl rfl rfl (Nat.le_of_ble_eq_true rfl) (w1 := WH κ a uh4 ++ (WH κ b uk)) (by rw [euh4]; rfl) dX0_copyFrom_29 (fun H locs hG => ?_)
  refine lv_aload_n hx hb dX0_copyFrom_32 rfl (lv_at hl 1 rfl) ?_
  refine x_get (C := RX0) (T := TX0) (N := 17) (ci := 0) hx hb hts iX0 hown hK hG 13 rfl rfl 5 (by decide) k9 (v := .ref (b 1)) rfl dX0_copyFrom_33 ?_
  refine lv_iconst (v := 0) hx hb dX0_copyFrom_36 (by decide) ?_
  refine lv_aload_n hx hb dX0_copyFrom_37 rfl (lv_at hl 0 rfl) ?_
  refine x_get (C := RX0) (T := TX0) (N := 17) (ci := 0) hx hb hts iX0 hown hK hG 0 rfl rfl 5 (by decide) k9 (v := .ref (a 1)) rfl dX0_copyFrom_38 ?_
  refine lv_iconst (v := 0) hx hb dX0_copyFrom_41 (by decide) ?_
  refine lv_bipush (v := 6) hx hb dX0_copyFrom_42 (by decide) ?_
  obtain ⟨uh5, euh5, hin, hf⟩ := ckc_e hf
  refine x_copyi hx hb (hml.trans hl.1.symm) hown k68 kn ks ki hK hG 14 1 rfl rfl (w1 := WH κ a uh5 ++ (WH κ b uk)) (by rw [euh5]; rfl) hin (Nat.le_of_ble_eq_true rfl) (Nat.le_of_ble_eq_true rfl) dX0_copyFrom_44 (fun H locs hG => ?_)
  refine lv_aload_n hx hb dX0_copyFrom_47 rfl (lv_at hl 1 rfl) ?_
  refine x_get (C := RX0) (T := TX0) (N := 17) (ci := 0) hx hb hts iX0 hown hK hG 13 rfl rfl 6 (by decide) k21 (v := .ref (b 2)) rfl dX0_copyFrom_48 ?_
  refine lv_iconst (v := 0) hx hb dX0_copyFrom_51 (by decide) ?_
  refine lv_aload_n hx hb dX0_copyFrom_52 rfl (lv_at hl 0 rfl) ?_
  refine x_get (C := RX0) (T := TX0) (N := 17) (ci := 0) hx hb hts iX0 hown hK hG 0 rfl rfl 6 (by decide) k21 (v := .ref (a 2)) rfl dX0_copyFrom_53 ?_
  refine lv_iconst (v := 0) hx hb dX0_copyFrom_56 (by decide) ?_
  refine lv_aload_n hx hb dX0_copyFrom_57 rfl (lv_at hl 0 rfl) ?_
  refine x_get (C := RX0) (T := TX0) (N := 17) (ci := 0) hx hb hts iX0 hown hK hG 0 rfl rfl 0 (by decide) k55 (v := .int (uh5.came)) rfl dX0_copyFrom_58 ?_
  obtain ⟨uh6, euh6, hin, hf⟩ := ckc_e hf
  refine x_copyl hx hb (hml.trans hl.1.symm) hown k68 kn ks ki hK hG 15 2 rfl rfl (w1 := WH κ a uh6 ++ (WH κ b uk)) (by rw [euh6]; rfl) hin (Nat.le_of_ble_eq_true rfl) (Nat.le_of_ble_eq_true rfl) dX0_copyFrom_61 (fun H locs hG => ?_)
  refine lv_aload_n hx hb dX0_copyFrom_64 rfl (lv_at hl 1 rfl) ?_
  refine x_get (C := RX0) (T := TX0) (N := 17) (ci := 0) hx hb hts iX0 hown hK hG 13 rfl rfl 7 (by decide) k25 (v := .ref (b 3)) rfl dX0_copyFrom_65 ?_
  refine lv_iconst (v := 0) hx hb dX0_copyFrom_68 (by decide) ?_
  refine lv_aload_n hx hb dX0_copyFrom_69 rfl (lv_at hl 0 rfl) ?_
  refine x_get (C := RX0) (T := TX0) (N := 17) (ci := 0) hx hb hts iX0 hown hK hG 0 rfl rfl 7 (by decide) k25 (v := .ref (a 3)) rfl dX0_copyFrom_70 ?_
  refine lv_iconst (v := 0) hx hb dX0_copyFrom_73 (by decide) ?_
  refine lv_aload_n hx hb dX0_copyFrom_74 rfl (lv_at hl 0 rfl) ?_
  refine x_get (C := RX0) (T := TX0) (N := 17) (ci := 0) hx hb hts iX0 hown hK hG 0 rfl rfl 0 (by decide) k55 (v := .int (uh6.came)) rfl dX0_copyFrom_75 ?_
  obtain ⟨uh7, euh7, hin, hf⟩ := ckc_e hf
  refine x_copyi hx hb (hml.trans hl.1.symm) hown k68 kn ks ki hK hG 16 3 rfl rfl (w1 := WH κ a uh7 ++ (WH κ b uk)) (by rw [euh7]; rfl) hin (Nat.le_of_ble_eq_true rfl) (Nat.le_of_ble_eq_true rfl) dX0_copyFrom_78 (fun H locs hG => ?_)
  refine lv_aload_n hx hb dX0_copyFrom_81 rfl (lv_at hl 1 rfl) ?_
  refine x_get (C := RX0) (T := TX0) (N := 17) (ci := 0) hx hb hts iX0 hown hK hG 13 rfl rfl 8 (by decide) k28 (v := .ref (b 4)) rfl dX0_copyFrom_82 ?_
  refine lv_iconst (v := 0) hx hb dX0_copyFrom_85 (by decide) ?_
  refine lv_aload_n hx hb dX0_copyFrom_86 rfl (lv_at hl 0 rfl) ?_
  refine x_get (C := RX0) (T := TX0) (N := 17) (ci := 0) hx hb hts iX0 hown hK hG 0 rfl rfl 8 (by decide) k28 (v := .ref (a 4)) rfl dX0_copyFrom_87 ?_
  refine lv_iconst (v := 0) hx hb dX0_copyFrom_90 (by decide) ?_
  refine lv_aload_n hx hb dX0_copyFrom_91 rfl (lv_at hl 0 rfl) ?_
  refine x_get (C := RX0) (T := TX0) (N := 17) (ci := 0) hx hb hts iX0 hown hK hG 0 rfl rfl 0 (by decide) k55 (v := .int (uh7.came)) rfl dX0_copyFrom_92 ?_
  obtain ⟨uh8, euh8, hin, hf⟩ := ckc_e hf
  refine x_copyi hx hb (hml.trans hl.1.symm) hown k68 kn ks ki hK hG 17 4 rfl rfl (w1 := WH κ a uh8 ++ (WH κ b uk)) (by rw [euh8]; rfl) hin (Nat.le_of_ble_eq_true rfl) (Nat.le_of_ble_eq_true rfl) dX0_copyFrom_95 (fun H locs hG => ?_)
  refine lv_aload_n hx hb dX0_copyFrom_98 rfl (lv_at hl 1 rfl) ?_
  refine x_get (C := RX0) (T := TX0) (N := 17) (ci := 0) hx hb hts iX0 hown hK hG 13 rfl rfl 9 (by decide) k31 (v := .ref (b 5)) rfl dX0_copyFrom_99 ?_
  refine lv_iconst (v := 0) hx hb dX0_copyFrom_102 (by decide) ?_
  refine lv_aload_n hx hb dX0_copyFrom_103 rfl (lv_at hl 0 rfl) ?_
  refine x_get (C := RX0) (T := TX0) (N := 17) (ci := 0) hx hb hts iX0 hown hK hG 0 rfl rfl 9 (by decide) k31 (v := .ref (a 5)) rfl dX0_copyFrom_104 ?_
  refine lv_iconst (v := 0) hx hb dX0_copyFrom_107 (by decide) ?_
  refine lv_aload_n hx hb dX0_copyFrom_108 rfl (lv_at hl 0 rfl) ?_
  refine x_get (C := RX0) (T := TX0) (N := 17) (ci := 0) hx hb hts iX0 hown hK hG 0 rfl rfl 0 (by decide) k55 (v := .int (uh8.came)) rfl dX0_copyFrom_109 ?_
  obtain ⟨uh9, euh9, hin, hf⟩ := ckc_e hf
  refine x_copyi hx hb (hml.trans hl.1.symm) hown k68 kn ks ki hK hG 18 5 rfl rfl (w1 := WH κ a uh9 ++ (WH κ b uk)) (by rw [euh9]; rfl) hin (Nat.le_of_ble_eq_true rfl) (Nat.le_of_ble_eq_true rfl) dX0_copyFrom_112 (fun H locs hG => ?_)
  refine lv_aload_n hx hb dX0_copyFrom_115 rfl (lv_at hl 1 rfl) ?_
  refine x_get (C := RX0) (T := TX0) (N := 17) (ci := 0) hx hb hts iX0 hown hK hG 13 rfl rfl 10 (by decide) k34 (v := .ref (b 6)) rfl dX0_copyFrom_116 ?_
  refine lv_iconst (v := 0) hx hb dX0_copyFrom_119 (by decide) ?_
  refine lv_aload_n hx hb dX0_copyFrom_120 rfl (lv_at hl 0 rfl) ?_
  refine x_get (C := RX0) (T := TX0) (N := 17) (ci := 0) hx hb hts iX0 hown hK hG 0 rfl rfl 10 (by decide) k34 (v := .ref (a 6)) rfl dX0_copyFrom_121 ?_
  refine lv_iconst (v := 0) hx hb dX0_copyFrom_124 (by decide) ?_
  refine lv_aload_n hx hb dX0_copyFrom_125 rfl (lv_at hl 0 rfl) ?_
  refine x_get (C := RX0) (T := TX0) (N := 17) (ci := 0) hx hb hts iX0 hown hK hG 0 rfl rfl 0 (by decide) k55 (v := .int (uh9.came)) rfl dX0_copyFrom_126 ?_
  obtain ⟨uh10, euh10, hin, hf⟩ := ckc_e hf
  refine x_copyi hx hb (hml.trans hl.1.symm) hown k68 kn ks ki hK hG 19 6 rfl rfl (w1 := WH κ a uh10 ++ (WH κ b uk)) (by rw [euh10]; rfl) hin (Nat.le_of_ble_eq_true rfl) (Nat.le_of_ble_eq_true rfl) dX0_copyFrom_129 (fun H locs hG => ?_)
  refine lv_aload_n hx hb dX0_copyFrom_132 rfl (lv_at hl 1 rfl) ?_
  refine x_get (C := RX0) (T := TX0) (N := 17) (ci := 0) hx hb hts iX0 hown hK hG 13 rfl rfl 11 (by decide) k37 (v := .ref (b 7)) rfl dX0_copyFrom_133 ?_
  refine lv_iconst (v := 0) hx hb dX0_copyFrom_136 (by decide) ?_
  refine lv_aload_n hx hb dX0_copyFrom_137 rfl (lv_at hl 0 rfl) ?_
  refine x_get (C := RX0) (T := TX0) (N := 17) (ci := 0) hx hb hts iX0 hown hK hG 0 rfl rfl 11 (by decide) k37 (v := .ref (a 7)) rfl dX0_copyFrom_138 ?_
  refine lv_iconst (v := 0) hx hb dX0_copyFrom_141 (by decide) ?_
  refine lv_aload_n hx hb dX0_copyFrom_142 rfl (lv_at hl 0 rfl) ?_
  refine x_get (C := RX0) (T := TX0) (N := 17) (ci := 0) hx hb hts iX0 hown hK hG 0 rfl rfl 0 (by decide) k55 (v := .int (uh10.came)) rfl dX0_copyFrom_143 ?_
  obtain ⟨uh11, euh11, hin, hf⟩ := ckc_e hf
  refine x_copyi hx hb (hml.trans hl.1.symm) hown k68 kn ks ki hK hG 20 7 rfl rfl (w1 := WH κ a uh11 ++ (WH κ b uk)) (by rw [euh11]; rfl) hin (Nat.le_of_ble_eq_true rfl) (Nat.le_of_ble_eq_true rfl) dX0_copyFrom_146 (fun H locs hG => ?_)
  refine lv_aload_n hx hb dX0_copyFrom_149 rfl (lv_at hl 1 rfl) ?_
  refine x_get (C := RX0) (T := TX0) (N := 17) (ci := 0) hx hb hts iX0 hown hK hG 13 rfl rfl 12 (by decide) k40 (v := .ref (b 8)) rfl dX0_copyFrom_150 ?_
  refine lv_iconst (v := 0) hx hb dX0_copyFrom_153 (by decide) ?_
  refine lv_aload_n hx hb dX0_copyFrom_154 rfl (lv_at hl 0 rfl) ?_
  refine x_get (C := RX0) (T := TX0) (N := 17) (ci := 0) hx hb hts iX0 hown hK hG 0 rfl rfl 12 (by decide) k40 (v := .ref (a 8)) rfl dX0_copyFrom_155 ?_
  refine lv_iconst (v := 0) hx hb dX0_copyFrom_158 (by decide) ?_
  refine lv_aload_n hx hb dX0_copyFrom_159 rfl (lv_at hl 0 rfl) ?_
  refine x_get (C := RX0) (T := TX0) (N := 17) (ci := 0) hx hb hts iX0 hown hK hG 0 rfl rfl 0 (by decide) k55 (v := .int (uh11.came)) rfl dX0_copyFrom_160 ?_
  obtain ⟨uh12, euh12, hin, hf⟩ := ckc_e hf
  refine x_copyi hx hb (hml.trans hl.1.symm) hown k68 kn ks ki hK hG 21 8 rfl rfl (w1 := WH κ a uh12 ++ (WH κ b uk)) (by rw [euh12]; rfl) hin (Nat.le_of_ble_eq_true rfl) (Nat.le_of_ble_eq_true rfl) dX0_copyFrom_163 (fun H locs hG => ?_)
  refine lv_aload_n hx hb dX0_copyFrom_166 rfl (lv_at hl 1 rfl) ?_
  refine x_get (C := RX0) (T := TX0) (N := 17) (ci := 0) hx hb hts iX0 hown hK hG 13 rfl rfl 13 (by decide) k43 (v := .ref (b 9)) rfl dX0_copyFrom_167 ?_
  refine lv_iconst (v := 0) hx hb dX0_copyFrom_170 (by decide) ?_
  refine lv_aload_n hx hb dX0_copyFrom_171 rfl (lv_at hl 0 rfl) ?_
  refine x_get (C := RX0) (T := TX0) (N := 17) (ci := 0) hx hb hts iX0 hown hK hG 0 rfl rfl 13 (by decide) k43 (v := .ref (a 9)) rfl dX0_copyFrom_172 ?_
  refine lv_iconst (v := 0) hx hb dX0_copyFrom_175 (by decide) ?_
  refine lv_aload_n hx hb dX0_copyFrom_176 rfl (lv_at hl 0 rfl) ?_
  refine x_get (C := RX0) (T := TX0) (N := 17) (ci := 0) hx hb hts iX0 hown hK hG 0 rfl rfl 0 (by decide) k55 (v := .int (uh12.came)) rfl dX0_copyFrom_177 ?_
  obtain ⟨uh13, euh13, hin, hf⟩ := ckc_e hf
  refine x_copyi hx hb (hml.trans hl.1.symm) hown k68 kn ks ki hK hG 22 9 rfl rfl (w1 := WH κ a uh13 ++ (WH κ b uk)) (by rw [euh13]; rfl) hin (Nat.le_of_ble_eq_true rfl) (Nat.le_of_ble_eq_true rfl) dX0_copyFrom_180 (fun H locs hG => ?_)
  refine lv_aload_n hx hb dX0_copyFrom_183 rfl (lv_at hl 1 rfl) ?_
  refine x_get (C := RX0) (T := TX0) (N := 17) (ci := 0) hx hb hts iX0 hown hK hG 13 rfl rfl 14 (by decide) k46 (v := .ref (b 10)) rfl dX0_copyFrom_184 ?_
  refine lv_iconst (v := 0) hx hb dX0_copyFrom_187 (by decide) ?_
  refine lv_aload_n hx hb dX0_copyFrom_188 rfl (lv_at hl 0 rfl) ?_
  refine x_get (C := RX0) (T := TX0) (N := 17) (ci := 0) hx hb hts iX0 hown hK hG 0 rfl rfl 14 (by decide) k46 (v := .ref (a 10)) rfl dX0_copyFrom_189 ?_
  refine lv_iconst (v := 0) hx hb dX0_copyFrom_192 (by decide) ?_
  refine lv_bipush (v := 40) hx hb dX0_copyFrom_193 (by decide) ?_
  obtain ⟨uh14, euh14, hin, hf⟩ := ckc_e hf
  refine x_copyi hx hb (hml.trans hl.1.symm) hown k68 kn ks ki hK hG 23 10 rfl rfl (w1 := WH κ a uh14 ++ (WH κ b uk)) (by rw [euh14]; rfl) hin (Nat.le_of_ble_eq_true rfl) (Nat.le_of_ble_eq_true rfl) dX0_copyFrom_195 (fun H locs hG => ?_)
  refine lv_aload_n hx hb dX0_copyFrom_198 rfl (lv_at hl 1 rfl) ?_
  refine x_get (C := RX0) (T := TX0) (N := 17) (ci := 0) hx hb hts iX0 hown hK hG 13 rfl rfl 15 (by decide) k49 (v := .ref (b 11)) rfl dX0_copyFrom_199 ?_
  refine lv_iconst (v := 0) hx hb dX0_copyFrom_202 (by decide) ?_
  refine lv_aload_n hx hb dX0_copyFrom_203 rfl (lv_at hl 0 rfl) ?_
  refine x_get (C := RX0) (T := TX0) (N := 17) (ci := 0) hx hb hts iX0 hown hK hG 0 rfl rfl 15 (by decide) k49 (v := .ref (a 11)) rfl dX0_copyFrom_204 ?_
  refine lv_iconst (v := 0) hx hb dX0_copyFrom_207 (by decide) ?_
  refine lv_bipush (v := 40) hx hb dX0_copyFrom_208 (by decide) ?_
  obtain ⟨uh15, euh15, hin, hf⟩ := ckc_e hf
  refine x_copyl hx hb (hml.trans hl.1.symm) hown k68 kn ks ki hK hG 24 11 rfl rfl (w1 := WH κ a uh15 ++ (WH κ b uk)) (by rw [euh15]; rfl) hin (Nat.le_of_ble_eq_true rfl) (Nat.le_of_ble_eq_true rfl) dX0_copyFrom_210 (fun H locs hG => ?_)
  refine lv_aload_n hx hb dX0_copyFrom_213 rfl (lv_at hl 1 rfl) ?_
  refine x_get (C := RX0) (T := TX0) (N := 17) (ci := 0) hx hb hts iX0 hown hK hG 13 rfl rfl 16 (by decide) k52 (v := .ref (b 12)) rfl dX0_copyFrom_214 ?_
  refine lv_iconst (v := 0) hx hb dX0_copyFrom_217 (by decide) ?_
  refine lv_aload_n hx hb dX0_copyFrom_218 rfl (lv_at hl 0 rfl) ?_
  refine x_get (C := RX0) (T := TX0) (N := 17) (ci := 0) hx hb hts iX0 hown hK hG 0 rfl rfl 16 (by decide) k52 (v := .ref (a 12)) rfl dX0_copyFrom_219 ?_
  refine lv_iconst (v := 0) hx hb dX0_copyFrom_222 (by decide) ?_
  refine lv_bipush (v := 40) hx hb dX0_copyFrom_223 (by decide) ?_
  obtain ⟨uh16, euh16, hin, hf⟩ := ckc_e hf
  refine x_copyi hx hb (hml.trans hl.1.symm) hown k68 kn ks ki hK hG 25 12 rfl rfl (w1 := WH κ a uh16 ++ (WH κ b uk)) (by rw [euh16]; rfl) hin (Nat.le_of_ble_eq_true rfl) (Nat.le_of_ble_eq_true rfl) dX0_copyFrom_225 (fun H locs hG => ?_)
  have z0 := Option.some.inj hf
  exact x_vret hx hb hr hlk hK hG (by rw [z0]) dX0_copyFrom_228
set_option maxRecDepth 100000 in
set_option maxHeartbeats 4000000 in
theorem c_X1_copyFrom (l : Launch) (D : va_G) (κ : Nat → ClassId) (a : Nat → Nat) (b : Nat → Nat) (sz : Nat)  (un : NS) (um : NS)  (un' : NS) (hf : f_X1_copyFrom un um = some (un')) : Met l yX1_copyFrom wsX1_copyFrom ({ frames := 1, cells := 0, slots := 0, locals := 64 } : Room) (xPc D κ [.ref (a 19), .ref (b 19)] (WN κ a un ++ (WN κ b um)) sz) (xQv D κ (WN κ a un' ++ (WN κ b um)) (va_A (WN κ a un ++ (WN κ b um)) sz)) 0 0 (va_A (WN κ a un ++ (WN κ b um)) sz) := by
  refine x_ofW (cc := cX1_copyFrom) (maxL := 2) (ret := none) (Qf := fun A => xQv D κ (WN κ a un' ++ (WN κ b um)) A) (by decide) rfl (Nat.le_of_ble_eq_true rfl) ?_
  intro p e s m below meth c hx hb hr hlk hml hown hts hK A hA H locs hG ls hl
  have hown : s.vm.findClass RX1 = some m.cls := hown
  have hl : lv_has ls 2 [(0, .ref (a 19)), (1, .ref (b 19))] := hl
  have iX1 : ∀ w ∈ u_ws RX1 TX1 3, w ∈ wsX1_copyFrom := fun _ h => List.mem_cons_of_mem _ (List.mem_append_right _ h)
  have k21 := hts (.fieldLink RX1 21 "SpineDesks$Net" "to" "[I") (List.mem_of_getElem? (i := 6) rfl)
  have k24 := hts (.fieldLink RX1 24 "SpineDesks$Net" "cost" "[I") (List.mem_of_getElem? (i := 7) rfl)
  have k27 := hts (.methodLink RX1 27 arraycopyName) (List.mem_of_getElem? (i := 2) rfl)
  have k9 := hts (.fieldLink RX1 9 "SpineDesks$Net" "from" "[I") (List.mem_of_getElem? (i := 1) rfl)
  have ki := hts (.initialized "java/lang/System") (List.mem_of_getElem? (i := 5) rfl)
  have kn := hts (.native arraycopyName) (List.mem_of_getElem? (i := 3) rfl)
  have ks := hts (.static arraycopyName) (List.mem_of_getElem? (i := 4) rfl)
  unfold f_X1_copyFrom at hf
  refine lv_aload_n hx hb dX1_copyFrom_0 rfl (lv_at hl 1 rfl) ?_
  refine x_get (C := RX1) (T := TX1) (N := 3) (ci := 1) hx hb hts iX1 hown hK hG 4 rfl rfl 0 (by decide) k9 (v := .ref (b 20)) rfl dX1_copyFrom_1 ?_
  refine lv_iconst (v := 0) hx hb dX1_copyFrom_4 (by decide) ?_
  refine lv_aload_n hx hb dX1_copyFrom_5 rfl (lv_at hl 0 rfl) ?_
  refine x_get (C := RX1) (T := TX1) (N := 3) (ci := 1) hx hb hts iX1 hown hK hG 0 rfl rfl 0 (by decide) k9 (v := .ref (a 20)) rfl dX1_copyFrom_6 ?_
  refine lv_iconst (v := 0) hx hb dX1_copyFrom_9 (by decide) ?_
  refine lv_bipush (v := 20) hx hb dX1_copyFrom_10 (by decide) ?_
  obtain ⟨un1, eun1, hin, hf⟩ := ckc_e hf
  refine x_copyi hx hb (hml.trans hl.1.symm) hown k27 kn ks ki hK hG 5 1 rfl rfl (w1 := WN κ a un1 ++ (WN κ b um)) (by rw [eun1]; rfl) hin (Nat.le_of_ble_eq_true rfl) (Nat.le_of_ble_eq_true rfl) dX1_copyFrom_12 (fun H locs hG => ?_)
  refine lv_aload_n hx hb dX1_copyFrom_15 rfl (lv_at hl 1 rfl) ?_
  refine x_get (C := RX1) (T := TX1) (N := 3) (ci := 1) hx hb hts iX1 hown hK hG 4 rfl rfl 1 (by decide) k21 (v := .ref (b 21)) rfl dX1_copyFrom_16 ?_
  refine lv_iconst (v := 0) hx hb dX1_copyFrom_19 (by decide) ?_
  refine lv_aload_n hx hb dX1_copyFrom_20 rfl (lv_at hl 0 rfl) ?_
  refine x_get (C := RX1) (T := TX1) (N := 3) (ci := 1) hx hb hts iX1 hown hK hG 0 rfl rfl 1 (by decide) k21 (v := .ref (a 21)) rfl dX1_copyFrom_21 ?_
  refine lv_iconst (v := 0) hx hb dX1_copyFrom_24 (by decide) ?_
  refine lv_bipush (v := 20) hx hb dX1_copyFrom_25 (by decide) ?_
  obtain ⟨un2, eun2, hin, hf⟩ := ckc_e hf
  refine x_copyi hx hb (hml.trans hl.1.symm) hown k27 kn ks ki hK hG 6 2 rfl rfl (w1 := WN κ a un2 ++ (WN κ b um)) (by rw [eun2]; rfl) hin (Nat.le_of_ble_eq_true rfl) (Nat.le_of_ble_eq_true rfl) dX1_copyFrom_27 (fun H locs hG => ?_)
  refine lv_aload_n hx hb dX1_copyFrom_30 rfl (lv_at hl 1 rfl) ?_
  refine x_get (C := RX1) (T := TX1) (N := 3) (ci := 1) hx hb hts iX1 hown hK hG 4 rfl rfl 2 (by decide) k24 (v := .ref (b 22)) rfl dX1_copyFrom_31 ?_
  refine lv_iconst (v := 0) hx hb dX1_copyFrom_34 (by decide) ?_
  refine lv_aload_n hx hb dX1_copyFrom_35 rfl (lv_at hl 0 rfl) ?_
  refine x_get (C := RX1) (T := TX1) (N := 3) (ci := 1) hx hb hts iX1 hown hK hG 0 rfl rfl 2 (by decide) k24 (v := .ref (a 22)) rfl dX1_copyFrom_36 ?_
  refine lv_iconst (v := 0) hx hb dX1_copyFrom_39 (by decide) ?_
  refine lv_bipush (v := 20) hx hb dX1_copyFrom_40 (by decide) ?_
  obtain ⟨un3, eun3, hin, hf⟩ := ckc_e hf
  refine x_copyi hx hb (hml.trans hl.1.symm) hown k27 kn ks ki hK hG 7 3 rfl rfl (w1 := WN κ a un3 ++ (WN κ b um)) (by rw [eun3]; rfl) hin (Nat.le_of_ble_eq_true rfl) (Nat.le_of_ble_eq_true rfl) dX1_copyFrom_42 (fun H locs hG => ?_)
  have z0 := Option.some.inj hf
  exact x_vret hx hb hr hlk hK hG (by rw [z0]) dX1_copyFrom_45
set_option maxRecDepth 100000 in
set_option maxHeartbeats 4000000 in
theorem c_fill_root (l : Launch) (D : va_G) (κ : Nat → ClassId) (a : Nat → Nat) (sz : Nat) (p1 : Int32) (uh : HS)  (uh' : HS) (hf : f_fill_root p1 uh = some (uh')) : Met l yJ7_fill_53178 wsJ7_fill_53178 ({ frames := 0, cells := 0, slots := 0, locals := 0 } : Room) (xPc D κ [.ref (a 1), .int p1] (WH κ a uh) sz) (xQv D κ (WH κ a uh') (va_A (WH κ a uh) sz)) 0 0 (va_A (WH κ a uh) sz) := by
  refine x_ofW (cc := cJ7_fill_53178) (maxL := 4) (ret := none) (Qf := fun A => xQv D κ (WH κ a uh') A) (by decide) rfl (Nat.le_of_ble_eq_true rfl) ?_
  intro p e s m below meth c hx hb hr hlk hml hown hts hK A hA H locs hG ls hl
  have hown : s.vm.findClass RJ7 = some m.cls := hown
  have hl : lv_has ls 4 [(0, .ref (a 1)), (1, .int p1)] := hl
  have L5 : ∀ (n : Nat), ∀ (x1 : Int32) (x2 : Int32) (x3 : Int32) (uh : HS), f_fill_root_5 n x1 x2 x3 uh = some (uh') → ∀ (H : Heap) (locs : List Loc) (ls : Array Slot), xG D A s.heap (WH κ a uh) H locs → lv_has ls 4 [(0, .ref (a 1)), (1, .int x1), (2, .int x2), (3, .int x3)] → W p l e ({ frames := 0, cells := 0, slots := 0, locals := 0 } : Room) s m (([.ref (a 1), .int p1] : List Value).toArray) below meth c H locs 0 0 (MQ below (xQv D κ (WH κ a uh') A) (([.ref (a 1), .int p1] : List Value).toArray) s 0 0 A) (F0 m 5 ls []) := by
    intro  n
    induction n with
    | zero => intro x1 x2 x3 uh hf; cases hf
    | succ n ih =>
      intro x1 x2 x3 uh hf H locs ls hG hl
      replace hf : f_fill_root_B5 (f_fill_root_5 n) x1 x2 x3 uh = some (uh') := hf
      unfold f_fill_root_B5 at hf
      refine lv_iload_n hx hb dJ7_fill_53178_5 rfl (lv_at hl 2 rfl) ?_
      refine lv_iload_n hx hb dJ7_fill_53178_6 rfl (lv_at hl 3 rfl) ?_
      refine lv_icmp_ge (tgt := 20) hx hb dJ7_fill_53178_7 (by decide) (fun c1 => ?_) (fun c1 => ?_)
      · replace hf := if_t c1 hf
        have z0 := Option.some.inj hf
        exact x_vret hx hb hr hlk hK hG (by rw [z0]) dJ7_fill_53178_20
      · replace hf := if_f c1 hf
        refine lv_aload_n hx hb dJ7_fill_53178_10 rfl (lv_at hl 0 rfl) ?_
        refine lv_iload_n hx hb dJ7_fill_53178_11 rfl (lv_at hl 2 rfl) ?_
        refine lv_iload_n hx hb dJ7_fill_53178_12 rfl (lv_at hl 1 rfl) ?_
        obtain ⟨uh2, euh2, hin, hf⟩ := ck_e hf
        refine x_iast hx hb hK hG 1 rfl (w1 := WH κ a uh2) (by rw [euh2]; rfl) hin dJ7_fill_53178_13 (fun H locs hG => ?_)
        obtain ⟨y3, ey3, hf⟩ := bnd_e hf
        refine lv_iinc (v := y3) (lv' := [(2, .int y3), (0, .ref (a 1)), (1, .int x1), (3, .int x3)]) hx hb dJ7_fill_53178_14 hl (k := 2) rfl (by rw [ey3]; rfl) (by decide) rfl (fun ls hl => ?_)
        refine lv_goto (tgt := 5) hx hb dJ7_fill_53178_17 (by decide) ?_
        exact ih x1 y3 x3 uh2 hf H locs ls hG (lv_sub hl [1, 2, 0, 3] rfl)
  unfold f_fill_root at hf
  refine lv_iconst (v := 0) hx hb dJ7_fill_53178_0 (by decide) ?_
  refine lv_istore_n (lv' := [(2, .int 0), (0, .ref (a 1)), (1, .int p1)]) hx hb dJ7_fill_53178_1 rfl hl (by decide) rfl (fun ls hl => ?_)
  refine lv_aload_n hx hb dJ7_fill_53178_2 rfl (lv_at hl 1 rfl) ?_
  refine x_alen hx hb hK hG 1 rfl (v := 6) rfl dJ7_fill_53178_3 ?_
  refine lv_istore_n (lv' := [(3, .int 6), (2, .int 0), (0, .ref (a 1)), (1, .int p1)]) hx hb dJ7_fill_53178_4 rfl hl (by decide) rfl (fun ls hl => ?_)
  exact L5  FU p1 0 6 uh hf H locs ls hG (lv_sub hl [2, 3, 1, 0] rfl)
set_option maxRecDepth 100000 in
set_option maxHeartbeats 4000000 in
theorem c_fill_nextOf (l : Launch) (D : va_G) (κ : Nat → ClassId) (a : Nat → Nat) (sz : Nat) (p1 : Int32) (ur : RS)  (ur' : RS) (hf : f_fill_nextOf p1 ur = some (ur')) : Met l yJ7_fill_53178 wsJ7_fill_53178 ({ frames := 0, cells := 0, slots := 0, locals := 0 } : Room) (xPc D κ [.ref (a 18), .int p1] (WR κ a ur) sz) (xQv D κ (WR κ a ur') (va_A (WR κ a ur) sz)) 0 0 (va_A (WR κ a ur) sz) := by
  refine x_ofW (cc := cJ7_fill_53178) (maxL := 4) (ret := none) (Qf := fun A => xQv D κ (WR κ a ur') A) (by decide) rfl (Nat.le_of_ble_eq_true rfl) ?_
  intro p e s m below meth c hx hb hr hlk hml hown hts hK A hA H locs hG ls hl
  have hown : s.vm.findClass RJ7 = some m.cls := hown
  have hl : lv_has ls 4 [(0, .ref (a 18)), (1, .int p1)] := hl
  have L5 : ∀ (n : Nat), ∀ (x1 : Int32) (x2 : Int32) (x3 : Int32) (ur : RS), f_fill_nextOf_5 n x1 x2 x3 ur = some (ur') → ∀ (H : Heap) (locs : List Loc) (ls : Array Slot), xG D A s.heap (WR κ a ur) H locs → lv_has ls 4 [(0, .ref (a 18)), (1, .int x1), (2, .int x2), (3, .int x3)] → W p l e ({ frames := 0, cells := 0, slots := 0, locals := 0 } : Room) s m (([.ref (a 18), .int p1] : List Value).toArray) below meth c H locs 0 0 (MQ below (xQv D κ (WR κ a ur') A) (([.ref (a 18), .int p1] : List Value).toArray) s 0 0 A) (F0 m 5 ls []) := by
    intro  n
    induction n with
    | zero => intro x1 x2 x3 ur hf; cases hf
    | succ n ih =>
      intro x1 x2 x3 ur hf H locs ls hG hl
      replace hf : f_fill_nextOf_B5 (f_fill_nextOf_5 n) x1 x2 x3 ur = some (ur') := hf
      unfold f_fill_nextOf_B5 at hf
      refine lv_iload_n hx hb dJ7_fill_53178_5 rfl (lv_at hl 2 rfl) ?_
      refine lv_iload_n hx hb dJ7_fill_53178_6 rfl (lv_at hl 3 rfl) ?_
      refine lv_icmp_ge (tgt := 20) hx hb dJ7_fill_53178_7 (by decide) (fun c1 => ?_) (fun c1 => ?_)
      · replace hf := if_t c1 hf
        have z0 := Option.some.inj hf
        exact x_vret hx hb hr hlk hK hG (by rw [z0]) dJ7_fill_53178_20
      · replace hf := if_f c1 hf
        refine lv_aload_n hx hb dJ7_fill_53178_10 rfl (lv_at hl 0 rfl) ?_
        refine lv_iload_n hx hb dJ7_fill_53178_11 rfl (lv_at hl 2 rfl) ?_
        refine lv_iload_n hx hb dJ7_fill_53178_12 rfl (lv_at hl 1 rfl) ?_
        obtain ⟨ur2, eur2, hin, hf⟩ := ck_e hf
        refine x_iast hx hb hK hG 5 rfl (w1 := WR κ a ur2) (by rw [eur2]; rfl) hin dJ7_fill_53178_13 (fun H locs hG => ?_)
        obtain ⟨y3, ey3, hf⟩ := bnd_e hf
        refine lv_iinc (v := y3) (lv' := [(2, .int y3), (0, .ref (a 18)), (1, .int x1), (3, .int x3)]) hx hb dJ7_fill_53178_14 hl (k := 2) rfl (by rw [ey3]; rfl) (by decide) rfl (fun ls hl => ?_)
        refine lv_goto (tgt := 5) hx hb dJ7_fill_53178_17 (by decide) ?_
        exact ih x1 y3 x3 ur2 hf H locs ls hG (lv_sub hl [1, 2, 0, 3] rfl)
  unfold f_fill_nextOf at hf
  refine lv_iconst (v := 0) hx hb dJ7_fill_53178_0 (by decide) ?_
  refine lv_istore_n (lv' := [(2, .int 0), (0, .ref (a 18)), (1, .int p1)]) hx hb dJ7_fill_53178_1 rfl hl (by decide) rfl (fun ls hl => ?_)
  refine lv_aload_n hx hb dJ7_fill_53178_2 rfl (lv_at hl 1 rfl) ?_
  refine x_alen hx hb hK hG 5 rfl (v := 40) rfl dJ7_fill_53178_3 ?_
  refine lv_istore_n (lv' := [(3, .int 40), (2, .int 0), (0, .ref (a 18)), (1, .int p1)]) hx hb dJ7_fill_53178_4 rfl hl (by decide) rfl (fun ls hl => ?_)
  exact L5  FU p1 0 40 ur hf H locs ls hG (lv_sub hl [2, 3, 1, 0] rfl)
set_option maxRecDepth 100000 in
set_option maxHeartbeats 4000000 in
theorem c_fill_into (l : Launch) (D : va_G) (κ : Nat → ClassId) (a : Nat → Nat) (sz : Nat) (p1 : Int32) (us : SS)  (us' : SS) (hf : f_fill_into p1 us = some (us')) : Met l yJ7_fill_53178 wsJ7_fill_53178 ({ frames := 0, cells := 0, slots := 0, locals := 0 } : Room) (xPc D κ [.ref (a 24), .int p1] (WS κ a us) sz) (xQv D κ (WS κ a us') (va_A (WS κ a us) sz)) 0 0 (va_A (WS κ a us) sz) := by
  refine x_ofW (cc := cJ7_fill_53178) (maxL := 4) (ret := none) (Qf := fun A => xQv D κ (WS κ a us') A) (by decide) rfl (Nat.le_of_ble_eq_true rfl) ?_
  intro p e s m below meth c hx hb hr hlk hml hown hts hK A hA H locs hG ls hl
  have hown : s.vm.findClass RJ7 = some m.cls := hown
  have hl : lv_has ls 4 [(0, .ref (a 24)), (1, .int p1)] := hl
  have L5 : ∀ (n : Nat), ∀ (x1 : Int32) (x2 : Int32) (x3 : Int32) (us : SS), f_fill_into_5 n x1 x2 x3 us = some (us') → ∀ (H : Heap) (locs : List Loc) (ls : Array Slot), xG D A s.heap (WS κ a us) H locs → lv_has ls 4 [(0, .ref (a 24)), (1, .int x1), (2, .int x2), (3, .int x3)] → W p l e ({ frames := 0, cells := 0, slots := 0, locals := 0 } : Room) s m (([.ref (a 24), .int p1] : List Value).toArray) below meth c H locs 0 0 (MQ below (xQv D κ (WS κ a us') A) (([.ref (a 24), .int p1] : List Value).toArray) s 0 0 A) (F0 m 5 ls []) := by
    intro  n
    induction n with
    | zero => intro x1 x2 x3 us hf; cases hf
    | succ n ih =>
      intro x1 x2 x3 us hf H locs ls hG hl
      replace hf : f_fill_into_B5 (f_fill_into_5 n) x1 x2 x3 us = some (us') := hf
      unfold f_fill_into_B5 at hf
      refine lv_iload_n hx hb dJ7_fill_53178_5 rfl (lv_at hl 2 rfl) ?_
      refine lv_iload_n hx hb dJ7_fill_53178_6 rfl (lv_at hl 3 rfl) ?_
      refine lv_icmp_ge (tgt := 20) hx hb dJ7_fill_53178_7 (by decide) (fun c1 => ?_) (fun c1 => ?_)
      · replace hf := if_t c1 hf
        have z0 := Option.some.inj hf
        exact x_vret hx hb hr hlk hK hG (by rw [z0]) dJ7_fill_53178_20
      · replace hf := if_f c1 hf
        refine lv_aload_n hx hb dJ7_fill_53178_10 rfl (lv_at hl 0 rfl) ?_
        refine lv_iload_n hx hb dJ7_fill_53178_11 rfl (lv_at hl 2 rfl) ?_
        refine lv_iload_n hx hb dJ7_fill_53178_12 rfl (lv_at hl 1 rfl) ?_
        obtain ⟨us2, eus2, hin, hf⟩ := ck_e hf
        refine x_iast hx hb hK hG 1 rfl (w1 := WS κ a us2) (by rw [eus2]; rfl) hin dJ7_fill_53178_13 (fun H locs hG => ?_)
        obtain ⟨y3, ey3, hf⟩ := bnd_e hf
        refine lv_iinc (v := y3) (lv' := [(2, .int y3), (0, .ref (a 24)), (1, .int x1), (3, .int x3)]) hx hb dJ7_fill_53178_14 hl (k := 2) rfl (by rw [ey3]; rfl) (by decide) rfl (fun ls hl => ?_)
        refine lv_goto (tgt := 5) hx hb dJ7_fill_53178_17 (by decide) ?_
        exact ih x1 y3 x3 us2 hf H locs ls hG (lv_sub hl [1, 2, 0, 3] rfl)
  unfold f_fill_into at hf
  refine lv_iconst (v := 0) hx hb dJ7_fill_53178_0 (by decide) ?_
  refine lv_istore_n (lv' := [(2, .int 0), (0, .ref (a 24)), (1, .int p1)]) hx hb dJ7_fill_53178_1 rfl hl (by decide) rfl (fun ls hl => ?_)
  refine lv_aload_n hx hb dJ7_fill_53178_2 rfl (lv_at hl 1 rfl) ?_
  refine x_alen hx hb hK hG 1 rfl (v := 8) rfl dJ7_fill_53178_3 ?_
  refine lv_istore_n (lv' := [(3, .int 8), (2, .int 0), (0, .ref (a 24)), (1, .int p1)]) hx hb dJ7_fill_53178_4 rfl hl (by decide) rfl (fun ls hl => ?_)
  exact L5  FU p1 0 8 us hf H locs ls hG (lv_sub hl [2, 3, 1, 0] rfl)
set_option maxRecDepth 100000 in
set_option maxHeartbeats 4000000 in
theorem c_X0_meldInto (l : Launch) (D : va_G) (κ : Nat → ClassId) (a : Nat → Nat) (sz : Nat) (p1 : Int32) (p2 : Int32) (uh : HS)  (uh' : HS) (hf : f_X0_meldInto p1 p2 uh = some (uh')) : Met l yX0_meldInto wsX0_meldInto ({ frames := 2, cells := 0, slots := 0, locals := 52 } : Room) (xPc D κ [.ref (a 0), .int p1, .int p2] (WH κ a uh) sz) (xQv D κ (WH κ a uh') (va_A (WH κ a uh) sz)) 0 0 (va_A (WH κ a uh) sz) := by
  refine x_ofW (cc := cX0_meldInto) (maxL := 3) (ret := none) (Qf := fun A => xQv D κ (WH κ a uh') A) (by decide) rfl (Nat.le_of_ble_eq_true rfl) ?_
  intro p e s m below meth c hx hb hr hlk hml hown hts hK A hA H locs hG ls hl
  have hown : s.vm.findClass RX0 = some m.cls := hown
  have hl : lv_has ls 3 [(0, .ref (a 0)), (1, .int p1), (2, .int p2)] := hl
  have iX0 : ∀ w ∈ u_ws RX0 TX0 17, w ∈ wsX0_meldInto := fun _ h => List.mem_cons_of_mem _ (List.mem_append_right _ h)
  have k9 := hts (.fieldLink RX0 9 "SpineDesks$Hall" "root" "[I") (List.mem_of_getElem? (i := 1) rfl)
  unfold f_X0_meldInto at hf
  refine lv_aload_n hx hb dX0_meldInto_0 rfl (lv_at hl 0 rfl) ?_
  refine x_get (C := RX0) (T := TX0) (N := 17) (ci := 0) hx hb hts iX0 hown hK hG 0 rfl rfl 5 (by decide) k9 (v := .ref (a 1)) rfl dX0_meldInto_1 ?_
  refine lv_iload_n hx hb dX0_meldInto_4 rfl (lv_at hl 1 rfl) ?_
  refine lv_aload_n hx hb dX0_meldInto_5 rfl (lv_at hl 0 rfl) ?_
  refine lv_aload_n hx hb dX0_meldInto_6 rfl (lv_at hl 0 rfl) ?_
  refine x_get (C := RX0) (T := TX0) (N := 17) (ci := 0) hx hb hts iX0 hown hK hG 0 rfl rfl 5 (by decide) k9 (v := .ref (a 1)) rfl dX0_meldInto_7 ?_
  refine lv_iload_n hx hb dX0_meldInto_10 rfl (lv_at hl 1 rfl) ?_
  obtain ⟨v1, ev1, hin, hf⟩ := ck_e hf
  refine x_iald hx hb hK hG 1 rfl ev1 hin dX0_meldInto_11 ?_
  refine lv_aload_n hx hb dX0_meldInto_12 rfl (lv_at hl 0 rfl) ?_
  refine x_get (C := RX0) (T := TX0) (N := 17) (ci := 0) hx hb hts iX0 hown hK hG 0 rfl rfl 5 (by decide) k9 (v := .ref (a 1)) rfl dX0_meldInto_13 ?_
  refine lv_iload_n hx hb dX0_meldInto_16 rfl (lv_at hl 2 rfl) ?_
  obtain ⟨v2, ev2, hin, hf⟩ := ck_e hf
  refine x_iald hx hb hK hG 1 rfl ev2 hin dX0_meldInto_17 ?_
  obtain ⟨r3, uh4, q5, hf⟩ := cl2_e hf
  refine x_callVi (pre := ([] : va_W)) (wc := WH κ a uh) (wc1 := WH κ a uh4) (post := ([] : va_W)) (As := [.int v1, .int v2]) (rest := [.int p1, .ref (a 1)]) (w1 := WH κ a uh4) ⟨hx, hb, hml, hown, hts⟩ hK hG hA (by simp only [List.append_assoc, List.nil_append, List.append_nil]) (by simp only [List.append_assoc, List.nil_append, List.append_nil]) (c_X0_join l D κ a H.size v1 v2 uh r3 uh4 q5) (cwV 2 hts gX0_meldInto_X0_join rfl rfl rfl (by decide +kernel) ⟨Nat.le_of_ble_eq_true rfl, Nat.le_of_ble_eq_true rfl⟩) 0 0 rfl rfl rfl rfl hl.1 rfl (Nat.le_of_ble_eq_true rfl) dX0_meldInto_18 ⟨Nat.zero_le _, Nat.zero_le _⟩ (fun H locs hG => ?_)
  obtain ⟨uh6, euh6, hin, hf⟩ := ck_e hf
  refine x_iast hx hb hK hG 1 rfl (w1 := WH κ a uh6) (by rw [euh6]; rfl) hin dX0_meldInto_21 (fun H locs hG => ?_)
  refine lv_aload_n hx hb dX0_meldInto_22 rfl (lv_at hl 0 rfl) ?_
  refine x_get (C := RX0) (T := TX0) (N := 17) (ci := 0) hx hb hts iX0 hown hK hG 0 rfl rfl 5 (by decide) k9 (v := .ref (a 1)) rfl dX0_meldInto_23 ?_
  refine lv_iload_n hx hb dX0_meldInto_26 rfl (lv_at hl 2 rfl) ?_
  refine lv_iconst (v := (-1)) hx hb dX0_meldInto_27 (by decide) ?_
  obtain ⟨uh7, euh7, hin, hf⟩ := ck_e hf
  refine x_iast hx hb hK hG 1 rfl (w1 := WH κ a uh7) (by rw [euh7]; rfl) hin dX0_meldInto_28 (fun H locs hG => ?_)
  refine lv_aload_n hx hb dX0_meldInto_29 rfl (lv_at hl 0 rfl) ?_
  refine lv_iload_n hx hb dX0_meldInto_30 rfl (lv_at hl 2 rfl) ?_
  refine lv_iload_n hx hb dX0_meldInto_31 rfl (lv_at hl 1 rfl) ?_
  obtain ⟨uh8, q9, hf⟩ := cl1_e hf
  refine x_callVv (pre := ([] : va_W)) (wc := WH κ a uh7) (wc1 := WH κ a uh8) (post := ([] : va_W)) (As := [.int p2, .int p1]) (rest := []) (w1 := WH κ a uh8) ⟨hx, hb, hml, hown, hts⟩ hK hG hA (by simp only [List.append_assoc, List.nil_append, List.append_nil]) (by simp only [List.append_assoc, List.nil_append, List.append_nil]) (c_X0_relabel l D κ a H.size p2 p1 uh7 uh8 q9) (cwV 2 hts gX0_meldInto_X0_relabel rfl rfl rfl (by decide +kernel) ⟨Nat.le_of_ble_eq_true rfl, Nat.le_of_ble_eq_true rfl⟩) 0 0 rfl rfl rfl rfl hl.1 rfl (Nat.le_of_ble_eq_true rfl) dX0_meldInto_32 ⟨Nat.zero_le _, Nat.zero_le _⟩ (fun H locs hG => ?_)
  have z0 := Option.some.inj hf
  exact x_vret hx hb hr hlk hK hG (by rw [z0]) dX0_meldInto_35
