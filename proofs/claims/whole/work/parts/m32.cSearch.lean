set_option maxRecDepth 100000 in
set_option maxHeartbeats 4000000 in
theorem c_X3_isReached (l : Launch) (D : va_G) (κ : Nat → ClassId) (a : Nat → Nat) (sz : Nat) (p1 : Int32) (un : NS) (us : SS) (r' : Int32)  (hf : f_X3_isReached p1 us = some (r')) : Met l yX3_isReached wsX3_isReached ({ frames := 0, cells := 0, slots := 0, locals := 0 } : Room) (xPc D κ [.ref (a 23), .int p1] (WN κ a un ++ (WS κ a us)) sz) (xQi D κ r' (WN κ a un ++ (WS κ a us)) (va_A (WN κ a un ++ (WS κ a us)) sz)) 0 0 (va_A (WN κ a un ++ (WS κ a us)) sz) := by
  refine x_ofW (cc := cX3_isReached) (maxL := 2) (ret := (some .boolean)) (Qf := fun A => xQi D κ r' (WN κ a un ++ (WS κ a us)) A) (by decide) rfl (Nat.le_of_ble_eq_true rfl) ?_
  intro p e s m below meth c hx hb hr hlk hml hown hts hK A hA H locs hG ls hl
  have hown : s.vm.findClass RX3 = some m.cls := hown
  have hl : lv_has ls 2 [(0, .ref (a 23)), (1, .int p1)] := hl
  have iX3 : ∀ w ∈ u_ws RX3 TX3 8, w ∈ wsX3_isReached := fun _ h => List.mem_cons_of_mem _ (List.mem_append_right _ h)
  have k51 := hts (.fieldLink RX3 51 "SpineDesks$Search" "reach" "I") (List.mem_of_getElem? (i := 1) rfl)
  unfold f_X3_isReached at hf
  refine lv_aload_n hx hb dX3_isReached_0 rfl (lv_at hl 0 rfl) ?_
  refine x_get (C := RX3) (T := TX3) (N := 8) (ci := 3) hx hb hts iX3 hown hK hG 4 rfl rfl 5 (by decide) k51 (v := .int (us.reach)) rfl dX3_isReached_1 ?_
  refine lv_iload_n hx hb dX3_isReached_4 rfl (lv_at hl 1 rfl) ?_
  refine lv_ishr hx hb dX3_isReached_5 ?_
  refine lv_iconst (v := 1) hx hb dX3_isReached_6 (by decide) ?_
  refine lv_iand hx hb dX3_isReached_7 ?_
  refine lv_iconst (v := 1) hx hb dX3_isReached_8 (by decide) ?_
  refine lv_icmp_ne (tgt := 16) hx hb dX3_isReached_9 (by decide) (fun c1 => ?_) (fun c1 => ?_)
  · replace hf := if_f c1 hf
    refine lv_iconst (v := 0) hx hb dX3_isReached_16 (by decide) ?_
    have z0 := Option.some.inj hf
    exact x_zret hx hb hr hlk hK hG (by decide) z0 rfl dX3_isReached_17
  · replace hf := if_t c1 hf
    refine lv_iconst (v := 1) hx hb dX3_isReached_12 (by decide) ?_
    refine lv_goto (tgt := 17) hx hb dX3_isReached_13 (by decide) ?_
    have z0 := Option.some.inj hf
    exact x_zret hx hb hr hlk hK hG (by decide) z0 rfl dX3_isReached_17
set_option maxRecDepth 100000 in
set_option maxHeartbeats 4000000 in
theorem c_X3_noteTree (l : Launch) (D : va_G) (κ : Nat → ClassId) (a : Nat → Nat) (sz : Nat) (p1 : Int64) (un : NS) (us : SS)  (us' : SS) (hf : f_X3_noteTree p1 us = some (us')) : Met l yX3_noteTree wsX3_noteTree ({ frames := 0, cells := 0, slots := 0, locals := 0 } : Room) (xPc D κ [.ref (a 23), .long p1] (WN κ a un ++ (WS κ a us)) sz) (xQv D κ (WN κ a un ++ (WS κ a us')) (va_A (WN κ a un ++ (WS κ a us)) sz)) 0 0 (va_A (WN κ a un ++ (WS κ a us)) sz) := by
  refine x_ofW (cc := cX3_noteTree) (maxL := 3) (ret := none) (Qf := fun A => xQv D κ (WN κ a un ++ (WS κ a us')) A) (by decide) rfl (Nat.le_of_ble_eq_true rfl) ?_
  intro p e s m below meth c hx hb hr hlk hml hown hts hK A hA H locs hG ls hl
  have hown : s.vm.findClass RX3 = some m.cls := hown
  have hl : lv_has ls 3 [(0, .ref (a 23)), (1, .long p1)] := hl
  have iX3 : ∀ w ∈ u_ws RX3 TX3 8, w ∈ wsX3_noteTree := fun _ h => List.mem_cons_of_mem _ (List.mem_append_right _ h)
  have k31 := hts (.fieldLink RX3 31 "SpineDesks$Search" "first" "J") (List.mem_of_getElem? (i := 1) rfl)
  have k35 := hts (.fieldLink RX3 35 "SpineDesks$Search" "next" "J") (List.mem_of_getElem? (i := 2) rfl)
  unfold f_X3_noteTree at hf
  refine lv_lload_n hx hb dX3_noteTree_0 rfl (lv_at hl 1 rfl) ?_
  refine lv_aload_n hx hb dX3_noteTree_1 rfl (lv_at hl 0 rfl) ?_
  refine x_get (C := RX3) (T := TX3) (N := 8) (ci := 3) hx hb hts iX3 hown hK hG 4 rfl rfl 6 (by decide) k31 (v := .long (us.first)) rfl dX3_noteTree_2 ?_
  refine W.lcmp hx hb dX3_noteTree_5 ?_
  refine lv_if_ge (tgt := 25) hx hb dX3_noteTree_6 (by decide) (fun c1 => ?_) (fun c1 => ?_)
  · rw [lg_cmp_ge] at c1
    replace hf := if_t c1 hf
    refine lv_aload_n hx hb dX3_noteTree_25 rfl (lv_at hl 0 rfl) ?_
    refine lv_lload_n hx hb dX3_noteTree_26 rfl (lv_at hl 1 rfl) ?_
    obtain ⟨us2, eus2, hf⟩ := bnd_e hf
    refine x_put (C := RX3) (T := TX3) (N := 8) (ci := 3) hx hb hts iX3 tyX3 tyX3_ok nmX3 hown hK hG 4 rfl rfl 7 (by decide) k35 rfl (ty := .long) (v := .long p1) rfl rfl rfl (Nat.le_of_ble_eq_true rfl) (w1 := WN κ a un ++ (WS κ a us2)) (by rw [eus2]; rfl) dX3_noteTree_27 (fun H locs hG => ?_)
    have z0 := Option.some.inj hf
    exact x_vret hx hb hr hlk hK hG (by rw [z0]) dX3_noteTree_30
  · rw [lg_cmp_ge] at c1
    replace hf := if_f c1 hf
    refine lv_aload_n hx hb dX3_noteTree_9 rfl (lv_at hl 0 rfl) ?_
    refine lv_aload_n hx hb dX3_noteTree_10 rfl (lv_at hl 0 rfl) ?_
    refine x_get (C := RX3) (T := TX3) (N := 8) (ci := 3) hx hb hts iX3 hown hK hG 4 rfl rfl 6 (by decide) k31 (v := .long (us.first)) rfl dX3_noteTree_11 ?_
    obtain ⟨us3, eus3, hf⟩ := bnd_e hf
    refine x_put (C := RX3) (T := TX3) (N := 8) (ci := 3) hx hb hts iX3 tyX3 tyX3_ok nmX3 hown hK hG 4 rfl rfl 7 (by decide) k35 rfl (ty := .long) (v := .long (us.first)) rfl rfl rfl (Nat.le_of_ble_eq_true rfl) (w1 := WN κ a un ++ (WS κ a us3)) (by rw [eus3]; rfl) dX3_noteTree_14 (fun H locs hG => ?_)
    refine lv_aload_n hx hb dX3_noteTree_17 rfl (lv_at hl 0 rfl) ?_
    refine lv_lload_n hx hb dX3_noteTree_18 rfl (lv_at hl 1 rfl) ?_
    obtain ⟨us4, eus4, hf⟩ := bnd_e hf
    refine x_put (C := RX3) (T := TX3) (N := 8) (ci := 3) hx hb hts iX3 tyX3 tyX3_ok nmX3 hown hK hG 4 rfl rfl 6 (by decide) k31 rfl (ty := .long) (v := .long p1) rfl rfl rfl (Nat.le_of_ble_eq_true rfl) (w1 := WN κ a un ++ (WS κ a us4)) (by rw [eus4]; rfl) dX3_noteTree_19 (fun H locs hG => ?_)
    refine lv_goto (tgt := 30) hx hb dX3_noteTree_22 (by decide) ?_
    have z0 := Option.some.inj hf
    exact x_vret hx hb hr hlk hK hG (by rw [z0]) dX3_noteTree_30
set_option maxRecDepth 100000 in
set_option maxHeartbeats 4000000 in
theorem c_X3_closesRing (l : Launch) (D : va_G) (κ : Nat → ClassId) (a : Nat → Nat) (sz : Nat) (p1 : Int32) (p2 : Int32) (un : NS) (us : SS) (r' : Int32)  (hf : f_X3_closesRing p1 p2 un us = some (r')) : Met l yX3_closesRing wsX3_closesRing ({ frames := 0, cells := 0, slots := 0, locals := 0 } : Room) (xPc D κ [.ref (a 23), .int p1, .int p2] (WN κ a un ++ (WS κ a us)) sz) (xQi D κ r' (WN κ a un ++ (WS κ a us)) (va_A (WN κ a un ++ (WS κ a us)) sz)) 0 0 (va_A (WN κ a un ++ (WS κ a us)) sz) := by
  refine x_ofW (cc := cX3_closesRing) (maxL := 5) (ret := (some .boolean)) (Qf := fun A => xQi D κ r' (WN κ a un ++ (WS κ a us)) A) (by decide) rfl (Nat.le_of_ble_eq_true rfl) ?_
  intro p e s m below meth c hx hb hr hlk hml hown hts hK A hA H locs hG ls hl
  have hown : s.vm.findClass RX3 = some m.cls := hown
  have hl : lv_has ls 5 [(0, .ref (a 23)), (1, .int p1), (2, .int p2)] := hl
  have iX1 : ∀ w ∈ u_ws RX1 TX1 3, w ∈ wsX3_closesRing := fun _ h => List.mem_cons_of_mem _ (List.mem_append_right _ h)
  have iX3 : ∀ w ∈ u_ws RX3 TX3 8, w ∈ wsX3_closesRing := fun _ h => List.mem_cons_of_mem _ (List.mem_append_left _ (List.mem_append_right _ h))
  have k15 := hts (.fieldLink RX3 15 "SpineDesks$Search" "into" "[I") (List.mem_of_getElem? (i := 1) rfl)
  have k54 := hts (.fieldLink RX3 54 "SpineDesks$Net" "from" "[I") (List.mem_of_getElem? (i := 3) rfl)
  have k9 := hts (.fieldLink RX3 9 "SpineDesks$Search" "net" "LSpineDesks$Net;") (List.mem_of_getElem? (i := 2) rfl)
  have L48 : ∀ (x2 : Int32) (x3 : Int32), f_X3_closesRing_48 un us x2 x3 = some (r') → ∀ (H : Heap) (locs : List Loc) (ls : Array Slot), xG D A s.heap (WN κ a un ++ (WS κ a us)) H locs → lv_has ls 5 [(2, .int x2), (3, .int x3)] → W p l e ({ frames := 0, cells := 0, slots := 0, locals := 0 } : Room) s m (([.ref (a 23), .int p1, .int p2] : List Value).toArray) below meth c H locs 0 0 (MQ below (xQi D κ r' (WN κ a un ++ (WS κ a us)) A) (([.ref (a 23), .int p1, .int p2] : List Value).toArray) s 0 0 A) (F0 m 48 ls []) := by
    intro  x2 x3 hf H locs ls hG hl
    unfold f_X3_closesRing_48 at hf
    refine lv_iload_n hx hb dX3_closesRing_48 rfl (lv_at hl 1 rfl) ?_
    refine lv_iload_n hx hb dX3_closesRing_49 rfl (lv_at hl 0 rfl) ?_
    refine lv_icmp_ne (tgt := 57) hx hb dX3_closesRing_50 (by decide) (fun c1 => ?_) (fun c1 => ?_)
    · replace hf := if_f c1 hf
      refine lv_iconst (v := 0) hx hb dX3_closesRing_57 (by decide) ?_
      have z0 := Option.some.inj hf
      exact x_zret hx hb hr hlk hK hG (by decide) z0 rfl dX3_closesRing_58
    · replace hf := if_t c1 hf
      refine lv_iconst (v := 1) hx hb dX3_closesRing_53 (by decide) ?_
      refine lv_goto (tgt := 58) hx hb dX3_closesRing_54 (by decide) ?_
      have z0 := Option.some.inj hf
      exact x_zret hx hb hr hlk hK hG (by decide) z0 rfl dX3_closesRing_58
  have L5 : ∀ (n : Nat), ∀ (x2 : Int32) (x3 : Int32) (x4 : Int32), f_X3_closesRing_5 un us n x2 x3 x4 = some (r') → ∀ (H : Heap) (locs : List Loc) (ls : Array Slot), xG D A s.heap (WN κ a un ++ (WS κ a us)) H locs → lv_has ls 5 [(0, .ref (a 23)), (2, .int x2), (3, .int x3), (4, .int x4)] → W p l e ({ frames := 0, cells := 0, slots := 0, locals := 0 } : Room) s m (([.ref (a 23), .int p1, .int p2] : List Value).toArray) below meth c H locs 0 0 (MQ below (xQi D κ r' (WN κ a un ++ (WS κ a us)) A) (([.ref (a 23), .int p1, .int p2] : List Value).toArray) s 0 0 A) (F0 m 5 ls []) := by
    intro  n
    induction n with
    | zero => intro x2 x3 x4 hf; cases hf
    | succ n ih =>
      intro x2 x3 x4 hf H locs ls hG hl
      replace hf : f_X3_closesRing_B5 un us (f_X3_closesRing_5 un us n) x2 x3 x4 = some (r') := hf
      unfold f_X3_closesRing_B5 at hf
      refine lv_iload hx hb dX3_closesRing_5 (lv_at hl 3 rfl) ?_
      refine lv_bipush (v := 8) hx hb dX3_closesRing_7 (by decide) ?_
      refine lv_icmp_ge (tgt := 48) hx hb dX3_closesRing_9 (by decide) (fun c2 => ?_) (fun c2 => ?_)
      · replace hf := if_t c2 hf
        exact L48   x2 x3 hf H locs ls hG (lv_sub hl [1, 2] rfl)
      · replace hf := if_f c2 hf
        refine lv_iload_n hx hb dX3_closesRing_12 rfl (lv_at hl 2 rfl) ?_
        refine lv_iload_n hx hb dX3_closesRing_13 rfl (lv_at hl 1 rfl) ?_
        refine lv_icmp_eq (tgt := 48) hx hb dX3_closesRing_14 (by decide) (fun c3 => ?_) (fun c3 => ?_)
        · replace hf := if_t c3 hf
          exact L48   x2 x3 hf H locs ls hG (lv_sub hl [1, 2] rfl)
        · replace hf := if_f c3 hf
          refine lv_aload_n hx hb dX3_closesRing_17 rfl (lv_at hl 0 rfl) ?_
          refine x_get (C := RX3) (T := TX3) (N := 8) (ci := 3) hx hb hts iX3 hown hK hG 4 rfl rfl 1 (by decide) k15 (v := .ref (a 24)) rfl dX3_closesRing_18 ?_
          refine lv_iload_n hx hb dX3_closesRing_21 rfl (lv_at hl 2 rfl) ?_
          obtain ⟨v4, ev4, hin, hf⟩ := ck_e hf
          refine x_iald hx hb hK hG 5 rfl ev4 hin dX3_closesRing_22 ?_
          refine lv_iconst (v := (-1)) hx hb dX3_closesRing_23 (by decide) ?_
          refine lv_icmp_eq (tgt := 48) hx hb dX3_closesRing_24 (by decide) (fun c5 => ?_) (fun c5 => ?_)
          · replace hf := if_t c5 hf
            exact L48   x2 x3 hf H locs ls hG (lv_sub hl [1, 2] rfl)
          · replace hf := if_f c5 hf
            refine lv_aload_n hx hb dX3_closesRing_27 rfl (lv_at hl 0 rfl) ?_
            refine x_get (C := RX3) (T := TX3) (N := 8) (ci := 3) hx hb hts iX3 hown hK hG 4 rfl rfl 0 (by decide) k9 (v := .ref (a 19)) rfl dX3_closesRing_28 ?_
            refine x_get (C := RX1) (T := TX1) (N := 3) (ci := 1) hx hb hts iX1 hown hK hG 0 rfl rfl 0 (by decide) k54 (v := .ref (a 20)) rfl dX3_closesRing_31 ?_
            refine lv_aload_n hx hb dX3_closesRing_34 rfl (lv_at hl 0 rfl) ?_
            refine x_get (C := RX3) (T := TX3) (N := 8) (ci := 3) hx hb hts iX3 hown hK hG 4 rfl rfl 1 (by decide) k15 (v := .ref (a 24)) rfl dX3_closesRing_35 ?_
            refine lv_iload_n hx hb dX3_closesRing_38 rfl (lv_at hl 2 rfl) ?_
            obtain ⟨v6, ev6, hin, hf⟩ := ck_e hf
            refine x_iald hx hb hK hG 5 rfl ev6 hin dX3_closesRing_39 ?_
            obtain ⟨v7, ev7, hin, hf⟩ := ck_e hf
            refine x_iald hx hb hK hG 1 rfl ev7 hin dX3_closesRing_40 ?_
            refine lv_istore_n (lv' := [(3, .int v7), (0, .ref (a 23)), (2, .int x2), (4, .int x4)]) hx hb dX3_closesRing_41 rfl hl (by decide) rfl (fun ls hl => ?_)
            obtain ⟨y8, ey8, hf⟩ := bnd_e hf
            refine lv_iinc (v := y8) (lv' := [(4, .int y8), (3, .int v7), (0, .ref (a 23)), (2, .int x2)]) hx hb dX3_closesRing_42 hl (k := 3) rfl (by rw [ey8]; rfl) (by decide) rfl (fun ls hl => ?_)
            refine lv_goto (tgt := 5) hx hb dX3_closesRing_45 (by decide) ?_
            exact ih x2 v7 y8 hf H locs ls hG (lv_sub hl [2, 3, 1, 0] rfl)
  unfold f_X3_closesRing at hf
  refine lv_iload_n hx hb dX3_closesRing_0 rfl (lv_at hl 1 rfl) ?_
  refine lv_istore_n (lv' := [(3, .int p1), (0, .ref (a 23)), (1, .int p1), (2, .int p2)]) hx hb dX3_closesRing_1 rfl hl (by decide) rfl (fun ls hl => ?_)
  refine lv_iconst (v := 0) hx hb dX3_closesRing_2 (by decide) ?_
  refine lv_istore (lv' := [(4, .int 0), (3, .int p1), (0, .ref (a 23)), (1, .int p1), (2, .int p2)]) hx hb dX3_closesRing_3 hl (by decide) rfl (fun ls hl => ?_)
  exact L5  FU p2 p1 0 hf H locs ls hG (lv_sub hl [2, 4, 1, 0] rfl)
set_option maxRecDepth 100000 in
set_option maxHeartbeats 4000000 in
theorem c_X3_weightOf (l : Launch) (D : va_G) (κ : Nat → ClassId) (a : Nat → Nat) (sz : Nat) (p1 : Int32) (un : NS) (us : SS) (r' : Int64)  (hf : f_X3_weightOf p1 un us = some (r')) : Met l yX3_weightOf wsX3_weightOf ({ frames := 0, cells := 0, slots := 0, locals := 0 } : Room) (xPc D κ [.ref (a 23), .int p1] (WN κ a un ++ (WS κ a us)) sz) (xQl D κ r' (WN κ a un ++ (WS κ a us)) (va_A (WN κ a un ++ (WS κ a us)) sz)) 0 0 (va_A (WN κ a un ++ (WS κ a us)) sz) := by
  refine x_ofW (cc := cX3_weightOf) (maxL := 2) (ret := (some .long)) (Qf := fun A => xQl D κ r' (WN κ a un ++ (WS κ a us)) A) (by decide) rfl (Nat.le_of_ble_eq_true rfl) ?_
  intro p e s m below meth c hx hb hr hlk hml hown hts hK A hA H locs hG ls hl
  have hown : s.vm.findClass RX3 = some m.cls := hown
  have hl : lv_has ls 2 [(0, .ref (a 23)), (1, .int p1)] := hl
  have iX1 : ∀ w ∈ u_ws RX1 TX1 3, w ∈ wsX3_weightOf := fun _ h => List.mem_cons_of_mem _ (List.mem_append_right _ h)
  have iX3 : ∀ w ∈ u_ws RX3 TX3 8, w ∈ wsX3_weightOf := fun _ h => List.mem_cons_of_mem _ (List.mem_append_left _ (List.mem_append_right _ h))
  have k81 := hts (.fieldLink RX3 81 "SpineDesks$Net" "cost" "[I") (List.mem_of_getElem? (i := 2) rfl)
  have k9 := hts (.fieldLink RX3 9 "SpineDesks$Search" "net" "LSpineDesks$Net;") (List.mem_of_getElem? (i := 1) rfl)
  unfold f_X3_weightOf at hf
  refine lv_aload_n hx hb dX3_weightOf_0 rfl (lv_at hl 0 rfl) ?_
  refine x_get (C := RX3) (T := TX3) (N := 8) (ci := 3) hx hb hts iX3 hown hK hG 4 rfl rfl 0 (by decide) k9 (v := .ref (a 19)) rfl dX3_weightOf_1 ?_
  refine x_get (C := RX1) (T := TX1) (N := 3) (ci := 1) hx hb hts iX1 hown hK hG 0 rfl rfl 2 (by decide) k81 (v := .ref (a 22)) rfl dX3_weightOf_4 ?_
  refine lv_iload_n hx hb dX3_weightOf_7 rfl (lv_at hl 1 rfl) ?_
  obtain ⟨v1, ev1, hin, hf⟩ := ck_e hf
  refine x_iald hx hb hK hG 3 rfl ev1 hin dX3_weightOf_8 ?_
  refine lv_i2l hx hb dX3_weightOf_9 rfl ?_
  refine lv_bipush (v := 20) hx hb dX3_weightOf_10 (by decide) ?_
  refine lv_lshl hx hb dX3_weightOf_12 rfl ?_
  refine lv_lconst (v := 1) hx hb dX3_weightOf_13 (by decide) ?_
  refine lv_iload_n hx hb dX3_weightOf_14 rfl (lv_at hl 1 rfl) ?_
  refine lv_lshl hx hb dX3_weightOf_15 rfl ?_
  refine lv_ladd hx hb dX3_weightOf_16 ?_
  have z0 := Option.some.inj hf
  exact x_lret hx hb hr hlk hK hG z0 rfl dX3_weightOf_17
set_option maxRecDepth 100000 in
set_option maxHeartbeats 4000000 in
theorem c_X3_costOf (l : Launch) (D : va_G) (κ : Nat → ClassId) (a : Nat → Nat) (sz : Nat) (p1 : Int64) (un : NS) (us : SS) (r' : Int32)  (hf : f_X3_costOf p1 = some (r')) : Met l yX3_costOf wsX3_costOf ({ frames := 0, cells := 0, slots := 0, locals := 0 } : Room) (xPc D κ [.ref (a 23), .long p1] (WN κ a un ++ (WS κ a us)) sz) (xQi D κ r' (WN κ a un ++ (WS κ a us)) (va_A (WN κ a un ++ (WS κ a us)) sz)) 0 0 (va_A (WN κ a un ++ (WS κ a us)) sz) := by
  refine x_ofW (cc := cX3_costOf) (maxL := 3) (ret := (some .int)) (Qf := fun A => xQi D κ r' (WN κ a un ++ (WS κ a us)) A) (by decide) rfl (Nat.le_of_ble_eq_true rfl) ?_
  intro p e s m below meth c hx hb hr hlk hml hown hts hK A hA H locs hG ls hl
  have hown : s.vm.findClass RX3 = some m.cls := hown
  have hl : lv_has ls 3 [(0, .ref (a 23)), (1, .long p1)] := hl
  unfold f_X3_costOf at hf
  refine lv_lload_n hx hb dX3_costOf_0 rfl (lv_at hl 1 rfl) ?_
  refine lv_bipush (v := 20) hx hb dX3_costOf_1 (by decide) ?_
  refine lv_lshr hx hb dX3_costOf_3 rfl ?_
  refine lv_l2i hx hb dX3_costOf_4 rfl ?_
  have z0 := Option.some.inj hf
  exact x_iret hx hb hr hlk hK hG z0 rfl dX3_costOf_5
set_option maxRecDepth 100000 in
set_option maxHeartbeats 4000000 in
theorem c_X3_bitsOf (l : Launch) (D : va_G) (κ : Nat → ClassId) (a : Nat → Nat) (sz : Nat) (p1 : Int64) (un : NS) (us : SS) (r' : Int32)  (hf : f_X3_bitsOf p1 = some (r')) : Met l yX3_bitsOf wsX3_bitsOf ({ frames := 0, cells := 0, slots := 0, locals := 0 } : Room) (xPc D κ [.ref (a 23), .long p1] (WN κ a un ++ (WS κ a us)) sz) (xQi D κ r' (WN κ a un ++ (WS κ a us)) (va_A (WN κ a un ++ (WS κ a us)) sz)) 0 0 (va_A (WN κ a un ++ (WS κ a us)) sz) := by
  refine x_ofW (cc := cX3_bitsOf) (maxL := 3) (ret := (some .int)) (Qf := fun A => xQi D κ r' (WN κ a un ++ (WS κ a us)) A) (by decide) rfl (Nat.le_of_ble_eq_true rfl) ?_
  intro p e s m below meth c hx hb hr hlk hml hown hts hK A hA H locs hG ls hl
  have hown : s.vm.findClass RX3 = some m.cls := hown
  have hl : lv_has ls 3 [(0, .ref (a 23)), (1, .long p1)] := hl
  have k84 := hts (.constantLong RX3 84 (1048575)) (List.mem_of_getElem? (i := 1) rfl)
  unfold f_X3_bitsOf at hf
  refine lv_lload_n hx hb dX3_bitsOf_0 rfl (lv_at hl 1 rfl) ?_
  refine lv_ldc2 (v := 1048575) hx hb hown k84 dX3_bitsOf_1 ?_
  refine lv_land hx hb dX3_bitsOf_4 ?_
  refine lv_l2i hx hb dX3_bitsOf_5 rfl ?_
  have z0 := Option.some.inj hf
  exact x_iret hx hb hr hlk hK hG z0 rfl dX3_bitsOf_6
set_option maxRecDepth 100000 in
set_option maxHeartbeats 4000000 in
theorem c_X3_firstHas (l : Launch) (D : va_G) (κ : Nat → ClassId) (a : Nat → Nat) (sz : Nat) (p1 : Int32) (un : NS) (us : SS) (r' : Int32)  (hf : f_X3_firstHas p1 us = some (r')) : Met l yX3_firstHas wsX3_firstHas ({ frames := 0, cells := 0, slots := 0, locals := 0 } : Room) (xPc D κ [.ref (a 23), .int p1] (WN κ a un ++ (WS κ a us)) sz) (xQi D κ r' (WN κ a un ++ (WS κ a us)) (va_A (WN κ a un ++ (WS κ a us)) sz)) 0 0 (va_A (WN κ a un ++ (WS κ a us)) sz) := by
  refine x_ofW (cc := cX3_firstHas) (maxL := 2) (ret := (some .boolean)) (Qf := fun A => xQi D κ r' (WN κ a un ++ (WS κ a us)) A) (by decide) rfl (Nat.le_of_ble_eq_true rfl) ?_
  intro p e s m below meth c hx hb hr hlk hml hown hts hK A hA H locs hG ls hl
  have hown : s.vm.findClass RX3 = some m.cls := hown
  have hl : lv_has ls 2 [(0, .ref (a 23)), (1, .int p1)] := hl
  have iX3 : ∀ w ∈ u_ws RX3 TX3 8, w ∈ wsX3_firstHas := fun _ h => List.mem_cons_of_mem _ (List.mem_append_right _ h)
  have k29 := hts (.constantLong RX3 29 (9223372036854775807)) (List.mem_of_getElem? (i := 2) rfl)
  have k31 := hts (.fieldLink RX3 31 "SpineDesks$Search" "first" "J") (List.mem_of_getElem? (i := 1) rfl)
  unfold f_X3_firstHas at hf
  refine lv_aload_n hx hb dX3_firstHas_0 rfl (lv_at hl 0 rfl) ?_
  refine x_get (C := RX3) (T := TX3) (N := 8) (ci := 3) hx hb hts iX3 hown hK hG 4 rfl rfl 6 (by decide) k31 (v := .long (us.first)) rfl dX3_firstHas_1 ?_
  refine lv_ldc2 (v := 9223372036854775807) hx hb hown k29 dX3_firstHas_4 ?_
  refine W.lcmp hx hb dX3_firstHas_7 ?_
  refine lv_if_eq (tgt := 28) hx hb dX3_firstHas_8 (by decide) (fun c1 => ?_) (fun c1 => ?_)
  · rw [lg_cmp_eq] at c1
    replace hf := if_t c1 hf
    refine lv_iconst (v := 0) hx hb dX3_firstHas_28 (by decide) ?_
    have z0 := Option.some.inj hf
    exact x_zret hx hb hr hlk hK hG (by decide) z0 rfl dX3_firstHas_29
  · rw [lg_cmp_eq] at c1
    replace hf := if_f c1 hf
    refine lv_aload_n hx hb dX3_firstHas_11 rfl (lv_at hl 0 rfl) ?_
    refine x_get (C := RX3) (T := TX3) (N := 8) (ci := 3) hx hb hts iX3 hown hK hG 4 rfl rfl 6 (by decide) k31 (v := .long (us.first)) rfl dX3_firstHas_12 ?_
    refine lv_iload_n hx hb dX3_firstHas_15 rfl (lv_at hl 1 rfl) ?_
    refine lv_lshr hx hb dX3_firstHas_16 rfl ?_
    refine lv_lconst (v := 1) hx hb dX3_firstHas_17 (by decide) ?_
    refine lv_land hx hb dX3_firstHas_18 ?_
    refine lv_lconst (v := 1) hx hb dX3_firstHas_19 (by decide) ?_
    refine W.lcmp hx hb dX3_firstHas_20 ?_
    refine lv_if_ne (tgt := 28) hx hb dX3_firstHas_21 (by decide) (fun c2 => ?_) (fun c2 => ?_)
    · rw [lg_cmp_eq] at c2
      replace hf := if_f c2 hf
      refine lv_iconst (v := 0) hx hb dX3_firstHas_28 (by decide) ?_
      have z0 := Option.some.inj hf
      exact x_zret hx hb hr hlk hK hG (by decide) z0 rfl dX3_firstHas_29
    · rw [lg_cmp_eq] at c2
      replace hf := if_t c2 hf
      refine lv_iconst (v := 1) hx hb dX3_firstHas_24 (by decide) ?_
      refine lv_goto (tgt := 29) hx hb dX3_firstHas_25 (by decide) ?_
      have z0 := Option.some.inj hf
      exact x_zret hx hb hr hlk hK hG (by decide) z0 rfl dX3_firstHas_29
set_option maxRecDepth 100000 in
set_option maxHeartbeats 4000000 in
theorem c_X3_arcInto (l : Launch) (D : va_G) (κ : Nat → ClassId) (a : Nat → Nat) (sz : Nat) (p1 : Int32) (un : NS) (us : SS) (r' : Int32)  (hf : f_X3_arcInto p1 un us = some (r')) : Met l yX3_arcInto wsX3_arcInto ({ frames := 1, cells := 0, slots := 0, locals := 21 } : Room) (xPc D κ [.ref (a 23), .int p1] (WN κ a un ++ (WS κ a us)) sz) (xQi D κ r' (WN κ a un ++ (WS κ a us)) (va_A (WN κ a un ++ (WS κ a us)) sz)) 0 0 (va_A (WN κ a un ++ (WS κ a us)) sz) := by
  refine x_ofW (cc := cX3_arcInto) (maxL := 3) (ret := (some .int)) (Qf := fun A => xQi D κ r' (WN κ a un ++ (WS κ a us)) A) (by decide) rfl (Nat.le_of_ble_eq_true rfl) ?_
  intro p e s m below meth c hx hb hr hlk hml hown hts hK A hA H locs hG ls hl
  have hown : s.vm.findClass RX3 = some m.cls := hown
  have hl : lv_has ls 3 [(0, .ref (a 23)), (1, .int p1)] := hl
  have iX1 : ∀ w ∈ u_ws RX1 TX1 3, w ∈ wsX3_arcInto := fun _ h => List.mem_cons_of_mem _ (List.mem_append_right _ h)
  have iX3 : ∀ w ∈ u_ws RX3 TX3 8, w ∈ wsX3_arcInto := fun _ h => List.mem_cons_of_mem _ (List.mem_append_left _ (List.mem_append_right _ h))
  have k63 := hts (.fieldLink RX3 63 "SpineDesks$Net" "to" "[I") (List.mem_of_getElem? (i := 2) rfl)
  have k9 := hts (.fieldLink RX3 9 "SpineDesks$Search" "net" "LSpineDesks$Net;") (List.mem_of_getElem? (i := 1) rfl)
  have L31 : ∀ (rec2 : Int32 → Int32 → Option (Int32)) (hr2 : ∀ (y1 : Int32) (y2 : Int32), rec2 y1 y2 = some (r') → ∀ (H : Heap) (locs : List Loc) (ls : Array Slot), xG D A s.heap (WN κ a un ++ (WS κ a us)) H locs → lv_has ls 3 [(0, .ref (a 23)), (1, .int y1), (2, .int y2)] → W p l e ({ frames := 1, cells := 0, slots := 0, locals := 21 } : Room) s m (([.ref (a 23), .int p1] : List Value).toArray) below meth c H locs 0 0 (MQ below (xQi D κ r' (WN κ a un ++ (WS κ a us)) A) (([.ref (a 23), .int p1] : List Value).toArray) s 0 0 A) (F0 m 2 ls [])), ∀ (x1 : Int32) (x2 : Int32), f_X3_arcInto_31 un us rec2 x1 x2 = some (r') → ∀ (H : Heap) (locs : List Loc) (ls : Array Slot), xG D A s.heap (WN κ a un ++ (WS κ a us)) H locs → lv_has ls 3 [(0, .ref (a 23)), (1, .int x1), (2, .int x2)] → W p l e ({ frames := 1, cells := 0, slots := 0, locals := 21 } : Room) s m (([.ref (a 23), .int p1] : List Value).toArray) below meth c H locs 0 0 (MQ below (xQi D κ r' (WN κ a un ++ (WS κ a us)) A) (([.ref (a 23), .int p1] : List Value).toArray) s 0 0 A) (F0 m 31 ls []) := by
    intro rec2 hr2 x1 x2 hf H locs ls hG hl
    unfold f_X3_arcInto_31 at hf
    obtain ⟨y1, ey1, hf⟩ := bnd_e hf
    refine lv_iinc (v := y1) (lv' := [(2, .int y1), (0, .ref (a 23)), (1, .int x1)]) hx hb dX3_arcInto_31 hl (k := 2) rfl (by rw [ey1]; rfl) (by decide) rfl (fun ls hl => ?_)
    refine lv_goto (tgt := 2) hx hb dX3_arcInto_34 (by decide) ?_
    exact hr2 x1 y1 hf H locs ls hG (lv_sub hl [1, 2, 0] rfl)
  have L2 : ∀ (n : Nat), ∀ (x1 : Int32) (x2 : Int32), f_X3_arcInto_2 un us n x1 x2 = some (r') → ∀ (H : Heap) (locs : List Loc) (ls : Array Slot), xG D A s.heap (WN κ a un ++ (WS κ a us)) H locs → lv_has ls 3 [(0, .ref (a 23)), (1, .int x1), (2, .int x2)] → W p l e ({ frames := 1, cells := 0, slots := 0, locals := 21 } : Room) s m (([.ref (a 23), .int p1] : List Value).toArray) below meth c H locs 0 0 (MQ below (xQi D κ r' (WN κ a un ++ (WS κ a us)) A) (([.ref (a 23), .int p1] : List Value).toArray) s 0 0 A) (F0 m 2 ls []) := by
    intro  n
    induction n with
    | zero => intro x1 x2 hf; cases hf
    | succ n ih =>
      intro x1 x2 hf H locs ls hG hl
      replace hf : f_X3_arcInto_B2 un us (f_X3_arcInto_2 un us n) x1 x2 = some (r') := hf
      unfold f_X3_arcInto_B2 at hf
      refine lv_iload_n hx hb dX3_arcInto_2 rfl (lv_at hl 2 rfl) ?_
      refine lv_bipush (v := 20) hx hb dX3_arcInto_3 (by decide) ?_
      refine lv_icmp_ge (tgt := 37) hx hb dX3_arcInto_5 (by decide) (fun c2 => ?_) (fun c2 => ?_)
      · replace hf := if_t c2 hf
        refine lv_iconst (v := (-1)) hx hb dX3_arcInto_37 (by decide) ?_
        have z0 := Option.some.inj hf
        exact x_iret hx hb hr hlk hK hG z0 rfl dX3_arcInto_38
      · replace hf := if_f c2 hf
        refine lv_aload_n hx hb dX3_arcInto_8 rfl (lv_at hl 0 rfl) ?_
        refine lv_iload_n hx hb dX3_arcInto_9 rfl (lv_at hl 2 rfl) ?_
        obtain ⟨r3, q4, hf⟩ := cl1_e hf
        refine x_callVi (pre := ([] : va_W)) (wc := WN κ a un ++ (WS κ a us)) (wc1 := WN κ a un ++ (WS κ a us)) (post := ([] : va_W)) (As := [.int x2]) (rest := []) (w1 := WN κ a un ++ (WS κ a us)) ⟨hx, hb, hml, hown, hts⟩ hK hG hA (by simp only [List.append_assoc, List.nil_append, List.append_nil]) (by simp only [List.append_assoc, List.nil_append, List.append_nil]) (c_X3_firstHas l D κ a H.size x2 un us r3 q4) (cwV 1 hts gX3_arcInto_X3_firstHas rfl rfl rfl (by decide +kernel) ⟨Nat.le_of_ble_eq_true rfl, Nat.le_of_ble_eq_true rfl⟩) 4 3 rfl rfl rfl rfl hl.1 rfl (Nat.le_of_ble_eq_true rfl) dX3_arcInto_10 ⟨Nat.zero_le _, Nat.zero_le _⟩ (fun H locs hG => ?_)
        refine lv_if_eq (tgt := 31) hx hb dX3_arcInto_13 (by decide) (fun c5 => ?_) (fun c5 => ?_)
        · replace hf := if_t c5 hf
          exact L31 (f_X3_arcInto_2 un us n) ih  x1 x2 hf H locs ls hG (lv_sub hl [0, 1, 2] rfl)
        · replace hf := if_f c5 hf
          refine lv_aload_n hx hb dX3_arcInto_16 rfl (lv_at hl 0 rfl) ?_
          refine x_get (C := RX3) (T := TX3) (N := 8) (ci := 3) hx hb hts iX3 hown hK hG 4 rfl rfl 0 (by decide) k9 (v := .ref (a 19)) rfl dX3_arcInto_17 ?_
          refine x_get (C := RX1) (T := TX1) (N := 3) (ci := 1) hx hb hts iX1 hown hK hG 0 rfl rfl 1 (by decide) k63 (v := .ref (a 21)) rfl dX3_arcInto_20 ?_
          refine lv_iload_n hx hb dX3_arcInto_23 rfl (lv_at hl 2 rfl) ?_
          obtain ⟨v6, ev6, hin, hf⟩ := ck_e hf
          refine x_iald hx hb hK hG 2 rfl ev6 hin dX3_arcInto_24 ?_
          refine lv_iload_n hx hb dX3_arcInto_25 rfl (lv_at hl 1 rfl) ?_
          refine lv_icmp_ne (tgt := 31) hx hb dX3_arcInto_26 (by decide) (fun c7 => ?_) (fun c7 => ?_)
          · replace hf := if_f c7 hf
            exact L31 (f_X3_arcInto_2 un us n) ih  x1 x2 hf H locs ls hG (lv_sub hl [0, 1, 2] rfl)
          · replace hf := if_t c7 hf
            refine lv_iload_n hx hb dX3_arcInto_29 rfl (lv_at hl 2 rfl) ?_
            have z0 := Option.some.inj hf
            exact x_iret hx hb hr hlk hK hG z0 rfl dX3_arcInto_30
  unfold f_X3_arcInto at hf
  refine lv_iconst (v := 0) hx hb dX3_arcInto_0 (by decide) ?_
  refine lv_istore_n (lv' := [(2, .int 0), (0, .ref (a 23)), (1, .int p1)]) hx hb dX3_arcInto_1 rfl hl (by decide) rfl (fun ls hl => ?_)
  exact L2  FU p1 0 hf H locs ls hG (lv_sub hl [1, 2, 0] rfl)
set_option maxRecDepth 100000 in
set_option maxHeartbeats 4000000 in
theorem c_X3_mostStillBelow (l : Launch) (D : va_G) (κ : Nat → ClassId) (a : Nat → Nat) (sz : Nat) (p1 : Int64) (p3 : Int64) (un : NS) (us : SS) (r' : Int32)  (hf : f_X3_mostStillBelow p1 p3 = some (r')) : Met l yX3_mostStillBelow wsX3_mostStillBelow ({ frames := 0, cells := 0, slots := 0, locals := 0 } : Room) (xPc D κ [.ref (a 23), .long p1, .long p3] (WN κ a un ++ (WS κ a us)) sz) (xQi D κ r' (WN κ a un ++ (WS κ a us)) (va_A (WN κ a un ++ (WS κ a us)) sz)) 0 0 (va_A (WN κ a un ++ (WS κ a us)) sz) := by
  refine x_ofW (cc := cX3_mostStillBelow) (maxL := 5) (ret := (some .int)) (Qf := fun A => xQi D κ r' (WN κ a un ++ (WS κ a us)) A) (by decide) rfl (Nat.le_of_ble_eq_true rfl) ?_
  intro p e s m below meth c hx hb hr hlk hml hown hts hK A hA H locs hG ls hl
  have hown : s.vm.findClass RX3 = some m.cls := hown
  have hl : lv_has ls 5 [(0, .ref (a 23)), (1, .long p1), (3, .long p3)] := hl
  unfold f_X3_mostStillBelow at hf
  refine lv_lload_n hx hb dX3_mostStillBelow_0 rfl (lv_at hl 2 rfl) ?_
  refine lv_lload_n hx hb dX3_mostStillBelow_1 rfl (lv_at hl 1 rfl) ?_
  refine lv_lsub hx hb dX3_mostStillBelow_2 ?_
  refine lv_lconst (v := 1) hx hb dX3_mostStillBelow_3 (by decide) ?_
  refine lv_lsub hx hb dX3_mostStillBelow_4 ?_
  refine lv_bipush (v := 20) hx hb dX3_mostStillBelow_5 (by decide) ?_
  refine lv_lshr hx hb dX3_mostStillBelow_7 rfl ?_
  refine lv_l2i hx hb dX3_mostStillBelow_8 rfl ?_
  have z0 := Option.some.inj hf
  exact x_iret hx hb hr hlk hK hG z0 rfl dX3_mostStillBelow_9
set_option maxRecDepth 100000 in
set_option maxHeartbeats 4000000 in
theorem c_X3_leastToPass (l : Launch) (D : va_G) (κ : Nat → ClassId) (a : Nat → Nat) (sz : Nat) (p1 : Int64) (p3 : Int64) (un : NS) (us : SS) (r' : Int32)  (hf : f_X3_leastToPass p1 p3 = some (r')) : Met l yX3_leastToPass wsX3_leastToPass ({ frames := 0, cells := 0, slots := 0, locals := 0 } : Room) (xPc D κ [.ref (a 23), .long p1, .long p3] (WN κ a un ++ (WS κ a us)) sz) (xQi D κ r' (WN κ a un ++ (WS κ a us)) (va_A (WN κ a un ++ (WS κ a us)) sz)) 0 0 (va_A (WN κ a un ++ (WS κ a us)) sz) := by
  refine x_ofW (cc := cX3_leastToPass) (maxL := 5) (ret := (some .int)) (Qf := fun A => xQi D κ r' (WN κ a un ++ (WS κ a us)) A) (by decide) rfl (Nat.le_of_ble_eq_true rfl) ?_
  intro p e s m below meth c hx hb hr hlk hml hown hts hK A hA H locs hG ls hl
  have hown : s.vm.findClass RX3 = some m.cls := hown
  have hl : lv_has ls 5 [(0, .ref (a 23)), (1, .long p1), (3, .long p3)] := hl
  unfold f_X3_leastToPass at hf
  refine lv_lload_n hx hb dX3_leastToPass_0 rfl (lv_at hl 1 rfl) ?_
  refine lv_lload_n hx hb dX3_leastToPass_1 rfl (lv_at hl 2 rfl) ?_
  refine lv_lsub hx hb dX3_leastToPass_2 ?_
  refine lv_bipush (v := 20) hx hb dX3_leastToPass_3 (by decide) ?_
  refine lv_lshr hx hb dX3_leastToPass_5 rfl ?_
  refine lv_l2i hx hb dX3_leastToPass_6 rfl ?_
  refine lv_iconst (v := 1) hx hb dX3_leastToPass_7 (by decide) ?_
  refine lv_iadd hx hb dX3_leastToPass_8 ?_
  have z0 := Option.some.inj hf
  exact x_iret hx hb hr hlk hK hG z0 rfl dX3_leastToPass_9
set_option maxRecDepth 100000 in
set_option maxHeartbeats 4000000 in
theorem c_J6_bitCount_0f7a4 (l : Launch) (D : va_G) (κ : Nat → ClassId) (a : Nat → Nat) (sz : Nat) (p0 : Int32)  (r' : Int32)  (hf : f_J6_bitCount_0f7a4 p0 = some (r')) : Met l yJ6_bitCount_0f7a4 wsJ6_bitCount_0f7a4 ({ frames := 0, cells := 0, slots := 0, locals := 0 } : Room) (xPc D κ [.int p0] (([] : va_W)) sz) (xQi D κ r' (([] : va_W)) (va_A (([] : va_W)) sz)) 0 0 (va_A (([] : va_W)) sz) := by
  refine x_ofW (cc := cJ6_bitCount_0f7a4) (maxL := 1) (ret := (some .int)) (Qf := fun A => xQi D κ r' (([] : va_W)) A) (by decide) rfl (Nat.le_of_ble_eq_true rfl) ?_
  intro p e s m below meth c hx hb hr hlk hml hown hts hK A hA H locs hG ls hl
  have hown : s.vm.findClass RJ6 = some m.cls := hown
  have hl : lv_has ls 1 [(0, .int p0)] := hl
  have k265 := hts (.constant RJ6 265 (1431655765)) (List.mem_of_getElem? (i := 1) rfl)
  have k266 := hts (.constant RJ6 266 (858993459)) (List.mem_of_getElem? (i := 2) rfl)
  have k267 := hts (.constant RJ6 267 (252645135)) (List.mem_of_getElem? (i := 3) rfl)
  unfold f_J6_bitCount_0f7a4 at hf
  refine lv_iload_n hx hb dJ6_bitCount_0f7a4_0 rfl (lv_at hl 0 rfl) ?_
  refine lv_iload_n hx hb dJ6_bitCount_0f7a4_1 rfl (lv_at hl 0 rfl) ?_
  refine lv_iconst (v := 1) hx hb dJ6_bitCount_0f7a4_2 (by decide) ?_
  refine lv_iushr hx hb dJ6_bitCount_0f7a4_3 rfl ?_
  refine lv_ldcw (v := 1431655765) hx hb hown k265 dJ6_bitCount_0f7a4_4 ?_
  refine lv_iand hx hb dJ6_bitCount_0f7a4_7 ?_
  refine lv_isub hx hb dJ6_bitCount_0f7a4_8 ?_
  refine lv_topi (fun y1 ey1 => ?_)
  replace hf := bnd_at ey1 hf
  refine lv_istore_n (lv' := [(0, .int y1)]) hx hb dJ6_bitCount_0f7a4_9 rfl hl (by decide) rfl (fun ls hl => ?_)
  refine lv_iload_n hx hb dJ6_bitCount_0f7a4_10 rfl (lv_at hl 0 rfl) ?_
  refine lv_ldcw (v := 858993459) hx hb hown k266 dJ6_bitCount_0f7a4_11 ?_
  refine lv_iand hx hb dJ6_bitCount_0f7a4_14 ?_
  refine lv_iload_n hx hb dJ6_bitCount_0f7a4_15 rfl (lv_at hl 0 rfl) ?_
  refine lv_iconst (v := 2) hx hb dJ6_bitCount_0f7a4_16 (by decide) ?_
  refine lv_iushr hx hb dJ6_bitCount_0f7a4_17 rfl ?_
  refine lv_ldcw (v := 858993459) hx hb hown k266 dJ6_bitCount_0f7a4_18 ?_
  refine lv_iand hx hb dJ6_bitCount_0f7a4_21 ?_
  refine lv_iadd hx hb dJ6_bitCount_0f7a4_22 ?_
  refine lv_topi (fun y2 ey2 => ?_)
  replace hf := bnd_at ey2 hf
  refine lv_istore_n (lv' := [(0, .int y2)]) hx hb dJ6_bitCount_0f7a4_23 rfl hl (by decide) rfl (fun ls hl => ?_)
  refine lv_iload_n hx hb dJ6_bitCount_0f7a4_24 rfl (lv_at hl 0 rfl) ?_
  refine lv_iload_n hx hb dJ6_bitCount_0f7a4_25 rfl (lv_at hl 0 rfl) ?_
  refine lv_iconst (v := 4) hx hb dJ6_bitCount_0f7a4_26 (by decide) ?_
  refine lv_iushr hx hb dJ6_bitCount_0f7a4_27 rfl ?_
  refine lv_iadd hx hb dJ6_bitCount_0f7a4_28 ?_
  refine lv_ldcw (v := 252645135) hx hb hown k267 dJ6_bitCount_0f7a4_29 ?_
  refine lv_iand hx hb dJ6_bitCount_0f7a4_32 ?_
  refine lv_topi (fun y3 ey3 => ?_)
  replace hf := bnd_at ey3 hf
  refine lv_istore_n (lv' := [(0, .int y3)]) hx hb dJ6_bitCount_0f7a4_33 rfl hl (by decide) rfl (fun ls hl => ?_)
  refine lv_iload_n hx hb dJ6_bitCount_0f7a4_34 rfl (lv_at hl 0 rfl) ?_
  refine lv_iload_n hx hb dJ6_bitCount_0f7a4_35 rfl (lv_at hl 0 rfl) ?_
  refine lv_bipush (v := 8) hx hb dJ6_bitCount_0f7a4_36 (by decide) ?_
  refine lv_iushr hx hb dJ6_bitCount_0f7a4_38 rfl ?_
  refine lv_iadd hx hb dJ6_bitCount_0f7a4_39 ?_
  refine lv_topi (fun y4 ey4 => ?_)
  replace hf := bnd_at ey4 hf
  refine lv_istore_n (lv' := [(0, .int y4)]) hx hb dJ6_bitCount_0f7a4_40 rfl hl (by decide) rfl (fun ls hl => ?_)
  refine lv_iload_n hx hb dJ6_bitCount_0f7a4_41 rfl (lv_at hl 0 rfl) ?_
  refine lv_iload_n hx hb dJ6_bitCount_0f7a4_42 rfl (lv_at hl 0 rfl) ?_
  refine lv_bipush (v := 16) hx hb dJ6_bitCount_0f7a4_43 (by decide) ?_
  refine lv_iushr hx hb dJ6_bitCount_0f7a4_45 rfl ?_
  refine lv_iadd hx hb dJ6_bitCount_0f7a4_46 ?_
  refine lv_topi (fun y5 ey5 => ?_)
  replace hf := bnd_at ey5 hf
  refine lv_istore_n (lv' := [(0, .int y5)]) hx hb dJ6_bitCount_0f7a4_47 rfl hl (by decide) rfl (fun ls hl => ?_)
  refine lv_iload_n hx hb dJ6_bitCount_0f7a4_48 rfl (lv_at hl 0 rfl) ?_
  refine lv_bipush (v := 63) hx hb dJ6_bitCount_0f7a4_49 (by decide) ?_
  refine lv_iand hx hb dJ6_bitCount_0f7a4_51 ?_
  have z0 := Option.some.inj hf
  exact x_iret hx hb hr hlk hK hG z0 rfl dJ6_bitCount_0f7a4_52
set_option maxRecDepth 100000 in
set_option maxHeartbeats 4000000 in
theorem c_X3_findReach (l : Launch) (D : va_G) (κ : Nat → ClassId) (a : Nat → Nat) (sz : Nat)  (un : NS) (us : SS)  (us' : SS) (hf : f_X3_findReach un us = some (us')) : Met l yX3_findReach wsX3_findReach ({ frames := 1, cells := 0, slots := 0, locals := 21 } : Room) (xPc D κ [.ref (a 23)] (WN κ a un ++ (WS κ a us)) sz) (xQv D κ (WN κ a un ++ (WS κ a us')) (va_A (WN κ a un ++ (WS κ a us)) sz)) 0 0 (va_A (WN κ a un ++ (WS κ a us)) sz) := by
  refine x_ofW (cc := cX3_findReach) (maxL := 3) (ret := none) (Qf := fun A => xQv D κ (WN κ a un ++ (WS κ a us')) A) (by decide) rfl (Nat.le_of_ble_eq_true rfl) ?_
  intro p e s m below meth c hx hb hr hlk hml hown hts hK A hA H locs hG ls hl
  have hown : s.vm.findClass RX3 = some m.cls := hown
  have hl : lv_has ls 3 [(0, .ref (a 23))] := hl
  have iX1 : ∀ w ∈ u_ws RX1 TX1 3, w ∈ wsX3_findReach := fun _ h => List.mem_cons_of_mem _ (List.mem_append_right _ h)
  have iX3 : ∀ w ∈ u_ws RX3 TX3 8, w ∈ wsX3_findReach := fun _ h => List.mem_cons_of_mem _ (List.mem_append_left _ (List.mem_append_right _ h))
  have k19 := hts (.fieldLink RX3 19 "SpineDesks$Search" "root" "I") (List.mem_of_getElem? (i := 1) rfl)
  have k23 := hts (.fieldLink RX3 23 "SpineDesks$Search" "banned" "I") (List.mem_of_getElem? (i := 3) rfl)
  have k51 := hts (.fieldLink RX3 51 "SpineDesks$Search" "reach" "I") (List.mem_of_getElem? (i := 2) rfl)
  have k54 := hts (.fieldLink RX3 54 "SpineDesks$Net" "from" "[I") (List.mem_of_getElem? (i := 5) rfl)
  have k63 := hts (.fieldLink RX3 63 "SpineDesks$Net" "to" "[I") (List.mem_of_getElem? (i := 6) rfl)
  have k9 := hts (.fieldLink RX3 9 "SpineDesks$Search" "net" "LSpineDesks$Net;") (List.mem_of_getElem? (i := 4) rfl)
  have L83 : ∀ (rec12 : Int32 → SS → Option (SS)) (hr12 : ∀ (y1 : Int32) (us : SS), rec12 y1 us = some (us') → ∀ (H : Heap) (locs : List Loc) (ls : Array Slot), xG D A s.heap (WN κ a un ++ (WS κ a us)) H locs → lv_has ls 3 [(0, .ref (a 23)), (1, .int y1)] → W p l e ({ frames := 1, cells := 0, slots := 0, locals := 21 } : Room) s m (([.ref (a 23)] : List Value).toArray) below meth c H locs 0 0 (MQ below (xQv D κ (WN κ a un ++ (WS κ a us')) A) (([.ref (a 23)] : List Value).toArray) s 0 0 A) (F0 m 12 ls [])) (rec20 : Int32 → Int32 → SS → Option (SS)) (hr20 : ∀ (y1 : Int32) (y2 : Int32) (us : SS), rec20 y1 y2 us = some (us') → ∀ (H : Heap) (locs : List Loc) (ls : Array Slot), xG D A s.heap (WN κ a un ++ (WS κ a us)) H locs → lv_has ls 3 [(0, .ref (a 23)), (1, .int y1), (2, .int y2)] → W p l e ({ frames := 1, cells := 0, slots := 0, locals := 21 } : Room) s m (([.ref (a 23)] : List Value).toArray) below meth c H locs 0 0 (MQ below (xQv D κ (WN κ a un ++ (WS κ a us')) A) (([.ref (a 23)] : List Value).toArray) s 0 0 A) (F0 m 20 ls [])), ∀ (x1 : Int32) (x2 : Int32) (us : SS), f_X3_findReach_83 un rec12 rec20 x1 x2 us = some (us') → ∀ (H : Heap) (locs : List Loc) (ls : Array Slot), xG D A s.heap (WN κ a un ++ (WS κ a us)) H locs → lv_has ls 3 [(0, .ref (a 23)), (1, .int x1), (2, .int x2)] → W p l e ({ frames := 1, cells := 0, slots := 0, locals := 21 } : Room) s m (([.ref (a 23)] : List Value).toArray) below meth c H locs 0 0 (MQ below (xQv D κ (WN κ a un ++ (WS κ a us')) A) (([.ref (a 23)] : List Value).toArray) s 0 0 A) (F0 m 83 ls []) := by
    intro rec12 hr12 rec20 hr20 x1 x2 us hf H locs ls hG hl
    unfold f_X3_findReach_83 at hf
    obtain ⟨y1, ey1, hf⟩ := bnd_e hf
    refine lv_iinc (v := y1) (lv' := [(2, .int y1), (0, .ref (a 23)), (1, .int x1)]) hx hb dX3_findReach_83 hl (k := 2) rfl (by rw [ey1]; rfl) (by decide) rfl (fun ls hl => ?_)
    refine lv_goto (tgt := 20) hx hb dX3_findReach_86 (by decide) ?_
    exact hr20 x1 y1 us hf H locs ls hG (lv_sub hl [1, 2, 0] rfl)
  have L20 : ∀ (rec12 : Int32 → SS → Option (SS)) (hr12 : ∀ (y1 : Int32) (us : SS), rec12 y1 us = some (us') → ∀ (H : Heap) (locs : List Loc) (ls : Array Slot), xG D A s.heap (WN κ a un ++ (WS κ a us)) H locs → lv_has ls 3 [(0, .ref (a 23)), (1, .int y1)] → W p l e ({ frames := 1, cells := 0, slots := 0, locals := 21 } : Room) s m (([.ref (a 23)] : List Value).toArray) below meth c H locs 0 0 (MQ below (xQv D κ (WN κ a un ++ (WS κ a us')) A) (([.ref (a 23)] : List Value).toArray) s 0 0 A) (F0 m 12 ls [])), ∀ (n : Nat), ∀ (x1 : Int32) (x2 : Int32) (us : SS), f_X3_findReach_20 un rec12 n x1 x2 us = some (us') → ∀ (H : Heap) (locs : List Loc) (ls : Array Slot), xG D A s.heap (WN κ a un ++ (WS κ a us)) H locs → lv_has ls 3 [(0, .ref (a 23)), (1, .int x1), (2, .int x2)] → W p l e ({ frames := 1, cells := 0, slots := 0, locals := 21 } : Room) s m (([.ref (a 23)] : List Value).toArray) below meth c H locs 0 0 (MQ below (xQv D κ (WN κ a un ++ (WS κ a us')) A) (([.ref (a 23)] : List Value).toArray) s 0 0 A) (F0 m 20 ls []) := by
    intro rec12 hr12 n
    induction n with
    | zero => intro x1 x2 us hf; cases hf
    | succ n ih =>
      intro x1 x2 us hf H locs ls hG hl
      replace hf : f_X3_findReach_B20 un rec12 (f_X3_findReach_20 un rec12 n) x1 x2 us = some (us') := hf
      unfold f_X3_findReach_B20 at hf
      refine lv_iload_n hx hb dX3_findReach_20 rfl (lv_at hl 2 rfl) ?_
      refine lv_bipush (v := 20) hx hb dX3_findReach_21 (by decide) ?_
      refine lv_icmp_ge (tgt := 89) hx hb dX3_findReach_23 (by decide) (fun c2 => ?_) (fun c2 => ?_)
      · replace hf := if_t c2 hf
        obtain ⟨y3, ey3, hf⟩ := bnd_e hf
        refine lv_iinc (v := y3) (lv' := [(1, .int y3), (0, .ref (a 23)), (2, .int x2)]) hx hb dX3_findReach_89 hl (k := 1) rfl (by rw [ey3]; rfl) (by decide) rfl (fun ls hl => ?_)
        refine lv_goto (tgt := 12) hx hb dX3_findReach_92 (by decide) ?_
        exact hr12 y3 us hf H locs ls hG (lv_sub hl [1, 0] rfl)
      · replace hf := if_f c2 hf
        refine lv_iload_n hx hb dX3_findReach_26 rfl (lv_at hl 2 rfl) ?_
        refine lv_aload_n hx hb dX3_findReach_27 rfl (lv_at hl 0 rfl) ?_
        refine x_get (C := RX3) (T := TX3) (N := 8) (ci := 3) hx hb hts iX3 hown hK hG 4 rfl rfl 3 (by decide) k23 (v := .int (us.banned)) rfl dX3_findReach_28 ?_
        refine lv_icmp_eq (tgt := 83) hx hb dX3_findReach_31 (by decide) (fun c4 => ?_) (fun c4 => ?_)
        · replace hf := if_t c4 hf
          exact L83 rec12 hr12 (f_X3_findReach_20 un rec12 n) ih  x1 x2 us hf H locs ls hG (lv_sub hl [0, 1, 2] rfl)
        · replace hf := if_f c4 hf
          refine lv_aload_n hx hb dX3_findReach_34 rfl (lv_at hl 0 rfl) ?_
          refine x_get (C := RX3) (T := TX3) (N := 8) (ci := 3) hx hb hts iX3 hown hK hG 4 rfl rfl 0 (by decide) k9 (v := .ref (a 19)) rfl dX3_findReach_35 ?_
          refine x_get (C := RX1) (T := TX1) (N := 3) (ci := 1) hx hb hts iX1 hown hK hG 0 rfl rfl 0 (by decide) k54 (v := .ref (a 20)) rfl dX3_findReach_38 ?_
          refine lv_iload_n hx hb dX3_findReach_41 rfl (lv_at hl 2 rfl) ?_
          obtain ⟨v5, ev5, hin, hf⟩ := ck_e hf
          refine x_iald hx hb hK hG 1 rfl ev5 hin dX3_findReach_42 ?_
          refine lv_iconst (v := (-1)) hx hb dX3_findReach_43 (by decide) ?_
          refine lv_icmp_eq (tgt := 83) hx hb dX3_findReach_44 (by decide) (fun c6 => ?_) (fun c6 => ?_)
          · replace hf := if_t c6 hf
            exact L83 rec12 hr12 (f_X3_findReach_20 un rec12 n) ih  x1 x2 us hf H locs ls hG (lv_sub hl [0, 1, 2] rfl)
          · replace hf := if_f c6 hf
            refine lv_aload_n hx hb dX3_findReach_47 rfl (lv_at hl 0 rfl) ?_
            refine lv_aload_n hx hb dX3_findReach_48 rfl (lv_at hl 0 rfl) ?_
            refine x_get (C := RX3) (T := TX3) (N := 8) (ci := 3) hx hb hts iX3 hown hK hG 4 rfl rfl 0 (by decide) k9 (v := .ref (a 19)) rfl dX3_findReach_49 ?_
            refine x_get (C := RX1) (T := TX1) (N := 3) (ci := 1) hx hb hts iX1 hown hK hG 0 rfl rfl 0 (by decide) k54 (v := .ref (a 20)) rfl dX3_findReach_52 ?_
            refine lv_iload_n hx hb dX3_findReach_55 rfl (lv_at hl 2 rfl) ?_
            obtain ⟨v7, ev7, hin, hf⟩ := ck_e hf
            refine x_iald hx hb hK hG 1 rfl ev7 hin dX3_findReach_56 ?_
            obtain ⟨r8, q9, hf⟩ := cl1_e hf
            refine x_callVi (pre := ([] : va_W)) (wc := WN κ a un ++ (WS κ a us)) (wc1 := WN κ a un ++ (WS κ a us)) (post := ([] : va_W)) (As := [.int v7]) (rest := []) (w1 := WN κ a un ++ (WS κ a us)) ⟨hx, hb, hml, hown, hts⟩ hK hG hA (by simp only [List.append_assoc, List.nil_append, List.append_nil]) (by simp only [List.append_assoc, List.nil_append, List.append_nil]) (c_X3_isReached l D κ a H.size v7 un us r8 q9) (cwV 1 hts gX3_findReach_X3_isReached rfl rfl rfl (by decide +kernel) ⟨Nat.le_of_ble_eq_true rfl, Nat.le_of_ble_eq_true rfl⟩) 4 3 rfl rfl rfl rfl hl.1 rfl (Nat.le_of_ble_eq_true rfl) dX3_findReach_57 ⟨Nat.zero_le _, Nat.zero_le _⟩ (fun H locs hG => ?_)
            refine lv_if_eq (tgt := 83) hx hb dX3_findReach_60 (by decide) (fun c10 => ?_) (fun c10 => ?_)
            · replace hf := if_t c10 hf
              exact L83 rec12 hr12 (f_X3_findReach_20 un rec12 n) ih  x1 x2 us hf H locs ls hG (lv_sub hl [0, 1, 2] rfl)
            · replace hf := if_f c10 hf
              refine lv_aload_n hx hb dX3_findReach_63 rfl (lv_at hl 0 rfl) ?_
              refine lv_dup hx hb dX3_findReach_64 rfl ?_
              refine x_get (C := RX3) (T := TX3) (N := 8) (ci := 3) hx hb hts iX3 hown hK hG 4 rfl rfl 5 (by decide) k51 (v := .int (us.reach)) rfl dX3_findReach_65 ?_
              refine lv_iconst (v := 1) hx hb dX3_findReach_68 (by decide) ?_
              refine lv_aload_n hx hb dX3_findReach_69 rfl (lv_at hl 0 rfl) ?_
              refine x_get (C := RX3) (T := TX3) (N := 8) (ci := 3) hx hb hts iX3 hown hK hG 4 rfl rfl 0 (by decide) k9 (v := .ref (a 19)) rfl dX3_findReach_70 ?_
              refine x_get (C := RX1) (T := TX1) (N := 3) (ci := 1) hx hb hts iX1 hown hK hG 0 rfl rfl 1 (by decide) k63 (v := .ref (a 21)) rfl dX3_findReach_73 ?_
              refine lv_iload_n hx hb dX3_findReach_76 rfl (lv_at hl 2 rfl) ?_
              obtain ⟨v11, ev11, hin, hf⟩ := ck_e hf
              refine x_iald hx hb hK hG 2 rfl ev11 hin dX3_findReach_77 ?_
              refine lv_ishl hx hb dX3_findReach_78 ?_
              refine lv_ior hx hb dX3_findReach_79 ?_
              obtain ⟨us12, eus12, hf⟩ := bnd_e hf
              refine x_put (C := RX3) (T := TX3) (N := 8) (ci := 3) hx hb hts iX3 tyX3 tyX3_ok nmX3 hown hK hG 4 rfl rfl 5 (by decide) k51 rfl (ty := .int) (v := .int ((us.reach) ||| (1 <<< (v11 &&& 31)))) rfl rfl rfl (Nat.le_of_ble_eq_true rfl) (w1 := WN κ a un ++ (WS κ a us12)) (by rw [eus12]; rfl) dX3_findReach_80 (fun H locs hG => ?_)
              exact L83 rec12 hr12 (f_X3_findReach_20 un rec12 n) ih  x1 x2 us12 hf H locs ls hG (lv_sub hl [0, 1, 2] rfl)
  have L12 : ∀ (n : Nat), ∀ (x1 : Int32) (us : SS), f_X3_findReach_12 un n x1 us = some (us') → ∀ (H : Heap) (locs : List Loc) (ls : Array Slot), xG D A s.heap (WN κ a un ++ (WS κ a us)) H locs → lv_has ls 3 [(0, .ref (a 23)), (1, .int x1)] → W p l e ({ frames := 1, cells := 0, slots := 0, locals := 21 } : Room) s m (([.ref (a 23)] : List Value).toArray) below meth c H locs 0 0 (MQ below (xQv D κ (WN κ a un ++ (WS κ a us')) A) (([.ref (a 23)] : List Value).toArray) s 0 0 A) (F0 m 12 ls []) := by
    intro  n
    induction n with
    | zero => intro x1 us hf; cases hf
    | succ n ih =>
      intro x1 us hf H locs ls hG hl
      replace hf : f_X3_findReach_B12 un (f_X3_findReach_12 un n) x1 us = some (us') := hf
      unfold f_X3_findReach_B12 at hf
      refine lv_iload_n hx hb dX3_findReach_12 rfl (lv_at hl 1 rfl) ?_
      refine lv_bipush (v := 8) hx hb dX3_findReach_13 (by decide) ?_
      refine lv_icmp_ge (tgt := 95) hx hb dX3_findReach_15 (by decide) (fun c13 => ?_) (fun c13 => ?_)
      · replace hf := if_t c13 hf
        have z0 := Option.some.inj hf
        exact x_vret hx hb hr hlk hK hG (by rw [z0]) dX3_findReach_95
      · replace hf := if_f c13 hf
        refine lv_iconst (v := 0) hx hb dX3_findReach_18 (by decide) ?_
        refine lv_istore_n (lv' := [(2, .int 0), (0, .ref (a 23)), (1, .int x1)]) hx hb dX3_findReach_19 rfl hl (by decide) rfl (fun ls hl => ?_)
        exact L20 (f_X3_findReach_12 un n) ih FU x1 0 us hf H locs ls hG (lv_sub hl [1, 2, 0] rfl)
  unfold f_X3_findReach at hf
  refine lv_aload_n hx hb dX3_findReach_0 rfl (lv_at hl 0 rfl) ?_
  refine lv_iconst (v := 1) hx hb dX3_findReach_1 (by decide) ?_
  refine lv_aload_n hx hb dX3_findReach_2 rfl (lv_at hl 0 rfl) ?_
  refine x_get (C := RX3) (T := TX3) (N := 8) (ci := 3) hx hb hts iX3 hown hK hG 4 rfl rfl 2 (by decide) k19 (v := .int (us.root)) rfl dX3_findReach_3 ?_
  refine lv_ishl hx hb dX3_findReach_6 ?_
  obtain ⟨us14, eus14, hf⟩ := bnd_e hf
  refine x_put (C := RX3) (T := TX3) (N := 8) (ci := 3) hx hb hts iX3 tyX3 tyX3_ok nmX3 hown hK hG 4 rfl rfl 5 (by decide) k51 rfl (ty := .int) (v := .int (1 <<< ((us.root) &&& 31))) rfl rfl rfl (Nat.le_of_ble_eq_true rfl) (w1 := WN κ a un ++ (WS κ a us14)) (by rw [eus14]; rfl) dX3_findReach_7 (fun H locs hG => ?_)
  refine lv_iconst (v := 0) hx hb dX3_findReach_10 (by decide) ?_
  refine lv_istore_n (lv' := [(1, .int 0), (0, .ref (a 23))]) hx hb dX3_findReach_11 rfl hl (by decide) rfl (fun ls hl => ?_)
  exact L12  FU 0 us14 hf H locs ls hG (lv_sub hl [1, 0] rfl)
set_option maxRecDepth 100000 in
set_option maxHeartbeats 4000000 in
theorem c_X3_mayLead (l : Launch) (D : va_G) (κ : Nat → ClassId) (a : Nat → Nat) (sz : Nat) (p1 : Int32) (p2 : Int32) (un : NS) (us : SS) (r' : Int32)  (hf : f_X3_mayLead p1 p2 un us = some (r')) : Met l yX3_mayLead wsX3_mayLead ({ frames := 1, cells := 0, slots := 0, locals := 24 } : Room) (xPc D κ [.ref (a 23), .int p1, .int p2] (WN κ a un ++ (WS κ a us)) sz) (xQi D κ r' (WN κ a un ++ (WS κ a us)) (va_A (WN κ a un ++ (WS κ a us)) sz)) 0 0 (va_A (WN κ a un ++ (WS κ a us)) sz) := by
  refine x_ofW (cc := cX3_mayLead) (maxL := 3) (ret := (some .boolean)) (Qf := fun A => xQi D κ r' (WN κ a un ++ (WS κ a us)) A) (by decide) rfl (Nat.le_of_ble_eq_true rfl) ?_
  intro p e s m below meth c hx hb hr hlk hml hown hts hK A hA H locs hG ls hl
  have hown : s.vm.findClass RX3 = some m.cls := hown
  have hl : lv_has ls 3 [(0, .ref (a 23)), (1, .int p1), (2, .int p2)] := hl
  have iX1 : ∀ w ∈ u_ws RX1 TX1 3, w ∈ wsX3_mayLead := fun _ h => List.mem_cons_of_mem _ (List.mem_append_right _ h)
  have iX3 : ∀ w ∈ u_ws RX3 TX3 8, w ∈ wsX3_mayLead := fun _ h => List.mem_cons_of_mem _ (List.mem_append_left _ (List.mem_append_right _ h))
  have k23 := hts (.fieldLink RX3 23 "SpineDesks$Search" "banned" "I") (List.mem_of_getElem? (i := 4) rfl)
  have k26 := hts (.fieldLink RX3 26 "SpineDesks$Search" "forced" "I") (List.mem_of_getElem? (i := 5) rfl)
  have k54 := hts (.fieldLink RX3 54 "SpineDesks$Net" "from" "[I") (List.mem_of_getElem? (i := 2) rfl)
  have k63 := hts (.fieldLink RX3 63 "SpineDesks$Net" "to" "[I") (List.mem_of_getElem? (i := 3) rfl)
  have k9 := hts (.fieldLink RX3 9 "SpineDesks$Search" "net" "LSpineDesks$Net;") (List.mem_of_getElem? (i := 1) rfl)
  have L86 : ∀ (x1 : Int32) (x2 : Int32), f_X3_mayLead_86 un us x1 x2 = some (r') → ∀ (H : Heap) (locs : List Loc) (ls : Array Slot), xG D A s.heap (WN κ a un ++ (WS κ a us)) H locs → lv_has ls 3 [(0, .ref (a 23)), (1, .int x1), (2, .int x2)] → W p l e ({ frames := 1, cells := 0, slots := 0, locals := 24 } : Room) s m (([.ref (a 23), .int p1, .int p2] : List Value).toArray) below meth c H locs 0 0 (MQ below (xQi D κ r' (WN κ a un ++ (WS κ a us)) A) (([.ref (a 23), .int p1, .int p2] : List Value).toArray) s 0 0 A) (F0 m 86 ls []) := by
    intro  x1 x2 hf H locs ls hG hl
    unfold f_X3_mayLead_86 at hf
    refine lv_aload_n hx hb dX3_mayLead_86 rfl (lv_at hl 0 rfl) ?_
    refine lv_aload_n hx hb dX3_mayLead_87 rfl (lv_at hl 0 rfl) ?_
    refine x_get (C := RX3) (T := TX3) (N := 8) (ci := 3) hx hb hts iX3 hown hK hG 4 rfl rfl 0 (by decide) k9 (v := .ref (a 19)) rfl dX3_mayLead_88 ?_
    refine x_get (C := RX1) (T := TX1) (N := 3) (ci := 1) hx hb hts iX1 hown hK hG 0 rfl rfl 0 (by decide) k54 (v := .ref (a 20)) rfl dX3_mayLead_91 ?_
    refine lv_iload_n hx hb dX3_mayLead_94 rfl (lv_at hl 1 rfl) ?_
    obtain ⟨v1, ev1, hin, hf⟩ := ck_e hf
    refine x_iald hx hb hK hG 1 rfl ev1 hin dX3_mayLead_95 ?_
    refine lv_iload_n hx hb dX3_mayLead_96 rfl (lv_at hl 2 rfl) ?_
    obtain ⟨r2, q3, hf⟩ := cl1_e hf
    refine x_callVi (pre := ([] : va_W)) (wc := WN κ a un ++ (WS κ a us)) (wc1 := WN κ a un ++ (WS κ a us)) (post := ([] : va_W)) (As := [.int v1, .int x2]) (rest := []) (w1 := WN κ a un ++ (WS κ a us)) ⟨hx, hb, hml, hown, hts⟩ hK hG hA (by simp only [List.append_assoc, List.nil_append, List.append_nil]) (by simp only [List.append_assoc, List.nil_append, List.append_nil]) (c_X3_closesRing l D κ a H.size v1 x2 un us r2 q3) (cwV 2 hts gX3_mayLead_X3_closesRing rfl rfl rfl (by decide +kernel) ⟨Nat.le_of_ble_eq_true rfl, Nat.le_of_ble_eq_true rfl⟩) 4 3 rfl rfl rfl rfl hl.1 rfl (Nat.le_of_ble_eq_true rfl) dX3_mayLead_97 ⟨Nat.zero_le _, Nat.zero_le _⟩ (fun H locs hG => ?_)
    refine lv_if_ne (tgt := 107) hx hb dX3_mayLead_100 (by decide) (fun c4 => ?_) (fun c4 => ?_)
    · replace hf := if_f c4 hf
      refine lv_iconst (v := 0) hx hb dX3_mayLead_107 (by decide) ?_
      have z0 := Option.some.inj hf
      exact x_zret hx hb hr hlk hK hG (by decide) z0 rfl dX3_mayLead_108
    · replace hf := if_t c4 hf
      refine lv_iconst (v := 1) hx hb dX3_mayLead_103 (by decide) ?_
      refine lv_goto (tgt := 108) hx hb dX3_mayLead_104 (by decide) ?_
      have z0 := Option.some.inj hf
      exact x_zret hx hb hr hlk hK hG (by decide) z0 rfl dX3_mayLead_108
  unfold f_X3_mayLead at hf
  refine lv_aload_n hx hb dX3_mayLead_0 rfl (lv_at hl 0 rfl) ?_
  refine x_get (C := RX3) (T := TX3) (N := 8) (ci := 3) hx hb hts iX3 hown hK hG 4 rfl rfl 0 (by decide) k9 (v := .ref (a 19)) rfl dX3_mayLead_1 ?_
  refine x_get (C := RX1) (T := TX1) (N := 3) (ci := 1) hx hb hts iX1 hown hK hG 0 rfl rfl 0 (by decide) k54 (v := .ref (a 20)) rfl dX3_mayLead_4 ?_
  refine lv_iload_n hx hb dX3_mayLead_7 rfl (lv_at hl 1 rfl) ?_
  obtain ⟨v5, ev5, hin, hf⟩ := ck_e hf
  refine x_iald hx hb hK hG 1 rfl ev5 hin dX3_mayLead_8 ?_
  refine lv_iconst (v := (-1)) hx hb dX3_mayLead_9 (by decide) ?_
  refine lv_icmp_eq (tgt := 50) hx hb dX3_mayLead_10 (by decide) (fun c6 => ?_) (fun c6 => ?_)
  · replace hf := if_t c6 hf
    refine lv_iconst (v := 0) hx hb dX3_mayLead_50 (by decide) ?_
    have z0 := Option.some.inj hf
    exact x_zret hx hb hr hlk hK hG (by decide) z0 rfl dX3_mayLead_51
  · replace hf := if_f c6 hf
    refine lv_aload_n hx hb dX3_mayLead_13 rfl (lv_at hl 0 rfl) ?_
    refine x_get (C := RX3) (T := TX3) (N := 8) (ci := 3) hx hb hts iX3 hown hK hG 4 rfl rfl 0 (by decide) k9 (v := .ref (a 19)) rfl dX3_mayLead_14 ?_
    refine x_get (C := RX1) (T := TX1) (N := 3) (ci := 1) hx hb hts iX1 hown hK hG 0 rfl rfl 1 (by decide) k63 (v := .ref (a 21)) rfl dX3_mayLead_17 ?_
    refine lv_iload_n hx hb dX3_mayLead_20 rfl (lv_at hl 1 rfl) ?_
    obtain ⟨v7, ev7, hin, hf⟩ := ck_e hf
    refine x_iald hx hb hK hG 2 rfl ev7 hin dX3_mayLead_21 ?_
    refine lv_iload_n hx hb dX3_mayLead_22 rfl (lv_at hl 2 rfl) ?_
    refine lv_icmp_ne (tgt := 50) hx hb dX3_mayLead_23 (by decide) (fun c8 => ?_) (fun c8 => ?_)
    · replace hf := if_f c8 hf
      refine lv_iconst (v := 0) hx hb dX3_mayLead_50 (by decide) ?_
      have z0 := Option.some.inj hf
      exact x_zret hx hb hr hlk hK hG (by decide) z0 rfl dX3_mayLead_51
    · replace hf := if_t c8 hf
      refine lv_iload_n hx hb dX3_mayLead_26 rfl (lv_at hl 1 rfl) ?_
      refine lv_aload_n hx hb dX3_mayLead_27 rfl (lv_at hl 0 rfl) ?_
      refine x_get (C := RX3) (T := TX3) (N := 8) (ci := 3) hx hb hts iX3 hown hK hG 4 rfl rfl 3 (by decide) k23 (v := .int (us.banned)) rfl dX3_mayLead_28 ?_
      refine lv_icmp_eq (tgt := 50) hx hb dX3_mayLead_31 (by decide) (fun c9 => ?_) (fun c9 => ?_)
      · replace hf := if_t c9 hf
        refine lv_iconst (v := 0) hx hb dX3_mayLead_50 (by decide) ?_
        have z0 := Option.some.inj hf
        exact x_zret hx hb hr hlk hK hG (by decide) z0 rfl dX3_mayLead_51
      · replace hf := if_f c9 hf
        refine lv_aload_n hx hb dX3_mayLead_34 rfl (lv_at hl 0 rfl) ?_
        refine lv_aload_n hx hb dX3_mayLead_35 rfl (lv_at hl 0 rfl) ?_
        refine x_get (C := RX3) (T := TX3) (N := 8) (ci := 3) hx hb hts iX3 hown hK hG 4 rfl rfl 0 (by decide) k9 (v := .ref (a 19)) rfl dX3_mayLead_36 ?_
        refine x_get (C := RX1) (T := TX1) (N := 3) (ci := 1) hx hb hts iX1 hown hK hG 0 rfl rfl 0 (by decide) k54 (v := .ref (a 20)) rfl dX3_mayLead_39 ?_
        refine lv_iload_n hx hb dX3_mayLead_42 rfl (lv_at hl 1 rfl) ?_
        obtain ⟨v10, ev10, hin, hf⟩ := ck_e hf
        refine x_iald hx hb hK hG 1 rfl ev10 hin dX3_mayLead_43 ?_
        obtain ⟨r11, q12, hf⟩ := cl1_e hf
        refine x_callVi (pre := ([] : va_W)) (wc := WN κ a un ++ (WS κ a us)) (wc1 := WN κ a un ++ (WS κ a us)) (post := ([] : va_W)) (As := [.int v10]) (rest := []) (w1 := WN κ a un ++ (WS κ a us)) ⟨hx, hb, hml, hown, hts⟩ hK hG hA (by simp only [List.append_assoc, List.nil_append, List.append_nil]) (by simp only [List.append_assoc, List.nil_append, List.append_nil]) (c_X3_isReached l D κ a H.size v10 un us r11 q12) (cwV 1 hts gX3_mayLead_X3_isReached rfl rfl rfl (by decide +kernel) ⟨Nat.le_of_ble_eq_true rfl, Nat.le_of_ble_eq_true rfl⟩) 4 3 rfl rfl rfl rfl hl.1 rfl (Nat.le_of_ble_eq_true rfl) dX3_mayLead_44 ⟨Nat.zero_le _, Nat.zero_le _⟩ (fun H locs hG => ?_)
        refine lv_if_ne (tgt := 52) hx hb dX3_mayLead_47 (by decide) (fun c13 => ?_) (fun c13 => ?_)
        · replace hf := if_f c13 hf
          refine lv_aload_n hx hb dX3_mayLead_52 rfl (lv_at hl 0 rfl) ?_
          refine x_get (C := RX3) (T := TX3) (N := 8) (ci := 3) hx hb hts iX3 hown hK hG 4 rfl rfl 4 (by decide) k26 (v := .int (us.forced)) rfl dX3_mayLead_53 ?_
          refine lv_iconst (v := (-1)) hx hb dX3_mayLead_56 (by decide) ?_
          refine lv_icmp_eq (tgt := 86) hx hb dX3_mayLead_57 (by decide) (fun c14 => ?_) (fun c14 => ?_)
          · replace hf := if_t c14 hf
            exact L86   p1 p2 hf H locs ls hG (lv_sub hl [0, 1, 2] rfl)
          · replace hf := if_f c14 hf
            refine lv_aload_n hx hb dX3_mayLead_60 rfl (lv_at hl 0 rfl) ?_
            refine x_get (C := RX3) (T := TX3) (N := 8) (ci := 3) hx hb hts iX3 hown hK hG 4 rfl rfl 0 (by decide) k9 (v := .ref (a 19)) rfl dX3_mayLead_61 ?_
            refine x_get (C := RX1) (T := TX1) (N := 3) (ci := 1) hx hb hts iX1 hown hK hG 0 rfl rfl 1 (by decide) k63 (v := .ref (a 21)) rfl dX3_mayLead_64 ?_
            refine lv_aload_n hx hb dX3_mayLead_67 rfl (lv_at hl 0 rfl) ?_
            refine x_get (C := RX3) (T := TX3) (N := 8) (ci := 3) hx hb hts iX3 hown hK hG 4 rfl rfl 4 (by decide) k26 (v := .int (us.forced)) rfl dX3_mayLead_68 ?_
            obtain ⟨v15, ev15, hin, hf⟩ := ck_e hf
            refine x_iald hx hb hK hG 2 rfl ev15 hin dX3_mayLead_71 ?_
            refine lv_iload_n hx hb dX3_mayLead_72 rfl (lv_at hl 2 rfl) ?_
            refine lv_icmp_ne (tgt := 86) hx hb dX3_mayLead_73 (by decide) (fun c16 => ?_) (fun c16 => ?_)
            · replace hf := if_f c16 hf
              exact L86   p1 p2 hf H locs ls hG (lv_sub hl [0, 1, 2] rfl)
            · replace hf := if_t c16 hf
              refine lv_iload_n hx hb dX3_mayLead_76 rfl (lv_at hl 1 rfl) ?_
              refine lv_aload_n hx hb dX3_mayLead_77 rfl (lv_at hl 0 rfl) ?_
              refine x_get (C := RX3) (T := TX3) (N := 8) (ci := 3) hx hb hts iX3 hown hK hG 4 rfl rfl 4 (by decide) k26 (v := .int (us.forced)) rfl dX3_mayLead_78 ?_
              refine lv_icmp_eq (tgt := 86) hx hb dX3_mayLead_81 (by decide) (fun c17 => ?_) (fun c17 => ?_)
              · replace hf := if_t c17 hf
                exact L86   p1 p2 hf H locs ls hG (lv_sub hl [0, 1, 2] rfl)
              · replace hf := if_f c17 hf
                refine lv_iconst (v := 0) hx hb dX3_mayLead_84 (by decide) ?_
                have z0 := Option.some.inj hf
                exact x_zret hx hb hr hlk hK hG (by decide) z0 rfl dX3_mayLead_85
        · replace hf := if_t c13 hf
          refine lv_iconst (v := 0) hx hb dX3_mayLead_50 (by decide) ?_
          have z0 := Option.some.inj hf
          exact x_zret hx hb hr hlk hK hG (by decide) z0 rfl dX3_mayLead_51
set_option maxRecDepth 100000 in
set_option maxHeartbeats 4000000 in
theorem c_X3_choose (d : Nat) (l : Launch) (D : va_G) (κ : Nat → ClassId) (a : Nat → Nat) : ∀ (sz : Nat) (p1 : Int32) (p2 : Int64) (un : NS) (us : SS)  (us' : SS) (hf : f_X3_choose d p1 p2 un us = some (us')), Met l yX3_choose wsX3_choose ({ frames := 2 + d, cells := 0, slots := 0, locals := 46 + 24 * d } : Room) (xPc D κ [.ref (a 23), .int p1, .long p2] (WN κ a un ++ (WS κ a us)) sz) (xQv D κ (WN κ a un ++ (WS κ a us')) (va_A (WN κ a un ++ (WS κ a us)) sz)) 0 0 (va_A (WN κ a un ++ (WS κ a us)) sz) := by
  induction d with
  | zero => intro sz p1 p2 un us us' hf; cases hf
  | succ d ihd =>
  intro sz p1 p2 un us us' hf
  replace hf : f_X3_choose_E (f_X3_choose d) p1 p2 un us = some (us') := hf
  refine x_ofW (cc := cX3_choose) (maxL := 5) (ret := none) (Qf := fun A => xQv D κ (WN κ a un ++ (WS κ a us')) A) (by decide) rfl (Nat.le_of_ble_eq_true rfl) ?_
  intro p e s m below meth c hx hb hr hlk hml hown hts hK A hA H locs hG ls hl
  have hown : s.vm.findClass RX3 = some m.cls := hown
  have hl : lv_has ls 5 [(0, .ref (a 23)), (1, .int p1), (2, .long p2)] := hl
  have iX3 : ∀ w ∈ u_ws RX3 TX3 8, w ∈ wsX3_choose := fun _ h => List.mem_cons_of_mem _ (List.mem_append_left _ (List.mem_append_right _ h))
  have k15 := hts (.fieldLink RX3 15 "SpineDesks$Search" "into" "[I") (List.mem_of_getElem? (i := 3) rfl)
  have k19 := hts (.fieldLink RX3 19 "SpineDesks$Search" "root" "I") (List.mem_of_getElem? (i := 2) rfl)
  have k35 := hts (.fieldLink RX3 35 "SpineDesks$Search" "next" "J") (List.mem_of_getElem? (i := 1) rfl)
  have L97 : ∀ (rec50 : Int32 → Int64 → Int32 → SS → Option (SS)) (hr50 : ∀ (y1 : Int32) (y2 : Int64) (y4 : Int32) (us : SS), rec50 y1 y2 y4 us = some (us') → ∀ (H : Heap) (locs : List Loc) (ls : Array Slot), xG D A s.heap (WN κ a un ++ (WS κ a us)) H locs → lv_has ls 5 [(0, .ref (a 23)), (1, .int y1), (2, .long y2), (4, .int y4)] → W p l e ({ frames := 2 + (d + 1), cells := 0, slots := 0, locals := 46 + 24 * (d + 1) } : Room) s m (([.ref (a 23), .int p1, .long p2] : List Value).toArray) below meth c H locs 0 0 (MQ below (xQv D κ (WN κ a un ++ (WS κ a us')) A) (([.ref (a 23), .int p1, .long p2] : List Value).toArray) s 0 0 A) (F0 m 50 ls [])), ∀ (x1 : Int32) (x2 : Int64) (x4 : Int32) (us : SS), f_X3_choose_97 (f_X3_choose d) un rec50 x1 x2 x4 us = some (us') → ∀ (H : Heap) (locs : List Loc) (ls : Array Slot), xG D A s.heap (WN κ a un ++ (WS κ a us)) H locs → lv_has ls 5 [(0, .ref (a 23)), (1, .int x1), (2, .long x2), (4, .int x4)] → W p l e ({ frames := 2 + (d + 1), cells := 0, slots := 0, locals := 46 + 24 * (d + 1) } : Room) s m (([.ref (a 23), .int p1, .long p2] : List Value).toArray) below meth c H locs 0 0 (MQ below (xQv D κ (WN κ a un ++ (WS κ a us')) A) (([.ref (a 23), .int p1, .long p2] : List Value).toArray) s 0 0 A) (F0 m 97 ls []) := by
    intro rec50 hr50 x1 x2 x4 us hf H locs ls hG hl
    unfold f_X3_choose_97 at hf
    obtain ⟨y1, ey1, hf⟩ := bnd_e hf
    refine lv_iinc (v := y1) (lv' := [(4, .int y1), (0, .ref (a 23)), (1, .int x1), (2, .long x2)]) hx hb dX3_choose_97 hl (k := 3) rfl (by rw [ey1]; rfl) (by decide) rfl (fun ls hl => ?_)
    refine lv_goto (tgt := 50) hx hb dX3_choose_100 (by decide) ?_
    exact hr50 x1 x2 y1 us hf H locs ls hG (lv_sub hl [1, 2, 3, 0] rfl)
  have L50 : ∀ (n : Nat), ∀ (x1 : Int32) (x2 : Int64) (x4 : Int32) (us : SS), f_X3_choose_50 (f_X3_choose d) un n x1 x2 x4 us = some (us') → ∀ (H : Heap) (locs : List Loc) (ls : Array Slot), xG D A s.heap (WN κ a un ++ (WS κ a us)) H locs → lv_has ls 5 [(0, .ref (a 23)), (1, .int x1), (2, .long x2), (4, .int x4)] → W p l e ({ frames := 2 + (d + 1), cells := 0, slots := 0, locals := 46 + 24 * (d + 1) } : Room) s m (([.ref (a 23), .int p1, .long p2] : List Value).toArray) below meth c H locs 0 0 (MQ below (xQv D κ (WN κ a un ++ (WS κ a us')) A) (([.ref (a 23), .int p1, .long p2] : List Value).toArray) s 0 0 A) (F0 m 50 ls []) := by
    intro  n
    induction n with
    | zero => intro x1 x2 x4 us hf; cases hf
    | succ n ih =>
      intro x1 x2 x4 us hf H locs ls hG hl
      replace hf : f_X3_choose_B50 (f_X3_choose d) un (f_X3_choose_50 (f_X3_choose d) un n) x1 x2 x4 us = some (us') := hf
      unfold f_X3_choose_B50 at hf
      refine lv_iload hx hb dX3_choose_50 (lv_at hl 3 rfl) ?_
      refine lv_bipush (v := 20) hx hb dX3_choose_52 (by decide) ?_
      refine lv_icmp_ge (tgt := 103) hx hb dX3_choose_54 (by decide) (fun c2 => ?_) (fun c2 => ?_)
      · replace hf := if_t c2 hf
        have z0 := Option.some.inj hf
        exact x_vret hx hb hr hlk hK hG (by rw [z0]) dX3_choose_103
      · replace hf := if_f c2 hf
        refine lv_aload_n hx hb dX3_choose_57 rfl (lv_at hl 0 rfl) ?_
        refine lv_iload hx hb dX3_choose_58 (lv_at hl 3 rfl) ?_
        refine lv_iload_n hx hb dX3_choose_60 rfl (lv_at hl 1 rfl) ?_
        obtain ⟨r3, q4, hf⟩ := cl1_e hf
        refine x_callVi (pre := ([] : va_W)) (wc := WN κ a un ++ (WS κ a us)) (wc1 := WN κ a un ++ (WS κ a us)) (post := ([] : va_W)) (As := [.int x4, .int x1]) (rest := []) (w1 := WN κ a un ++ (WS κ a us)) ⟨hx, hb, hml, hown, hts⟩ hK hG hA (by simp only [List.append_assoc, List.nil_append, List.append_nil]) (by simp only [List.append_assoc, List.nil_append, List.append_nil]) (c_X3_mayLead l D κ a H.size x4 x1 un us r3 q4) (cwV 2 hts gX3_choose_X3_mayLead rfl rfl rfl (by decide +kernel) ⟨by dsimp only; omega, by dsimp only; omega⟩) 4 3 rfl rfl rfl rfl hl.1 rfl (Nat.le_of_ble_eq_true rfl) dX3_choose_61 ⟨Nat.zero_le _, Nat.zero_le _⟩ (fun H locs hG => ?_)
        refine lv_if_eq (tgt := 97) hx hb dX3_choose_64 (by decide) (fun c5 => ?_) (fun c5 => ?_)
        · replace hf := if_t c5 hf
          exact L97 (f_X3_choose_50 (f_X3_choose d) un n) ih  x1 x2 x4 us hf H locs ls hG (lv_sub hl [0, 1, 2, 3] rfl)
        · replace hf := if_f c5 hf
          refine lv_aload_n hx hb dX3_choose_67 rfl (lv_at hl 0 rfl) ?_
          refine x_get (C := RX3) (T := TX3) (N := 8) (ci := 3) hx hb hts iX3 hown hK hG 4 rfl rfl 1 (by decide) k15 (v := .ref (a 24)) rfl dX3_choose_68 ?_
          refine lv_iload_n hx hb dX3_choose_71 rfl (lv_at hl 1 rfl) ?_
          refine lv_iload hx hb dX3_choose_72 (lv_at hl 3 rfl) ?_
          obtain ⟨us6, eus6, hin, hf⟩ := ck_e hf
          refine x_iast hx hb hK hG 5 rfl (w1 := WN κ a un ++ (WS κ a us6)) (by rw [eus6]; rfl) hin dX3_choose_74 (fun H locs hG => ?_)
          refine lv_aload_n hx hb dX3_choose_75 rfl (lv_at hl 0 rfl) ?_
          refine lv_iload_n hx hb dX3_choose_76 rfl (lv_at hl 1 rfl) ?_
          refine lv_iconst (v := 1) hx hb dX3_choose_77 (by decide) ?_
          refine lv_iadd hx hb dX3_choose_78 ?_
          refine lv_lload_n hx hb dX3_choose_79 rfl (lv_at hl 2 rfl) ?_
          refine lv_aload_n hx hb dX3_choose_80 rfl (lv_at hl 0 rfl) ?_
          refine lv_iload hx hb dX3_choose_81 (lv_at hl 3 rfl) ?_
          obtain ⟨r7, q8, hf⟩ := cl1_e hf
          refine x_callVl (pre := ([] : va_W)) (wc := WN κ a un ++ (WS κ a us6)) (wc1 := WN κ a un ++ (WS κ a us6)) (post := ([] : va_W)) (As := [.int x4]) (rest := [.long x2, .int (x1 + 1), .ref (a 23)]) (w1 := WN κ a un ++ (WS κ a us6)) ⟨hx, hb, hml, hown, hts⟩ hK hG hA (by simp only [List.append_assoc, List.nil_append, List.append_nil]) (by simp only [List.append_assoc, List.nil_append, List.append_nil]) (c_X3_weightOf l D κ a H.size x4 un us6 r7 q8) (cwV 1 hts gX3_choose_X3_weightOf rfl rfl rfl (by decide +kernel) ⟨by dsimp only; omega, by dsimp only; omega⟩) 4 3 rfl rfl rfl rfl hl.1 rfl (Nat.le_of_ble_eq_true rfl) dX3_choose_83 ⟨Nat.zero_le _, Nat.zero_le _⟩ (fun H locs hG => ?_)
          refine lv_ladd hx hb dX3_choose_86 ?_
          obtain ⟨us9, q10, hf⟩ := cl1_e hf
          refine x_callVv (pre := ([] : va_W)) (wc := WN κ a un ++ (WS κ a us6)) (wc1 := WN κ a un ++ (WS κ a us9)) (post := ([] : va_W)) (As := [.int (x1 + 1), .long (x2 + r7)]) (rest := []) (w1 := WN κ a un ++ (WS κ a us9)) ⟨hx, hb, hml, hown, hts⟩ hK hG hA (by simp only [List.append_assoc, List.nil_append, List.append_nil]) (by simp only [List.append_assoc, List.nil_append, List.append_nil]) (ihd H.size (x1 + 1) (x2 + r7) un us6 us9 q10) (cwV 2 hts gX3_choose_X3_choose rfl rfl rfl (by decide +kernel) ⟨by dsimp only; omega, by dsimp only; omega⟩) 4 3 rfl rfl rfl rfl hl.1 rfl (Nat.le_of_ble_eq_true rfl) dX3_choose_87 ⟨Nat.zero_le _, Nat.zero_le _⟩ (fun H locs hG => ?_)
          refine lv_aload_n hx hb dX3_choose_90 rfl (lv_at hl 0 rfl) ?_
          refine x_get (C := RX3) (T := TX3) (N := 8) (ci := 3) hx hb hts iX3 hown hK hG 4 rfl rfl 1 (by decide) k15 (v := .ref (a 24)) rfl dX3_choose_91 ?_
          refine lv_iload_n hx hb dX3_choose_94 rfl (lv_at hl 1 rfl) ?_
          refine lv_iconst (v := (-1)) hx hb dX3_choose_95 (by decide) ?_
          obtain ⟨us11, eus11, hin, hf⟩ := ck_e hf
          refine x_iast hx hb hK hG 5 rfl (w1 := WN κ a un ++ (WS κ a us11)) (by rw [eus11]; rfl) hin dX3_choose_96 (fun H locs hG => ?_)
          exact L97 (f_X3_choose_50 (f_X3_choose d) un n) ih  x1 x2 x4 us11 hf H locs ls hG (lv_sub hl [0, 1, 2, 3] rfl)
  have L38 : ∀ (x1 : Int32) (x2 : Int64) (us : SS), f_X3_choose_38 (f_X3_choose d) un x1 x2 us = some (us') → ∀ (H : Heap) (locs : List Loc) (ls : Array Slot), xG D A s.heap (WN κ a un ++ (WS κ a us)) H locs → lv_has ls 5 [(0, .ref (a 23)), (1, .int x1), (2, .long x2)] → W p l e ({ frames := 2 + (d + 1), cells := 0, slots := 0, locals := 46 + 24 * (d + 1) } : Room) s m (([.ref (a 23), .int p1, .long p2] : List Value).toArray) below meth c H locs 0 0 (MQ below (xQv D κ (WN κ a un ++ (WS κ a us')) A) (([.ref (a 23), .int p1, .long p2] : List Value).toArray) s 0 0 A) (F0 m 38 ls []) := by
    intro  x1 x2 us hf H locs ls hG hl
    unfold f_X3_choose_38 at hf
    refine lv_aload_n hx hb dX3_choose_38 rfl (lv_at hl 0 rfl) ?_
    refine lv_iload_n hx hb dX3_choose_39 rfl (lv_at hl 1 rfl) ?_
    refine lv_iconst (v := 1) hx hb dX3_choose_40 (by decide) ?_
    refine lv_iadd hx hb dX3_choose_41 ?_
    refine lv_lload_n hx hb dX3_choose_42 rfl (lv_at hl 2 rfl) ?_
    obtain ⟨us12, q13, hf⟩ := cl1_e hf
    refine x_callVv (pre := ([] : va_W)) (wc := WN κ a un ++ (WS κ a us)) (wc1 := WN κ a un ++ (WS κ a us12)) (post := ([] : va_W)) (As := [.int (x1 + 1), .long x2]) (rest := []) (w1 := WN κ a un ++ (WS κ a us12)) ⟨hx, hb, hml, hown, hts⟩ hK hG hA (by simp only [List.append_assoc, List.nil_append, List.append_nil]) (by simp only [List.append_assoc, List.nil_append, List.append_nil]) (ihd H.size (x1 + 1) x2 un us us12 q13) (cwV 2 hts gX3_choose_X3_choose rfl rfl rfl (by decide +kernel) ⟨by dsimp only; omega, by dsimp only; omega⟩) 4 3 rfl rfl rfl rfl hl.1 rfl (Nat.le_of_ble_eq_true rfl) dX3_choose_43 ⟨Nat.zero_le _, Nat.zero_le _⟩ (fun H locs hG => ?_)
    have z0 := Option.some.inj hf
    exact x_vret hx hb hr hlk hK hG (by rw [z0]) dX3_choose_46
  unfold f_X3_choose_E at hf
  refine lv_lload_n hx hb dX3_choose_0 rfl (lv_at hl 2 rfl) ?_
  refine lv_aload_n hx hb dX3_choose_1 rfl (lv_at hl 0 rfl) ?_
  refine x_get (C := RX3) (T := TX3) (N := 8) (ci := 3) hx hb hts iX3 hown hK hG 4 rfl rfl 7 (by decide) k35 (v := .long (us.next)) rfl dX3_choose_2 ?_
  refine W.lcmp hx hb dX3_choose_5 ?_
  refine lv_if_lt (tgt := 10) hx hb dX3_choose_6 (by decide) (fun c14 => ?_) (fun c14 => ?_)
  · rw [lg_cmp_lt] at c14
    replace hf := if_t c14 hf
    refine lv_iload_n hx hb dX3_choose_10 rfl (lv_at hl 1 rfl) ?_
    refine lv_bipush (v := 8) hx hb dX3_choose_11 (by decide) ?_
    refine lv_icmp_lt (tgt := 22) hx hb dX3_choose_13 (by decide) (fun c15 => ?_) (fun c15 => ?_)
    · replace hf := if_t c15 hf
      refine lv_iload_n hx hb dX3_choose_22 rfl (lv_at hl 1 rfl) ?_
      refine lv_aload_n hx hb dX3_choose_23 rfl (lv_at hl 0 rfl) ?_
      refine x_get (C := RX3) (T := TX3) (N := 8) (ci := 3) hx hb hts iX3 hown hK hG 4 rfl rfl 2 (by decide) k19 (v := .int (us.root)) rfl dX3_choose_24 ?_
      refine lv_icmp_eq (tgt := 38) hx hb dX3_choose_27 (by decide) (fun c16 => ?_) (fun c16 => ?_)
      · replace hf := if_t c16 hf
        exact L38   p1 p2 us hf H locs ls hG (lv_sub hl [0, 1, 2] rfl)
      · replace hf := if_f c16 hf
        refine lv_aload_n hx hb dX3_choose_30 rfl (lv_at hl 0 rfl) ?_
        refine lv_iload_n hx hb dX3_choose_31 rfl (lv_at hl 1 rfl) ?_
        obtain ⟨r17, q18, hf⟩ := cl1_e hf
        refine x_callVi (pre := ([] : va_W)) (wc := WN κ a un ++ (WS κ a us)) (wc1 := WN κ a un ++ (WS κ a us)) (post := ([] : va_W)) (As := [.int p1]) (rest := []) (w1 := WN κ a un ++ (WS κ a us)) ⟨hx, hb, hml, hown, hts⟩ hK hG hA (by simp only [List.append_assoc, List.nil_append, List.append_nil]) (by simp only [List.append_assoc, List.nil_append, List.append_nil]) (c_X3_isReached l D κ a H.size p1 un us r17 q18) (cwV 1 hts gX3_choose_X3_isReached rfl rfl rfl (by decide +kernel) ⟨by dsimp only; omega, by dsimp only; omega⟩) 4 3 rfl rfl rfl rfl hl.1 rfl (Nat.le_of_ble_eq_true rfl) dX3_choose_32 ⟨Nat.zero_le _, Nat.zero_le _⟩ (fun H locs hG => ?_)
        refine lv_if_ne (tgt := 47) hx hb dX3_choose_35 (by decide) (fun c19 => ?_) (fun c19 => ?_)
        · replace hf := if_f c19 hf
          refine lv_iconst (v := 0) hx hb dX3_choose_47 (by decide) ?_
          refine lv_istore (lv' := [(4, .int 0), (0, .ref (a 23)), (1, .int p1), (2, .long p2)]) hx hb dX3_choose_48 hl (by decide) rfl (fun ls hl => ?_)
          exact L50  FU p1 p2 0 us hf H locs ls hG (lv_sub hl [1, 2, 3, 0] rfl)
        · replace hf := if_t c19 hf
          exact L38   p1 p2 us hf H locs ls hG (lv_sub hl [0, 1, 2] rfl)
    · replace hf := if_f c15 hf
      refine lv_aload_n hx hb dX3_choose_16 rfl (lv_at hl 0 rfl) ?_
      refine lv_lload_n hx hb dX3_choose_17 rfl (lv_at hl 2 rfl) ?_
      obtain ⟨us20, q21, hf⟩ := cl1_e hf
      refine x_callVv (pre := ([] : va_W)) (wc := WN κ a un ++ (WS κ a us)) (wc1 := WN κ a un ++ (WS κ a us20)) (post := ([] : va_W)) (As := [.long p2]) (rest := []) (w1 := WN κ a un ++ (WS κ a us20)) ⟨hx, hb, hml, hown, hts⟩ hK hG hA (by simp only [List.append_assoc, List.nil_append, List.append_nil]) (by simp only [List.append_assoc, List.nil_append, List.append_nil]) (c_X3_noteTree l D κ a H.size p2 un us us20 q21) (cwV 1 hts gX3_choose_X3_noteTree rfl rfl rfl (by decide +kernel) ⟨by dsimp only; omega, by dsimp only; omega⟩) 4 3 rfl rfl rfl rfl hl.1 rfl (Nat.le_of_ble_eq_true rfl) dX3_choose_18 ⟨Nat.zero_le _, Nat.zero_le _⟩ (fun H locs hG => ?_)
      have z0 := Option.some.inj hf
      exact x_vret hx hb hr hlk hK hG (by rw [z0]) dX3_choose_21
  · rw [lg_cmp_lt] at c14
    replace hf := if_f c14 hf
    have z0 := Option.some.inj hf
    exact x_vret hx hb hr hlk hK hG (by rw [z0]) dX3_choose_9
set_option maxRecDepth 100000 in
set_option maxHeartbeats 4000000 in
theorem c_X3_seek (l : Launch) (D : va_G) (κ : Nat → ClassId) (a : Nat → Nat) (sz : Nat) (p1 : Int32) (p2 : Int32) (p3 : Int32) (un : NS) (us : SS)  (us' : SS) (hf : f_X3_seek p1 p2 p3 un us = some (us')) : Met l yX3_seek wsX3_seek ({ frames := 12, cells := 0, slots := 0, locals := 286 } : Room) (xPc D κ [.ref (a 23), .int p1, .int p2, .int p3] (WN κ a un ++ (WS κ a us)) sz) (xQv D κ (WN κ a un ++ (WS κ a us')) (va_A (WN κ a un ++ (WS κ a us)) sz)) 0 0 (va_A (WN κ a un ++ (WS κ a us)) sz) := by
  refine x_ofW (cc := cX3_seek) (maxL := 4) (ret := none) (Qf := fun A => xQv D κ (WN κ a un ++ (WS κ a us')) A) (by decide) rfl (Nat.le_of_ble_eq_true rfl) ?_
  intro p e s m below meth c hx hb hr hlk hml hown hts hK A hA H locs hG ls hl
  have hown : s.vm.findClass RX3 = some m.cls := hown
  have hl : lv_has ls 4 [(0, .ref (a 23)), (1, .int p1), (2, .int p2), (3, .int p3)] := hl
  have iX3 : ∀ w ∈ u_ws RX3 TX3 8, w ∈ wsX3_seek := fun _ h => List.mem_cons_of_mem _ (List.mem_append_left _ (List.mem_append_right _ h))
  have k15 := hts (.fieldLink RX3 15 "SpineDesks$Search" "into" "[I") (List.mem_of_getElem? (i := 7) rfl)
  have k19 := hts (.fieldLink RX3 19 "SpineDesks$Search" "root" "I") (List.mem_of_getElem? (i := 1) rfl)
  have k23 := hts (.fieldLink RX3 23 "SpineDesks$Search" "banned" "I") (List.mem_of_getElem? (i := 2) rfl)
  have k26 := hts (.fieldLink RX3 26 "SpineDesks$Search" "forced" "I") (List.mem_of_getElem? (i := 3) rfl)
  have k29 := hts (.constantLong RX3 29 (9223372036854775807)) (List.mem_of_getElem? (i := 4) rfl)
  have k31 := hts (.fieldLink RX3 31 "SpineDesks$Search" "first" "J") (List.mem_of_getElem? (i := 5) rfl)
  have k35 := hts (.fieldLink RX3 35 "SpineDesks$Search" "next" "J") (List.mem_of_getElem? (i := 6) rfl)
  unfold f_X3_seek at hf
  refine lv_aload_n hx hb dX3_seek_0 rfl (lv_at hl 0 rfl) ?_
  refine lv_iload_n hx hb dX3_seek_1 rfl (lv_at hl 1 rfl) ?_
  obtain ⟨us1, eus1, hf⟩ := bnd_e hf
  refine x_put (C := RX3) (T := TX3) (N := 8) (ci := 3) hx hb hts iX3 tyX3 tyX3_ok nmX3 hown hK hG 4 rfl rfl 2 (by decide) k19 rfl (ty := .int) (v := .int p1) rfl rfl rfl (Nat.le_of_ble_eq_true rfl) (w1 := WN κ a un ++ (WS κ a us1)) (by rw [eus1]; rfl) dX3_seek_2 (fun H locs hG => ?_)
  refine lv_aload_n hx hb dX3_seek_5 rfl (lv_at hl 0 rfl) ?_
  refine lv_iload_n hx hb dX3_seek_6 rfl (lv_at hl 2 rfl) ?_
  obtain ⟨us2, eus2, hf⟩ := bnd_e hf
  refine x_put (C := RX3) (T := TX3) (N := 8) (ci := 3) hx hb hts iX3 tyX3 tyX3_ok nmX3 hown hK hG 4 rfl rfl 3 (by decide) k23 rfl (ty := .int) (v := .int p2) rfl rfl rfl (Nat.le_of_ble_eq_true rfl) (w1 := WN κ a un ++ (WS κ a us2)) (by rw [eus2]; rfl) dX3_seek_7 (fun H locs hG => ?_)
  refine lv_aload_n hx hb dX3_seek_10 rfl (lv_at hl 0 rfl) ?_
  refine lv_iload_n hx hb dX3_seek_11 rfl (lv_at hl 3 rfl) ?_
  obtain ⟨us3, eus3, hf⟩ := bnd_e hf
  refine x_put (C := RX3) (T := TX3) (N := 8) (ci := 3) hx hb hts iX3 tyX3 tyX3_ok nmX3 hown hK hG 4 rfl rfl 4 (by decide) k26 rfl (ty := .int) (v := .int p3) rfl rfl rfl (Nat.le_of_ble_eq_true rfl) (w1 := WN κ a un ++ (WS κ a us3)) (by rw [eus3]; rfl) dX3_seek_12 (fun H locs hG => ?_)
  refine lv_aload_n hx hb dX3_seek_15 rfl (lv_at hl 0 rfl) ?_
  refine lv_ldc2 (v := 9223372036854775807) hx hb hown k29 dX3_seek_16 ?_
  obtain ⟨us4, eus4, hf⟩ := bnd_e hf
  refine x_put (C := RX3) (T := TX3) (N := 8) (ci := 3) hx hb hts iX3 tyX3 tyX3_ok nmX3 hown hK hG 4 rfl rfl 6 (by decide) k31 rfl (ty := .long) (v := .long 9223372036854775807) rfl rfl rfl (Nat.le_of_ble_eq_true rfl) (w1 := WN κ a un ++ (WS κ a us4)) (by rw [eus4]; rfl) dX3_seek_19 (fun H locs hG => ?_)
  refine lv_aload_n hx hb dX3_seek_22 rfl (lv_at hl 0 rfl) ?_
  refine lv_ldc2 (v := 9223372036854775807) hx hb hown k29 dX3_seek_23 ?_
  obtain ⟨us5, eus5, hf⟩ := bnd_e hf
  refine x_put (C := RX3) (T := TX3) (N := 8) (ci := 3) hx hb hts iX3 tyX3 tyX3_ok nmX3 hown hK hG 4 rfl rfl 7 (by decide) k35 rfl (ty := .long) (v := .long 9223372036854775807) rfl rfl rfl (Nat.le_of_ble_eq_true rfl) (w1 := WN κ a un ++ (WS κ a us5)) (by rw [eus5]; rfl) dX3_seek_26 (fun H locs hG => ?_)
  refine lv_aload_n hx hb dX3_seek_29 rfl (lv_at hl 0 rfl) ?_
  refine x_get (C := RX3) (T := TX3) (N := 8) (ci := 3) hx hb hts iX3 hown hK hG 4 rfl rfl 1 (by decide) k15 (v := .ref (a 24)) rfl dX3_seek_30 ?_
  refine lv_iconst (v := (-1)) hx hb dX3_seek_33 (by decide) ?_
  obtain ⟨us6, q7, hf⟩ := cl1_e hf
  refine x_callSv (pre := WN κ a un) (wc := WS κ a us5) (wc1 := WS κ a us6) (post := ([] : va_W)) (As := [.ref (a 24), .int ((-1))]) (rest := []) (w1 := WN κ a un ++ (WS κ a us6)) ⟨hx, hb, hml, hown, hts⟩ hK hG hA (by simp only [List.append_assoc, List.nil_append, List.append_nil]) (by simp only [List.append_assoc, List.nil_append, List.append_nil]) (c_fill_into l D κ a H.size ((-1)) us5 us6 q7) (va_cwS 2 hts gX3_seek_J7_fill_53178 rfl rfl rfl (by decide +kernel) ⟨Nat.le_of_ble_eq_true rfl, Nat.le_of_ble_eq_true rfl⟩) rfl hl.1 rfl (Nat.le_of_ble_eq_true rfl) dX3_seek_34 ⟨Nat.zero_le _, Nat.zero_le _⟩ (fun H locs hG => ?_)
  refine lv_aload_n hx hb dX3_seek_37 rfl (lv_at hl 0 rfl) ?_
  obtain ⟨us8, q9, hf⟩ := cl1_e hf
  refine x_callVv (pre := ([] : va_W)) (wc := WN κ a un ++ (WS κ a us6)) (wc1 := WN κ a un ++ (WS κ a us8)) (post := ([] : va_W)) (As := []) (rest := []) (w1 := WN κ a un ++ (WS κ a us8)) ⟨hx, hb, hml, hown, hts⟩ hK hG hA (by simp only [List.append_assoc, List.nil_append, List.append_nil]) (by simp only [List.append_assoc, List.nil_append, List.append_nil]) (c_X3_findReach l D κ a H.size un us6 us8 q9) (cwV 0 hts gX3_seek_X3_findReach rfl rfl rfl (by decide +kernel) ⟨Nat.le_of_ble_eq_true rfl, Nat.le_of_ble_eq_true rfl⟩) 4 3 rfl rfl rfl rfl hl.1 rfl (Nat.le_of_ble_eq_true rfl) dX3_seek_38 ⟨Nat.zero_le _, Nat.zero_le _⟩ (fun H locs hG => ?_)
  refine lv_aload_n hx hb dX3_seek_41 rfl (lv_at hl 0 rfl) ?_
  refine lv_iconst (v := 0) hx hb dX3_seek_42 (by decide) ?_
  refine lv_lconst (v := 0) hx hb dX3_seek_43 (by decide) ?_
  obtain ⟨us10, q11, hf⟩ := cl1_e hf
  refine x_callVv (pre := ([] : va_W)) (wc := WN κ a un ++ (WS κ a us8)) (wc1 := WN κ a un ++ (WS κ a us10)) (post := ([] : va_W)) (As := [.int 0, .long 0]) (rest := []) (w1 := WN κ a un ++ (WS κ a us10)) ⟨hx, hb, hml, hown, hts⟩ hK hG hA (by simp only [List.append_assoc, List.nil_append, List.append_nil]) (by simp only [List.append_assoc, List.nil_append, List.append_nil]) (c_X3_choose 9 l D κ a H.size 0 0 un us8 us10 q11) (cwV 2 hts gX3_seek_X3_choose rfl rfl rfl (by decide +kernel) ⟨Nat.le_of_ble_eq_true rfl, Nat.le_of_ble_eq_true rfl⟩) 4 3 rfl rfl rfl rfl hl.1 rfl (Nat.le_of_ble_eq_true rfl) dX3_seek_44 ⟨Nat.zero_le _, Nat.zero_le _⟩ (fun H locs hG => ?_)
  have z0 := Option.some.inj hf
  exact x_vret hx hb hr hlk hK hG (by rw [z0]) dX3_seek_47
