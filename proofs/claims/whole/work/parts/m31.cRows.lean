set_option maxRecDepth 100000 in
set_option maxHeartbeats 4000000 in
theorem c_X2_walk (l : Launch) (D : va_G) (κ : Nat → ClassId) (a : Nat → Nat) (sz : Nat) (p1 : Int32) (uh : HS) (ur : RS) (r' : Int32) (ur' : RS) (hf : f_X2_walk p1 uh ur = some (r', ur')) : Met l yX2_walk wsX2_walk ({ frames := 0, cells := 0, slots := 0, locals := 0 } : Room) (xPc D κ [.ref (a 13), .int p1] (WH κ a uh ++ (WR κ a ur)) sz) (xQi D κ r' (WH κ a uh ++ (WR κ a ur')) (va_A (WH κ a uh ++ (WR κ a ur)) sz)) 0 0 (va_A (WH κ a uh ++ (WR κ a ur)) sz) := by
  refine x_ofW (cc := cX2_walk) (maxL := 5) (ret := (some .int)) (Qf := fun A => xQi D κ r' (WH κ a uh ++ (WR κ a ur')) A) (by decide) rfl (Nat.le_of_ble_eq_true rfl) ?_
  intro p e s m below meth c hx hb hr hlk hml hown hts hK A hA H locs hG ls hl
  have hown : s.vm.findClass RX2 = some m.cls := hown
  have hl : lv_has ls 5 [(0, .ref (a 13)), (1, .int p1)] := hl
  have iX0 : ∀ w ∈ u_ws RX0 TX0 17, w ∈ wsX2_walk := fun _ h => List.mem_cons_of_mem _ (List.mem_append_right _ h)
  have iX2 : ∀ w ∈ u_ws RX2 TX2 6, w ∈ wsX2_walk := fun _ h => List.mem_cons_of_mem _ (List.mem_append_left _ (List.mem_append_right _ h))
  have k15 := hts (.fieldLink RX2 15 "SpineDesks$Rows" "one" "[I") (List.mem_of_getElem? (i := 2) rfl)
  have k22 := hts (.fieldLink RX2 22 "SpineDesks$Rows" "stack" "[I") (List.mem_of_getElem? (i := 1) rfl)
  have k31 := hts (.fieldLink RX2 31 "SpineDesks$Hall" "right" "[I") (List.mem_of_getElem? (i := 4) rfl)
  have k36 := hts (.fieldLink RX2 36 "SpineDesks$Hall" "left" "[I") (List.mem_of_getElem? (i := 5) rfl)
  have k9 := hts (.fieldLink RX2 9 "SpineDesks$Rows" "hall" "LSpineDesks$Hall;") (List.mem_of_getElem? (i := 3) rfl)
  have L132 : ∀ (rec19 : Int32 → Int32 → RS → Option (Int32 × RS)) (hr19 : ∀ (y2 : Int32) (y3 : Int32) (ur : RS), rec19 y2 y3 ur = some (r', ur') → ∀ (H : Heap) (locs : List Loc) (ls : Array Slot), xG D A s.heap (WH κ a uh ++ (WR κ a ur)) H locs → lv_has ls 5 [(0, .ref (a 13)), (2, .int y2), (3, .int y3)] → W p l e ({ frames := 0, cells := 0, slots := 0, locals := 0 } : Room) s m (([.ref (a 13), .int p1] : List Value).toArray) below meth c H locs 0 0 (MQ below (xQi D κ r' (WH κ a uh ++ (WR κ a ur')) A) (([.ref (a 13), .int p1] : List Value).toArray) s 0 0 A) (F0 m 19 ls [])), ∀ (x2 : Int32) (x3 : Int32) (ur : RS), f_X2_walk_132 uh rec19 x2 x3 ur = some (r', ur') → ∀ (H : Heap) (locs : List Loc) (ls : Array Slot), xG D A s.heap (WH κ a uh ++ (WR κ a ur)) H locs → lv_has ls 5 [(0, .ref (a 13)), (2, .int x2), (3, .int x3)] → W p l e ({ frames := 0, cells := 0, slots := 0, locals := 0 } : Room) s m (([.ref (a 13), .int p1] : List Value).toArray) below meth c H locs 0 0 (MQ below (xQi D κ r' (WH κ a uh ++ (WR κ a ur')) A) (([.ref (a 13), .int p1] : List Value).toArray) s 0 0 A) (F0 m 132 ls []) := by
    intro rec19 hr19 x2 x3 ur hf H locs ls hG hl
    unfold f_X2_walk_132 at hf
    refine lv_goto (tgt := 19) hx hb dX2_walk_132 (by decide) ?_
    exact hr19 x2 x3 ur hf H locs ls hG (lv_sub hl [0, 1, 2] rfl)
  have L92 : ∀ (rec19 : Int32 → Int32 → RS → Option (Int32 × RS)) (hr19 : ∀ (y2 : Int32) (y3 : Int32) (ur : RS), rec19 y2 y3 ur = some (r', ur') → ∀ (H : Heap) (locs : List Loc) (ls : Array Slot), xG D A s.heap (WH κ a uh ++ (WR κ a ur)) H locs → lv_has ls 5 [(0, .ref (a 13)), (2, .int y2), (3, .int y3)] → W p l e ({ frames := 0, cells := 0, slots := 0, locals := 0 } : Room) s m (([.ref (a 13), .int p1] : List Value).toArray) below meth c H locs 0 0 (MQ below (xQi D κ r' (WH κ a uh ++ (WR κ a ur')) A) (([.ref (a 13), .int p1] : List Value).toArray) s 0 0 A) (F0 m 19 ls [])), ∀ (x2 : Int32) (x3 : Int32) (x4 : Int32) (ur : RS), f_X2_walk_92 uh rec19 x2 x3 x4 ur = some (r', ur') → ∀ (H : Heap) (locs : List Loc) (ls : Array Slot), xG D A s.heap (WH κ a uh ++ (WR κ a ur)) H locs → lv_has ls 5 [(0, .ref (a 13)), (2, .int x2), (3, .int x3), (4, .int x4)] → W p l e ({ frames := 0, cells := 0, slots := 0, locals := 0 } : Room) s m (([.ref (a 13), .int p1] : List Value).toArray) below meth c H locs 0 0 (MQ below (xQi D κ r' (WH κ a uh ++ (WR κ a ur')) A) (([.ref (a 13), .int p1] : List Value).toArray) s 0 0 A) (F0 m 92 ls []) := by
    intro rec19 hr19 x2 x3 x4 ur hf H locs ls hG hl
    unfold f_X2_walk_92 at hf
    refine lv_aload_n hx hb dX2_walk_92 rfl (lv_at hl 0 rfl) ?_
    refine x_get (C := RX2) (T := TX2) (N := 6) (ci := 2) hx hb hts iX2 hown hK hG 13 rfl rfl 0 (by decide) k9 (v := .ref (a 0)) rfl dX2_walk_93 ?_
    refine x_get (C := RX0) (T := TX0) (N := 17) (ci := 0) hx hb hts iX0 hown hK hG 0 rfl rfl 10 (by decide) k36 (v := .ref (a 6)) rfl dX2_walk_96 ?_
    refine lv_iload hx hb dX2_walk_99 (lv_at hl 3 rfl) ?_
    obtain ⟨v1, ev1, hin, hf⟩ := ck_e hf
    refine x_iald hx hb hK hG 6 rfl ev1 hin dX2_walk_101 ?_
    refine lv_iconst (v := (-1)) hx hb dX2_walk_102 (by decide) ?_
    refine lv_icmp_eq (tgt := 132) hx hb dX2_walk_103 (by decide) (fun c2 => ?_) (fun c2 => ?_)
    · replace hf := if_t c2 hf
      exact L132 rec19 hr19  x2 x3 ur hf H locs ls hG (lv_sub hl [0, 1, 2] rfl)
    · replace hf := if_f c2 hf
      refine lv_iload_n hx hb dX2_walk_106 rfl (lv_at hl 2 rfl) ?_
      refine lv_sipush (v := 300) hx hb dX2_walk_107 (by decide) ?_
      refine lv_icmp_ge (tgt := 132) hx hb dX2_walk_110 (by decide) (fun c3 => ?_) (fun c3 => ?_)
      · replace hf := if_t c3 hf
        exact L132 rec19 hr19  x2 x3 ur hf H locs ls hG (lv_sub hl [0, 1, 2] rfl)
      · replace hf := if_f c3 hf
        refine lv_aload_n hx hb dX2_walk_113 rfl (lv_at hl 0 rfl) ?_
        refine x_get (C := RX2) (T := TX2) (N := 6) (ci := 2) hx hb hts iX2 hown hK hG 13 rfl rfl 3 (by decide) k22 (v := .ref (a 16)) rfl dX2_walk_114 ?_
        refine lv_iload_n hx hb dX2_walk_117 rfl (lv_at hl 2 rfl) ?_
        obtain ⟨y4, ey4, hf⟩ := bnd_e hf
        refine lv_iinc (v := y4) (lv' := [(3, .int y4), (0, .ref (a 13)), (2, .int x2), (4, .int x4)]) hx hb dX2_walk_118 hl (k := 2) rfl (by rw [ey4]; rfl) (by decide) rfl (fun ls hl => ?_)
        refine lv_aload_n hx hb dX2_walk_121 rfl (lv_at hl 1 rfl) ?_
        refine x_get (C := RX2) (T := TX2) (N := 6) (ci := 2) hx hb hts iX2 hown hK hG 13 rfl rfl 0 (by decide) k9 (v := .ref (a 0)) rfl dX2_walk_122 ?_
        refine x_get (C := RX0) (T := TX0) (N := 17) (ci := 0) hx hb hts iX0 hown hK hG 0 rfl rfl 10 (by decide) k36 (v := .ref (a 6)) rfl dX2_walk_125 ?_
        refine lv_iload hx hb dX2_walk_128 (lv_at hl 3 rfl) ?_
        obtain ⟨v5, ev5, hin, hf⟩ := ck_e hf
        refine x_iald hx hb hK hG 6 rfl ev5 hin dX2_walk_130 ?_
        obtain ⟨ur6, eur6, hin, hf⟩ := ck_e hf
        refine x_iast hx hb hK hG 16 rfl (w1 := WH κ a uh ++ (WR κ a ur6)) (by rw [eur6]; rfl) hin dX2_walk_131 (fun H locs hG => ?_)
        exact L132 rec19 hr19  x2 y4 ur6 hf H locs ls hG (lv_sub hl [1, 2, 0] rfl)
  have L19 : ∀ (n : Nat), ∀ (x2 : Int32) (x3 : Int32) (ur : RS), f_X2_walk_19 uh n x2 x3 ur = some (r', ur') → ∀ (H : Heap) (locs : List Loc) (ls : Array Slot), xG D A s.heap (WH κ a uh ++ (WR κ a ur)) H locs → lv_has ls 5 [(0, .ref (a 13)), (2, .int x2), (3, .int x3)] → W p l e ({ frames := 0, cells := 0, slots := 0, locals := 0 } : Room) s m (([.ref (a 13), .int p1] : List Value).toArray) below meth c H locs 0 0 (MQ below (xQi D κ r' (WH κ a uh ++ (WR κ a ur')) A) (([.ref (a 13), .int p1] : List Value).toArray) s 0 0 A) (F0 m 19 ls []) := by
    intro  n
    induction n with
    | zero => intro x2 x3 ur hf; cases hf
    | succ n ih =>
      intro x2 x3 ur hf H locs ls hG hl
      replace hf : f_X2_walk_B19 uh (f_X2_walk_19 uh n) x2 x3 ur = some (r', ur') := hf
      unfold f_X2_walk_B19 at hf
      refine lv_iload_n hx hb dX2_walk_19 rfl (lv_at hl 2 rfl) ?_
      refine lv_if_le (tgt := 135) hx hb dX2_walk_20 (by decide) (fun c7 => ?_) (fun c7 => ?_)
      · replace hf := if_t c7 hf
        refine lv_iload_n hx hb dX2_walk_135 rfl (lv_at hl 1 rfl) ?_
        have hz := Option.some.inj hf
        have z0 := (Prod.mk.inj hz).1
        replace hz := (Prod.mk.inj hz).2
        have z1 := hz
        exact x_iret hx hb hr hlk hK hG z0 (by rw [z1]) dX2_walk_136
      · replace hf := if_f c7 hf
        refine lv_iload_n hx hb dX2_walk_23 rfl (lv_at hl 1 rfl) ?_
        refine lv_sipush (v := 300) hx hb dX2_walk_24 (by decide) ?_
        refine lv_icmp_ge (tgt := 135) hx hb dX2_walk_27 (by decide) (fun c8 => ?_) (fun c8 => ?_)
        · replace hf := if_t c8 hf
          refine lv_iload_n hx hb dX2_walk_135 rfl (lv_at hl 1 rfl) ?_
          have hz := Option.some.inj hf
          have z0 := (Prod.mk.inj hz).1
          replace hz := (Prod.mk.inj hz).2
          have z1 := hz
          exact x_iret hx hb hr hlk hK hG z0 (by rw [z1]) dX2_walk_136
        · replace hf := if_f c8 hf
          refine lv_aload_n hx hb dX2_walk_30 rfl (lv_at hl 0 rfl) ?_
          refine x_get (C := RX2) (T := TX2) (N := 6) (ci := 2) hx hb hts iX2 hown hK hG 13 rfl rfl 3 (by decide) k22 (v := .ref (a 16)) rfl dX2_walk_31 ?_
          obtain ⟨y9, ey9, hf⟩ := bnd_e hf
          refine lv_iinc (v := y9) (lv' := [(3, .int y9), (0, .ref (a 13)), (2, .int x2)]) hx hb dX2_walk_34 hl (k := 2) rfl (by rw [ey9]; rfl) (by decide) rfl (fun ls hl => ?_)
          refine lv_iload_n hx hb dX2_walk_37 rfl (lv_at hl 0 rfl) ?_
          obtain ⟨v10, ev10, hin, hf⟩ := ck_e hf
          refine x_iald hx hb hK hG 16 rfl ev10 hin dX2_walk_38 ?_
          refine lv_istore (lv' := [(4, .int v10), (3, .int y9), (0, .ref (a 13)), (2, .int x2)]) hx hb dX2_walk_39 hl (by decide) rfl (fun ls hl => ?_)
          refine lv_aload_n hx hb dX2_walk_41 rfl (lv_at hl 2 rfl) ?_
          refine x_get (C := RX2) (T := TX2) (N := 6) (ci := 2) hx hb hts iX2 hown hK hG 13 rfl rfl 1 (by decide) k15 (v := .ref (a 14)) rfl dX2_walk_42 ?_
          refine lv_iload_n hx hb dX2_walk_45 rfl (lv_at hl 3 rfl) ?_
          obtain ⟨y11, ey11, hf⟩ := bnd_e hf
          refine lv_iinc (v := y11) (lv' := [(2, .int y11), (4, .int v10), (3, .int y9), (0, .ref (a 13))]) hx hb dX2_walk_46 hl (k := 3) rfl (by rw [ey11]; rfl) (by decide) rfl (fun ls hl => ?_)
          refine lv_iload hx hb dX2_walk_49 (lv_at hl 1 rfl) ?_
          obtain ⟨ur12, eur12, hin, hf⟩ := ck_e hf
          refine x_iast hx hb hK hG 14 rfl (w1 := WH κ a uh ++ (WR κ a ur12)) (by rw [eur12]; rfl) hin dX2_walk_51 (fun H locs hG => ?_)
          refine lv_aload_n hx hb dX2_walk_52 rfl (lv_at hl 3 rfl) ?_
          refine x_get (C := RX2) (T := TX2) (N := 6) (ci := 2) hx hb hts iX2 hown hK hG 13 rfl rfl 0 (by decide) k9 (v := .ref (a 0)) rfl dX2_walk_53 ?_
          refine x_get (C := RX0) (T := TX0) (N := 17) (ci := 0) hx hb hts iX0 hown hK hG 0 rfl rfl 11 (by decide) k31 (v := .ref (a 7)) rfl dX2_walk_56 ?_
          refine lv_iload hx hb dX2_walk_59 (lv_at hl 1 rfl) ?_
          obtain ⟨v13, ev13, hin, hf⟩ := ck_e hf
          refine x_iald hx hb hK hG 7 rfl ev13 hin dX2_walk_61 ?_
          refine lv_iconst (v := (-1)) hx hb dX2_walk_62 (by decide) ?_
          refine lv_icmp_eq (tgt := 92) hx hb dX2_walk_63 (by decide) (fun c14 => ?_) (fun c14 => ?_)
          · replace hf := if_t c14 hf
            exact L92 (f_X2_walk_19 uh n) ih  y11 y9 v10 ur12 hf H locs ls hG (lv_sub hl [3, 0, 2, 1] rfl)
          · replace hf := if_f c14 hf
            refine lv_iload_n hx hb dX2_walk_66 rfl (lv_at hl 2 rfl) ?_
            refine lv_sipush (v := 300) hx hb dX2_walk_67 (by decide) ?_
            refine lv_icmp_ge (tgt := 92) hx hb dX2_walk_70 (by decide) (fun c15 => ?_) (fun c15 => ?_)
            · replace hf := if_t c15 hf
              exact L92 (f_X2_walk_19 uh n) ih  y11 y9 v10 ur12 hf H locs ls hG (lv_sub hl [3, 0, 2, 1] rfl)
            · replace hf := if_f c15 hf
              refine lv_aload_n hx hb dX2_walk_73 rfl (lv_at hl 3 rfl) ?_
              refine x_get (C := RX2) (T := TX2) (N := 6) (ci := 2) hx hb hts iX2 hown hK hG 13 rfl rfl 3 (by decide) k22 (v := .ref (a 16)) rfl dX2_walk_74 ?_
              refine lv_iload_n hx hb dX2_walk_77 rfl (lv_at hl 2 rfl) ?_
              obtain ⟨y16, ey16, hf⟩ := bnd_e hf
              refine lv_iinc (v := y16) (lv' := [(3, .int y16), (2, .int y11), (4, .int v10), (0, .ref (a 13))]) hx hb dX2_walk_78 hl (k := 2) rfl (by rw [ey16]; rfl) (by decide) rfl (fun ls hl => ?_)
              refine lv_aload_n hx hb dX2_walk_81 rfl (lv_at hl 3 rfl) ?_
              refine x_get (C := RX2) (T := TX2) (N := 6) (ci := 2) hx hb hts iX2 hown hK hG 13 rfl rfl 0 (by decide) k9 (v := .ref (a 0)) rfl dX2_walk_82 ?_
              refine x_get (C := RX0) (T := TX0) (N := 17) (ci := 0) hx hb hts iX0 hown hK hG 0 rfl rfl 11 (by decide) k31 (v := .ref (a 7)) rfl dX2_walk_85 ?_
              refine lv_iload hx hb dX2_walk_88 (lv_at hl 2 rfl) ?_
              obtain ⟨v17, ev17, hin, hf⟩ := ck_e hf
              refine x_iald hx hb hK hG 7 rfl ev17 hin dX2_walk_90 ?_
              obtain ⟨ur18, eur18, hin, hf⟩ := ck_e hf
              refine x_iast hx hb hK hG 16 rfl (w1 := WH κ a uh ++ (WR κ a ur18)) (by rw [eur18]; rfl) hin dX2_walk_91 (fun H locs hG => ?_)
              exact L92 (f_X2_walk_19 uh n) ih  y11 y16 v10 ur18 hf H locs ls hG (lv_sub hl [3, 1, 0, 2] rfl)
  unfold f_X2_walk at hf
  refine lv_iconst (v := 0) hx hb dX2_walk_0 (by decide) ?_
  refine lv_istore_n (lv' := [(2, .int 0), (0, .ref (a 13)), (1, .int p1)]) hx hb dX2_walk_1 rfl hl (by decide) rfl (fun ls hl => ?_)
  refine lv_iconst (v := 0) hx hb dX2_walk_2 (by decide) ?_
  refine lv_istore_n (lv' := [(3, .int 0), (2, .int 0), (0, .ref (a 13)), (1, .int p1)]) hx hb dX2_walk_3 rfl hl (by decide) rfl (fun ls hl => ?_)
  refine lv_iload_n hx hb dX2_walk_4 rfl (lv_at hl 3 rfl) ?_
  refine lv_iconst (v := (-1)) hx hb dX2_walk_5 (by decide) ?_
  refine lv_icmp_eq (tgt := 19) hx hb dX2_walk_6 (by decide) (fun c19 => ?_) (fun c19 => ?_)
  · replace hf := if_t c19 hf
    exact L19  FU 0 0 ur hf H locs ls hG (lv_sub hl [2, 1, 0] rfl)
  · replace hf := if_f c19 hf
    refine lv_aload_n hx hb dX2_walk_9 rfl (lv_at hl 2 rfl) ?_
    refine x_get (C := RX2) (T := TX2) (N := 6) (ci := 2) hx hb hts iX2 hown hK hG 13 rfl rfl 3 (by decide) k22 (v := .ref (a 16)) rfl dX2_walk_10 ?_
    refine lv_iload_n hx hb dX2_walk_13 rfl (lv_at hl 0 rfl) ?_
    obtain ⟨y20, ey20, hf⟩ := bnd_e hf
    refine lv_iinc (v := y20) (lv' := [(3, .int y20), (2, .int 0), (0, .ref (a 13)), (1, .int p1)]) hx hb dX2_walk_14 hl (k := 0) rfl (by rw [ey20]; rfl) (by decide) rfl (fun ls hl => ?_)
    refine lv_iload_n hx hb dX2_walk_17 rfl (lv_at hl 3 rfl) ?_
    obtain ⟨ur21, eur21, hin, hf⟩ := ck_e hf
    refine x_iast hx hb hK hG 16 rfl (w1 := WH κ a uh ++ (WR κ a ur21)) (by rw [eur21]; rfl) hin dX2_walk_18 (fun H locs hG => ?_)
    exact L19  FU 0 y20 ur21 hf H locs ls hG (lv_sub hl [2, 1, 0] rfl)
set_option maxRecDepth 100000 in
set_option maxHeartbeats 4000000 in
theorem c_X2_height (l : Launch) (D : va_G) (κ : Nat → ClassId) (a : Nat → Nat) (sz : Nat) (p1 : Int32) (uh : HS) (ur : RS) (r' : Int32) (ur' : RS) (hf : f_X2_height p1 uh ur = some (r', ur')) : Met l yX2_height wsX2_height ({ frames := 1, cells := 0, slots := 0, locals := 24 } : Room) (xPc D κ [.ref (a 13), .int p1] (WH κ a uh ++ (WR κ a ur)) sz) (xQi D κ r' (WH κ a uh ++ (WR κ a ur')) (va_A (WH κ a uh ++ (WR κ a ur)) sz)) 0 0 (va_A (WH κ a uh ++ (WR κ a ur)) sz) := by
  refine x_ofW (cc := cX2_height) (maxL := 6) (ret := (some .int)) (Qf := fun A => xQi D κ r' (WH κ a uh ++ (WR κ a ur')) A) (by decide) rfl (Nat.le_of_ble_eq_true rfl) ?_
  intro p e s m below meth c hx hb hr hlk hml hown hts hK A hA H locs hG ls hl
  have hown : s.vm.findClass RX2 = some m.cls := hown
  have hl : lv_has ls 6 [(0, .ref (a 13)), (1, .int p1)] := hl
  have iX0 : ∀ w ∈ u_ws RX0 TX0 17, w ∈ wsX2_height := fun _ h => List.mem_cons_of_mem _ (List.mem_append_right _ h)
  have iX2 : ∀ w ∈ u_ws RX2 TX2 6, w ∈ wsX2_height := fun _ h => List.mem_cons_of_mem _ (List.mem_append_left _ (List.mem_append_right _ h))
  have k15 := hts (.fieldLink RX2 15 "SpineDesks$Rows" "one" "[I") (List.mem_of_getElem? (i := 3) rfl)
  have k25 := hts (.fieldLink RX2 25 "SpineDesks$Rows" "span" "[I") (List.mem_of_getElem? (i := 4) rfl)
  have k39 := hts (.fieldLink RX2 39 "SpineDesks$Hall" "root" "[I") (List.mem_of_getElem? (i := 2) rfl)
  have k46 := hts (.fieldLink RX2 46 "SpineDesks$Hall" "up" "[I") (List.mem_of_getElem? (i := 5) rfl)
  have k49 := hts (.methodLink RX2 49 Lib.Math.max.name) (List.mem_of_getElem? (i := 6) rfl)
  have k9 := hts (.fieldLink RX2 9 "SpineDesks$Rows" "hall" "LSpineDesks$Hall;") (List.mem_of_getElem? (i := 1) rfl)
  have kc49 := hts (.code Lib.Math.max.name Lib.Math.max.code 2 (some .int)) (List.mem_of_getElem? (i := 9) rfl)
  have ki := hts (.initialized "java/lang/Math") (List.mem_of_getElem? (i := 8) rfl)
  have ks49 := hts (.static Lib.Math.max.name) (List.mem_of_getElem? (i := 7) rfl)
  have L75 : ∀ (rec19 : Int32 → Int32 → Int32 → RS → Option (Int32 × RS)) (hr19 : ∀ (y2 : Int32) (y3 : Int32) (y4 : Int32) (ur : RS), rec19 y2 y3 y4 ur = some (r', ur') → ∀ (H : Heap) (locs : List Loc) (ls : Array Slot), xG D A s.heap (WH κ a uh ++ (WR κ a ur)) H locs → lv_has ls 6 [(0, .ref (a 13)), (2, .int y2), (3, .int y3), (4, .int y4)] → W p l e ({ frames := 1, cells := 0, slots := 0, locals := 24 } : Room) s m (([.ref (a 13), .int p1] : List Value).toArray) below meth c H locs 0 0 (MQ below (xQi D κ r' (WH κ a uh ++ (WR κ a ur')) A) (([.ref (a 13), .int p1] : List Value).toArray) s 0 0 A) (F0 m 19 ls [])), ∀ (x2 : Int32) (x3 : Int32) (x4 : Int32) (x5 : Int32) (s1 : Int32) (s2 : Int32) (ur : RS), f_X2_height_75 uh rec19 x2 x3 x4 x5 s1 s2 ur = some (r', ur') → ∀ (H : Heap) (locs : List Loc) (ls : Array Slot), xG D A s.heap (WH κ a uh ++ (WR κ a ur)) H locs → lv_has ls 6 [(0, .ref (a 13)), (2, .int x2), (3, .int x3), (4, .int x4), (5, .int x5)] → W p l e ({ frames := 1, cells := 0, slots := 0, locals := 24 } : Room) s m (([.ref (a 13), .int p1] : List Value).toArray) below meth c H locs 0 0 (MQ below (xQi D κ r' (WH κ a uh ++ (WR κ a ur')) A) (([.ref (a 13), .int p1] : List Value).toArray) s 0 0 A) (F0 m 75 ls [.int s2, .int s1, .ref (a 17)]) := by
    intro rec19 hr19 x2 x3 x4 x5 s1 s2 ur hf H locs ls hG hl
    unfold f_X2_height_75 at hf
    obtain ⟨ur1, eur1, hin, hf⟩ := ck_e hf
    refine x_iast hx hb hK hG 17 rfl (w1 := WH κ a uh ++ (WR κ a ur1)) (by rw [eur1]; rfl) hin dX2_height_75 (fun H locs hG => ?_)
    refine lv_iload_n hx hb dX2_height_76 rfl (lv_at hl 2 rfl) ?_
    refine lv_aload_n hx hb dX2_height_77 rfl (lv_at hl 0 rfl) ?_
    refine x_get (C := RX2) (T := TX2) (N := 6) (ci := 2) hx hb hts iX2 hown hK hG 13 rfl rfl 4 (by decide) k25 (v := .ref (a 17)) rfl dX2_height_78 ?_
    refine lv_iload hx hb dX2_height_81 (lv_at hl 4 rfl) ?_
    obtain ⟨v2, ev2, hin, hf⟩ := ck_e hf
    refine x_iald hx hb hK hG 17 rfl ev2 hin dX2_height_83 ?_
    refine va_mmax hx hb (hml.trans hl.1.symm) hown k49 ks49 ki kc49 (Nat.le_of_ble_eq_true rfl) (Nat.le_of_ble_eq_true rfl) (Nat.zero_le _) (Nat.zero_le _) dX2_height_84 ?_
    refine lv_topi (fun y3 ey3 => ?_)
    replace hf := bnd_at ey3 hf
    refine lv_istore_n (lv' := [(3, .int y3), (0, .ref (a 13)), (2, .int x2), (4, .int x4), (5, .int x5)]) hx hb dX2_height_87 rfl hl (by decide) rfl (fun ls hl => ?_)
    obtain ⟨y4, ey4, hf⟩ := bnd_e hf
    refine lv_iinc (v := y4) (lv' := [(4, .int y4), (3, .int y3), (0, .ref (a 13)), (2, .int x2), (5, .int x5)]) hx hb dX2_height_88 hl (k := 3) rfl (by rw [ey4]; rfl) (by decide) rfl (fun ls hl => ?_)
    refine lv_goto (tgt := 19) hx hb dX2_height_91 (by decide) ?_
    exact hr19 x2 y3 y4 ur1 hf H locs ls hG (lv_sub hl [2, 3, 1, 0] rfl)
  have L19 : ∀ (n : Nat), ∀ (x2 : Int32) (x3 : Int32) (x4 : Int32) (ur : RS), f_X2_height_19 uh n x2 x3 x4 ur = some (r', ur') → ∀ (H : Heap) (locs : List Loc) (ls : Array Slot), xG D A s.heap (WH κ a uh ++ (WR κ a ur)) H locs → lv_has ls 6 [(0, .ref (a 13)), (2, .int x2), (3, .int x3), (4, .int x4)] → W p l e ({ frames := 1, cells := 0, slots := 0, locals := 24 } : Room) s m (([.ref (a 13), .int p1] : List Value).toArray) below meth c H locs 0 0 (MQ below (xQi D κ r' (WH κ a uh ++ (WR κ a ur')) A) (([.ref (a 13), .int p1] : List Value).toArray) s 0 0 A) (F0 m 19 ls []) := by
    intro  n
    induction n with
    | zero => intro x2 x3 x4 ur hf; cases hf
    | succ n ih =>
      intro x2 x3 x4 ur hf H locs ls hG hl
      replace hf : f_X2_height_B19 uh (f_X2_height_19 uh n) x2 x3 x4 ur = some (r', ur') := hf
      unfold f_X2_height_B19 at hf
      refine lv_iload hx hb dX2_height_19 (lv_at hl 3 rfl) ?_
      refine lv_iload_n hx hb dX2_height_21 rfl (lv_at hl 1 rfl) ?_
      refine lv_icmp_ge (tgt := 94) hx hb dX2_height_22 (by decide) (fun c5 => ?_) (fun c5 => ?_)
      · replace hf := if_t c5 hf
        refine lv_iload_n hx hb dX2_height_94 rfl (lv_at hl 2 rfl) ?_
        have hz := Option.some.inj hf
        have z0 := (Prod.mk.inj hz).1
        replace hz := (Prod.mk.inj hz).2
        have z1 := hz
        exact x_iret hx hb hr hlk hK hG z0 (by rw [z1]) dX2_height_95
      · replace hf := if_f c5 hf
        refine lv_aload_n hx hb dX2_height_25 rfl (lv_at hl 0 rfl) ?_
        refine x_get (C := RX2) (T := TX2) (N := 6) (ci := 2) hx hb hts iX2 hown hK hG 13 rfl rfl 1 (by decide) k15 (v := .ref (a 14)) rfl dX2_height_26 ?_
        refine lv_iload hx hb dX2_height_29 (lv_at hl 3 rfl) ?_
        obtain ⟨v6, ev6, hin, hf⟩ := ck_e hf
        refine x_iald hx hb hK hG 14 rfl ev6 hin dX2_height_31 ?_
        refine lv_istore (lv' := [(5, .int v6), (0, .ref (a 13)), (2, .int x2), (3, .int x3), (4, .int x4)]) hx hb dX2_height_32 hl (by decide) rfl (fun ls hl => ?_)
        refine lv_aload_n hx hb dX2_height_34 rfl (lv_at hl 1 rfl) ?_
        refine x_get (C := RX2) (T := TX2) (N := 6) (ci := 2) hx hb hts iX2 hown hK hG 13 rfl rfl 4 (by decide) k25 (v := .ref (a 17)) rfl dX2_height_35 ?_
        refine lv_iload hx hb dX2_height_38 (lv_at hl 0 rfl) ?_
        refine lv_aload_n hx hb dX2_height_40 rfl (lv_at hl 1 rfl) ?_
        refine x_get (C := RX2) (T := TX2) (N := 6) (ci := 2) hx hb hts iX2 hown hK hG 13 rfl rfl 0 (by decide) k9 (v := .ref (a 0)) rfl dX2_height_41 ?_
        refine x_get (C := RX0) (T := TX0) (N := 17) (ci := 0) hx hb hts iX0 hown hK hG 0 rfl rfl 12 (by decide) k46 (v := .ref (a 8)) rfl dX2_height_44 ?_
        refine lv_iload hx hb dX2_height_47 (lv_at hl 0 rfl) ?_
        obtain ⟨v7, ev7, hin, hf⟩ := ck_e hf
        refine x_iald hx hb hK hG 8 rfl ev7 hin dX2_height_49 ?_
        refine lv_iconst (v := (-1)) hx hb dX2_height_50 (by decide) ?_
        refine lv_icmp_ne (tgt := 58) hx hb dX2_height_51 (by decide) (fun c8 => ?_) (fun c8 => ?_)
        · replace hf := if_f c8 hf
          refine lv_aload_n hx hb dX2_height_58 rfl (lv_at hl 1 rfl) ?_
          refine x_get (C := RX2) (T := TX2) (N := 6) (ci := 2) hx hb hts iX2 hown hK hG 13 rfl rfl 4 (by decide) k25 (v := .ref (a 17)) rfl dX2_height_59 ?_
          refine lv_aload_n hx hb dX2_height_62 rfl (lv_at hl 1 rfl) ?_
          refine x_get (C := RX2) (T := TX2) (N := 6) (ci := 2) hx hb hts iX2 hown hK hG 13 rfl rfl 0 (by decide) k9 (v := .ref (a 0)) rfl dX2_height_63 ?_
          refine x_get (C := RX0) (T := TX0) (N := 17) (ci := 0) hx hb hts iX0 hown hK hG 0 rfl rfl 12 (by decide) k46 (v := .ref (a 8)) rfl dX2_height_66 ?_
          refine lv_iload hx hb dX2_height_69 (lv_at hl 0 rfl) ?_
          obtain ⟨v9, ev9, hin, hf⟩ := ck_e hf
          refine x_iald hx hb hK hG 8 rfl ev9 hin dX2_height_71 ?_
          obtain ⟨v10, ev10, hin, hf⟩ := ck_e hf
          refine x_iald hx hb hK hG 17 rfl ev10 hin dX2_height_72 ?_
          refine lv_iconst (v := 1) hx hb dX2_height_73 (by decide) ?_
          refine lv_iadd hx hb dX2_height_74 ?_
          exact L75 (f_X2_height_19 uh n) ih  x2 x3 x4 v6 v6 (v10 + 1) ur hf H locs ls hG (lv_sub hl [1, 2, 3, 4, 0] rfl)
        · replace hf := if_t c8 hf
          refine lv_iconst (v := 1) hx hb dX2_height_54 (by decide) ?_
          refine lv_goto (tgt := 75) hx hb dX2_height_55 (by decide) ?_
          exact L75 (f_X2_height_19 uh n) ih  x2 x3 x4 v6 v6 1 ur hf H locs ls hG (lv_sub hl [1, 2, 3, 4, 0] rfl)
  unfold f_X2_height at hf
  refine lv_aload_n hx hb dX2_height_0 rfl (lv_at hl 0 rfl) ?_
  refine lv_aload_n hx hb dX2_height_1 rfl (lv_at hl 0 rfl) ?_
  refine x_get (C := RX2) (T := TX2) (N := 6) (ci := 2) hx hb hts iX2 hown hK hG 13 rfl rfl 0 (by decide) k9 (v := .ref (a 0)) rfl dX2_height_2 ?_
  refine x_get (C := RX0) (T := TX0) (N := 17) (ci := 0) hx hb hts iX0 hown hK hG 0 rfl rfl 5 (by decide) k39 (v := .ref (a 1)) rfl dX2_height_5 ?_
  refine lv_iload_n hx hb dX2_height_8 rfl (lv_at hl 1 rfl) ?_
  obtain ⟨v11, ev11, hin, hf⟩ := ck_e hf
  refine x_iald hx hb hK hG 1 rfl ev11 hin dX2_height_9 ?_
  obtain ⟨r12, ur13, q14, hf⟩ := cl2_e hf
  refine x_callVi (pre := ([] : va_W)) (wc := WH κ a uh ++ (WR κ a ur)) (wc1 := WH κ a uh ++ (WR κ a ur13)) (post := ([] : va_W)) (As := [.int v11]) (rest := []) (w1 := WH κ a uh ++ (WR κ a ur13)) ⟨hx, hb, hml, hown, hts⟩ hK hG hA (by simp only [List.append_assoc, List.nil_append, List.append_nil]) (by simp only [List.append_assoc, List.nil_append, List.append_nil]) (c_X2_walk l D κ a H.size v11 uh ur r12 ur13 q14) (cwV 1 hts gX2_height_X2_walk rfl rfl rfl (by decide +kernel) ⟨Nat.le_of_ble_eq_true rfl, Nat.le_of_ble_eq_true rfl⟩) 13 2 rfl rfl rfl rfl hl.1 rfl (Nat.le_of_ble_eq_true rfl) dX2_height_10 ⟨Nat.zero_le _, Nat.zero_le _⟩ (fun H locs hG => ?_)
  refine lv_istore_n (lv' := [(2, .int r12), (0, .ref (a 13)), (1, .int p1)]) hx hb dX2_height_13 rfl hl (by decide) rfl (fun ls hl => ?_)
  refine lv_iconst (v := 0) hx hb dX2_height_14 (by decide) ?_
  refine lv_istore_n (lv' := [(3, .int 0), (2, .int r12), (0, .ref (a 13)), (1, .int p1)]) hx hb dX2_height_15 rfl hl (by decide) rfl (fun ls hl => ?_)
  refine lv_iconst (v := 0) hx hb dX2_height_16 (by decide) ?_
  refine lv_istore (lv' := [(4, .int 0), (3, .int 0), (2, .int r12), (0, .ref (a 13)), (1, .int p1)]) hx hb dX2_height_17 hl (by decide) rfl (fun ls hl => ?_)
  exact L19  FU r12 0 0 ur13 hf H locs ls hG (lv_sub hl [3, 2, 1, 0] rfl)
set_option maxRecDepth 100000 in
set_option maxHeartbeats 4000000 in
theorem c_X2_rightSpine (l : Launch) (D : va_G) (κ : Nat → ClassId) (a : Nat → Nat) (sz : Nat) (p1 : Int32) (uh : HS) (ur : RS) (r' : Int32)  (hf : f_X2_rightSpine p1 uh ur = some (r')) : Met l yX2_rightSpine wsX2_rightSpine ({ frames := 0, cells := 0, slots := 0, locals := 0 } : Room) (xPc D κ [.ref (a 13), .int p1] (WH κ a uh ++ (WR κ a ur)) sz) (xQi D κ r' (WH κ a uh ++ (WR κ a ur)) (va_A (WH κ a uh ++ (WR κ a ur)) sz)) 0 0 (va_A (WH κ a uh ++ (WR κ a ur)) sz) := by
  refine x_ofW (cc := cX2_rightSpine) (maxL := 4) (ret := (some .int)) (Qf := fun A => xQi D κ r' (WH κ a uh ++ (WR κ a ur)) A) (by decide) rfl (Nat.le_of_ble_eq_true rfl) ?_
  intro p e s m below meth c hx hb hr hlk hml hown hts hK A hA H locs hG ls hl
  have hown : s.vm.findClass RX2 = some m.cls := hown
  have hl : lv_has ls 4 [(0, .ref (a 13)), (1, .int p1)] := hl
  have iX0 : ∀ w ∈ u_ws RX0 TX0 17, w ∈ wsX2_rightSpine := fun _ h => List.mem_cons_of_mem _ (List.mem_append_right _ h)
  have iX2 : ∀ w ∈ u_ws RX2 TX2 6, w ∈ wsX2_rightSpine := fun _ h => List.mem_cons_of_mem _ (List.mem_append_left _ (List.mem_append_right _ h))
  have k31 := hts (.fieldLink RX2 31 "SpineDesks$Hall" "right" "[I") (List.mem_of_getElem? (i := 3) rfl)
  have k39 := hts (.fieldLink RX2 39 "SpineDesks$Hall" "root" "[I") (List.mem_of_getElem? (i := 2) rfl)
  have k9 := hts (.fieldLink RX2 9 "SpineDesks$Rows" "hall" "LSpineDesks$Hall;") (List.mem_of_getElem? (i := 1) rfl)
  have L12 : ∀ (n : Nat), ∀ (x2 : Int32) (x3 : Int32), f_X2_rightSpine_12 uh ur n x2 x3 = some (r') → ∀ (H : Heap) (locs : List Loc) (ls : Array Slot), xG D A s.heap (WH κ a uh ++ (WR κ a ur)) H locs → lv_has ls 4 [(0, .ref (a 13)), (2, .int x2), (3, .int x3)] → W p l e ({ frames := 0, cells := 0, slots := 0, locals := 0 } : Room) s m (([.ref (a 13), .int p1] : List Value).toArray) below meth c H locs 0 0 (MQ below (xQi D κ r' (WH κ a uh ++ (WR κ a ur)) A) (([.ref (a 13), .int p1] : List Value).toArray) s 0 0 A) (F0 m 12 ls []) := by
    intro  n
    induction n with
    | zero => intro x2 x3 hf; cases hf
    | succ n ih =>
      intro x2 x3 hf H locs ls hG hl
      replace hf : f_X2_rightSpine_B12 uh ur (f_X2_rightSpine_12 uh ur n) x2 x3 = some (r') := hf
      unfold f_X2_rightSpine_B12 at hf
      refine lv_iload_n hx hb dX2_rightSpine_12 rfl (lv_at hl 2 rfl) ?_
      refine lv_iconst (v := (-1)) hx hb dX2_rightSpine_13 (by decide) ?_
      refine lv_icmp_eq (tgt := 40) hx hb dX2_rightSpine_14 (by decide) (fun c1 => ?_) (fun c1 => ?_)
      · replace hf := if_t c1 hf
        refine lv_iload_n hx hb dX2_rightSpine_40 rfl (lv_at hl 1 rfl) ?_
        have z0 := Option.some.inj hf
        exact x_iret hx hb hr hlk hK hG z0 rfl dX2_rightSpine_41
      · replace hf := if_f c1 hf
        refine lv_iload_n hx hb dX2_rightSpine_17 rfl (lv_at hl 1 rfl) ?_
        refine lv_sipush (v := 300) hx hb dX2_rightSpine_18 (by decide) ?_
        refine lv_icmp_ge (tgt := 40) hx hb dX2_rightSpine_21 (by decide) (fun c2 => ?_) (fun c2 => ?_)
        · replace hf := if_t c2 hf
          refine lv_iload_n hx hb dX2_rightSpine_40 rfl (lv_at hl 1 rfl) ?_
          have z0 := Option.some.inj hf
          exact x_iret hx hb hr hlk hK hG z0 rfl dX2_rightSpine_41
        · replace hf := if_f c2 hf
          obtain ⟨y3, ey3, hf⟩ := bnd_e hf
          refine lv_iinc (v := y3) (lv' := [(2, .int y3), (0, .ref (a 13)), (3, .int x3)]) hx hb dX2_rightSpine_24 hl (k := 1) rfl (by rw [ey3]; rfl) (by decide) rfl (fun ls hl => ?_)
          refine lv_aload_n hx hb dX2_rightSpine_27 rfl (lv_at hl 1 rfl) ?_
          refine x_get (C := RX2) (T := TX2) (N := 6) (ci := 2) hx hb hts iX2 hown hK hG 13 rfl rfl 0 (by decide) k9 (v := .ref (a 0)) rfl dX2_rightSpine_28 ?_
          refine x_get (C := RX0) (T := TX0) (N := 17) (ci := 0) hx hb hts iX0 hown hK hG 0 rfl rfl 11 (by decide) k31 (v := .ref (a 7)) rfl dX2_rightSpine_31 ?_
          refine lv_iload_n hx hb dX2_rightSpine_34 rfl (lv_at hl 2 rfl) ?_
          obtain ⟨v4, ev4, hin, hf⟩ := ck_e hf
          refine x_iald hx hb hK hG 7 rfl ev4 hin dX2_rightSpine_35 ?_
          refine lv_istore_n (lv' := [(3, .int v4), (2, .int y3), (0, .ref (a 13))]) hx hb dX2_rightSpine_36 rfl hl (by decide) rfl (fun ls hl => ?_)
          refine lv_goto (tgt := 12) hx hb dX2_rightSpine_37 (by decide) ?_
          exact ih y3 v4 hf H locs ls hG (lv_sub hl [2, 1, 0] rfl)
  unfold f_X2_rightSpine at hf
  refine lv_iconst (v := 0) hx hb dX2_rightSpine_0 (by decide) ?_
  refine lv_istore_n (lv' := [(2, .int 0), (0, .ref (a 13)), (1, .int p1)]) hx hb dX2_rightSpine_1 rfl hl (by decide) rfl (fun ls hl => ?_)
  refine lv_aload_n hx hb dX2_rightSpine_2 rfl (lv_at hl 1 rfl) ?_
  refine x_get (C := RX2) (T := TX2) (N := 6) (ci := 2) hx hb hts iX2 hown hK hG 13 rfl rfl 0 (by decide) k9 (v := .ref (a 0)) rfl dX2_rightSpine_3 ?_
  refine x_get (C := RX0) (T := TX0) (N := 17) (ci := 0) hx hb hts iX0 hown hK hG 0 rfl rfl 5 (by decide) k39 (v := .ref (a 1)) rfl dX2_rightSpine_6 ?_
  refine lv_iload_n hx hb dX2_rightSpine_9 rfl (lv_at hl 2 rfl) ?_
  obtain ⟨v5, ev5, hin, hf⟩ := ck_e hf
  refine x_iald hx hb hK hG 1 rfl ev5 hin dX2_rightSpine_10 ?_
  refine lv_istore_n (lv' := [(3, .int v5), (2, .int 0), (0, .ref (a 13)), (1, .int p1)]) hx hb dX2_rightSpine_11 rfl hl (by decide) rfl (fun ls hl => ?_)
  exact L12  FU 0 v5 hf H locs ls hG (lv_sub hl [2, 1, 0] rfl)
set_option maxRecDepth 100000 in
set_option maxHeartbeats 4000000 in
theorem c_X2_balanced (l : Launch) (D : va_G) (κ : Nat → ClassId) (a : Nat → Nat) (sz : Nat) (p1 : Int32) (uh : HS) (ur : RS) (r' : Int32)  (hf : f_X2_balanced p1 uh ur = some (r')) : Met l yX2_balanced wsX2_balanced ({ frames := 1, cells := 0, slots := 0, locals := 21 } : Room) (xPc D κ [.ref (a 13), .int p1] (WH κ a uh ++ (WR κ a ur)) sz) (xQi D κ r' (WH κ a uh ++ (WR κ a ur)) (va_A (WH κ a uh ++ (WR κ a ur)) sz)) 0 0 (va_A (WH κ a uh ++ (WR κ a ur)) sz) := by
  refine x_ofW (cc := cX2_balanced) (maxL := 4) (ret := (some .int)) (Qf := fun A => xQi D κ r' (WH κ a uh ++ (WR κ a ur)) A) (by decide) rfl (Nat.le_of_ble_eq_true rfl) ?_
  intro p e s m below meth c hx hb hr hlk hml hown hts hK A hA H locs hG ls hl
  have hown : s.vm.findClass RX2 = some m.cls := hown
  have hl : lv_has ls 4 [(0, .ref (a 13)), (1, .int p1)] := hl
  have iX0 : ∀ w ∈ u_ws RX0 TX0 17, w ∈ wsX2_balanced := fun _ h => List.mem_cons_of_mem _ (List.mem_append_right _ h)
  have iX2 : ∀ w ∈ u_ws RX2 TX2 6, w ∈ wsX2_balanced := fun _ h => List.mem_cons_of_mem _ (List.mem_append_left _ (List.mem_append_right _ h))
  have k31 := hts (.fieldLink RX2 31 "SpineDesks$Hall" "right" "[I") (List.mem_of_getElem? (i := 5) rfl)
  have k36 := hts (.fieldLink RX2 36 "SpineDesks$Hall" "left" "[I") (List.mem_of_getElem? (i := 4) rfl)
  have k55 := hts (.fieldLink RX2 55 "SpineDesks$Hall" "came" "I") (List.mem_of_getElem? (i := 2) rfl)
  have k59 := hts (.fieldLink RX2 59 "SpineDesks$Hall" "deskOf" "[I") (List.mem_of_getElem? (i := 3) rfl)
  have k9 := hts (.fieldLink RX2 9 "SpineDesks$Rows" "hall" "LSpineDesks$Hall;") (List.mem_of_getElem? (i := 1) rfl)
  have L66 : ∀ (rec4 : Int32 → Int32 → Int32 → Option (Int32)) (hr4 : ∀ (y1 : Int32) (y2 : Int32) (y3 : Int32), rec4 y1 y2 y3 = some (r') → ∀ (H : Heap) (locs : List Loc) (ls : Array Slot), xG D A s.heap (WH κ a uh ++ (WR κ a ur)) H locs → lv_has ls 4 [(0, .ref (a 13)), (1, .int y1), (2, .int y2), (3, .int y3)] → W p l e ({ frames := 1, cells := 0, slots := 0, locals := 21 } : Room) s m (([.ref (a 13), .int p1] : List Value).toArray) below meth c H locs 0 0 (MQ below (xQi D κ r' (WH κ a uh ++ (WR κ a ur)) A) (([.ref (a 13), .int p1] : List Value).toArray) s 0 0 A) (F0 m 4 ls [])), ∀ (x1 : Int32) (x2 : Int32) (x3 : Int32), f_X2_balanced_66 uh ur rec4 x1 x2 x3 = some (r') → ∀ (H : Heap) (locs : List Loc) (ls : Array Slot), xG D A s.heap (WH κ a uh ++ (WR κ a ur)) H locs → lv_has ls 4 [(0, .ref (a 13)), (1, .int x1), (2, .int x2), (3, .int x3)] → W p l e ({ frames := 1, cells := 0, slots := 0, locals := 21 } : Room) s m (([.ref (a 13), .int p1] : List Value).toArray) below meth c H locs 0 0 (MQ below (xQi D κ r' (WH κ a uh ++ (WR κ a ur)) A) (([.ref (a 13), .int p1] : List Value).toArray) s 0 0 A) (F0 m 66 ls []) := by
    intro rec4 hr4 x1 x2 x3 hf H locs ls hG hl
    unfold f_X2_balanced_66 at hf
    obtain ⟨y1, ey1, hf⟩ := bnd_e hf
    refine lv_iinc (v := y1) (lv' := [(3, .int y1), (0, .ref (a 13)), (1, .int x1), (2, .int x2)]) hx hb dX2_balanced_66 hl (k := 3) rfl (by rw [ey1]; rfl) (by decide) rfl (fun ls hl => ?_)
    refine lv_goto (tgt := 4) hx hb dX2_balanced_69 (by decide) ?_
    exact hr4 x1 x2 y1 hf H locs ls hG (lv_sub hl [1, 2, 3, 0] rfl)
  have L4 : ∀ (n : Nat), ∀ (x1 : Int32) (x2 : Int32) (x3 : Int32), f_X2_balanced_4 uh ur n x1 x2 x3 = some (r') → ∀ (H : Heap) (locs : List Loc) (ls : Array Slot), xG D A s.heap (WH κ a uh ++ (WR κ a ur)) H locs → lv_has ls 4 [(0, .ref (a 13)), (1, .int x1), (2, .int x2), (3, .int x3)] → W p l e ({ frames := 1, cells := 0, slots := 0, locals := 21 } : Room) s m (([.ref (a 13), .int p1] : List Value).toArray) below meth c H locs 0 0 (MQ below (xQi D κ r' (WH κ a uh ++ (WR κ a ur)) A) (([.ref (a 13), .int p1] : List Value).toArray) s 0 0 A) (F0 m 4 ls []) := by
    intro  n
    induction n with
    | zero => intro x1 x2 x3 hf; cases hf
    | succ n ih =>
      intro x1 x2 x3 hf H locs ls hG hl
      replace hf : f_X2_balanced_B4 uh ur (f_X2_balanced_4 uh ur n) x1 x2 x3 = some (r') := hf
      unfold f_X2_balanced_B4 at hf
      refine lv_iload_n hx hb dX2_balanced_4 rfl (lv_at hl 3 rfl) ?_
      refine lv_aload_n hx hb dX2_balanced_5 rfl (lv_at hl 0 rfl) ?_
      refine x_get (C := RX2) (T := TX2) (N := 6) (ci := 2) hx hb hts iX2 hown hK hG 13 rfl rfl 0 (by decide) k9 (v := .ref (a 0)) rfl dX2_balanced_6 ?_
      refine x_get (C := RX0) (T := TX0) (N := 17) (ci := 0) hx hb hts iX0 hown hK hG 0 rfl rfl 0 (by decide) k55 (v := .int (uh.came)) rfl dX2_balanced_9 ?_
      refine lv_icmp_ge (tgt := 72) hx hb dX2_balanced_12 (by decide) (fun c2 => ?_) (fun c2 => ?_)
      · replace hf := if_t c2 hf
        refine lv_iload_n hx hb dX2_balanced_72 rfl (lv_at hl 2 rfl) ?_
        have z0 := Option.some.inj hf
        exact x_iret hx hb hr hlk hK hG z0 rfl dX2_balanced_73
      · replace hf := if_f c2 hf
        refine lv_aload_n hx hb dX2_balanced_15 rfl (lv_at hl 0 rfl) ?_
        refine x_get (C := RX2) (T := TX2) (N := 6) (ci := 2) hx hb hts iX2 hown hK hG 13 rfl rfl 0 (by decide) k9 (v := .ref (a 0)) rfl dX2_balanced_16 ?_
        refine x_get (C := RX0) (T := TX0) (N := 17) (ci := 0) hx hb hts iX0 hown hK hG 0 rfl rfl 8 (by decide) k59 (v := .ref (a 4)) rfl dX2_balanced_19 ?_
        refine lv_iload_n hx hb dX2_balanced_22 rfl (lv_at hl 3 rfl) ?_
        obtain ⟨v3, ev3, hin, hf⟩ := ck_e hf
        refine x_iald hx hb hK hG 4 rfl ev3 hin dX2_balanced_23 ?_
        refine lv_iload_n hx hb dX2_balanced_24 rfl (lv_at hl 1 rfl) ?_
        refine lv_icmp_ne (tgt := 66) hx hb dX2_balanced_25 (by decide) (fun c4 => ?_) (fun c4 => ?_)
        · replace hf := if_f c4 hf
          exact L66 (f_X2_balanced_4 uh ur n) ih  x1 x2 x3 hf H locs ls hG (lv_sub hl [0, 1, 2, 3] rfl)
        · replace hf := if_t c4 hf
          refine lv_aload_n hx hb dX2_balanced_28 rfl (lv_at hl 0 rfl) ?_
          refine x_get (C := RX2) (T := TX2) (N := 6) (ci := 2) hx hb hts iX2 hown hK hG 13 rfl rfl 0 (by decide) k9 (v := .ref (a 0)) rfl dX2_balanced_29 ?_
          refine lv_aload_n hx hb dX2_balanced_32 rfl (lv_at hl 0 rfl) ?_
          refine x_get (C := RX2) (T := TX2) (N := 6) (ci := 2) hx hb hts iX2 hown hK hG 13 rfl rfl 0 (by decide) k9 (v := .ref (a 0)) rfl dX2_balanced_33 ?_
          refine x_get (C := RX0) (T := TX0) (N := 17) (ci := 0) hx hb hts iX0 hown hK hG 0 rfl rfl 10 (by decide) k36 (v := .ref (a 6)) rfl dX2_balanced_36 ?_
          refine lv_iload_n hx hb dX2_balanced_39 rfl (lv_at hl 3 rfl) ?_
          obtain ⟨v5, ev5, hin, hf⟩ := ck_e hf
          refine x_iald hx hb hK hG 6 rfl ev5 hin dX2_balanced_40 ?_
          obtain ⟨r6, q7, hf⟩ := cl1_e hf
          refine x_callVi (pre := ([] : va_W)) (wc := WH κ a uh) (wc1 := WH κ a uh) (post := WR κ a ur) (As := [.int v5]) (rest := []) (w1 := WH κ a uh ++ (WR κ a ur)) ⟨hx, hb, hml, hown, hts⟩ hK hG hA (by simp only [List.append_assoc, List.nil_append, List.append_nil]) (by simp only [List.append_assoc, List.nil_append, List.append_nil]) (c_X0_rankOf l D κ a H.size v5 uh r6 q7) (cwV 1 hts gX2_balanced_X0_rankOf rfl rfl rfl (by decide +kernel) ⟨Nat.le_of_ble_eq_true rfl, Nat.le_of_ble_eq_true rfl⟩) 0 0 rfl rfl rfl rfl hl.1 rfl (Nat.le_of_ble_eq_true rfl) dX2_balanced_41 ⟨Nat.zero_le _, Nat.zero_le _⟩ (fun H locs hG => ?_)
          refine lv_aload_n hx hb dX2_balanced_44 rfl (lv_at hl 0 rfl) ?_
          refine x_get (C := RX2) (T := TX2) (N := 6) (ci := 2) hx hb hts iX2 hown hK hG 13 rfl rfl 0 (by decide) k9 (v := .ref (a 0)) rfl dX2_balanced_45 ?_
          refine lv_aload_n hx hb dX2_balanced_48 rfl (lv_at hl 0 rfl) ?_
          refine x_get (C := RX2) (T := TX2) (N := 6) (ci := 2) hx hb hts iX2 hown hK hG 13 rfl rfl 0 (by decide) k9 (v := .ref (a 0)) rfl dX2_balanced_49 ?_
          refine x_get (C := RX0) (T := TX0) (N := 17) (ci := 0) hx hb hts iX0 hown hK hG 0 rfl rfl 11 (by decide) k31 (v := .ref (a 7)) rfl dX2_balanced_52 ?_
          refine lv_iload_n hx hb dX2_balanced_55 rfl (lv_at hl 3 rfl) ?_
          obtain ⟨v8, ev8, hin, hf⟩ := ck_e hf
          refine x_iald hx hb hK hG 7 rfl ev8 hin dX2_balanced_56 ?_
          obtain ⟨r9, q10, hf⟩ := cl1_e hf
          refine x_callVi (pre := ([] : va_W)) (wc := WH κ a uh) (wc1 := WH κ a uh) (post := WR κ a ur) (As := [.int v8]) (rest := [.int r6]) (w1 := WH κ a uh ++ (WR κ a ur)) ⟨hx, hb, hml, hown, hts⟩ hK hG hA (by simp only [List.append_assoc, List.nil_append, List.append_nil]) (by simp only [List.append_assoc, List.nil_append, List.append_nil]) (c_X0_rankOf l D κ a H.size v8 uh r9 q10) (cwV 1 hts gX2_balanced_X0_rankOf rfl rfl rfl (by decide +kernel) ⟨Nat.le_of_ble_eq_true rfl, Nat.le_of_ble_eq_true rfl⟩) 0 0 rfl rfl rfl rfl hl.1 rfl (Nat.le_of_ble_eq_true rfl) dX2_balanced_57 ⟨Nat.zero_le _, Nat.zero_le _⟩ (fun H locs hG => ?_)
          refine lv_icmp_ne (tgt := 66) hx hb dX2_balanced_60 (by decide) (fun c11 => ?_) (fun c11 => ?_)
          · replace hf := if_f c11 hf
            exact L66 (f_X2_balanced_4 uh ur n) ih  x1 x2 x3 hf H locs ls hG (lv_sub hl [0, 1, 2, 3] rfl)
          · replace hf := if_t c11 hf
            obtain ⟨y12, ey12, hf⟩ := bnd_e hf
            refine lv_iinc (v := y12) (lv' := [(2, .int y12), (0, .ref (a 13)), (1, .int x1), (3, .int x3)]) hx hb dX2_balanced_63 hl (k := 2) rfl (by rw [ey12]; rfl) (by decide) rfl (fun ls hl => ?_)
            exact L66 (f_X2_balanced_4 uh ur n) ih  x1 y12 x3 hf H locs ls hG (lv_sub hl [1, 2, 0, 3] rfl)
  unfold f_X2_balanced at hf
  refine lv_iconst (v := 0) hx hb dX2_balanced_0 (by decide) ?_
  refine lv_istore_n (lv' := [(2, .int 0), (0, .ref (a 13)), (1, .int p1)]) hx hb dX2_balanced_1 rfl hl (by decide) rfl (fun ls hl => ?_)
  refine lv_iconst (v := 0) hx hb dX2_balanced_2 (by decide) ?_
  refine lv_istore_n (lv' := [(3, .int 0), (2, .int 0), (0, .ref (a 13)), (1, .int p1)]) hx hb dX2_balanced_3 rfl hl (by decide) rfl (fun ls hl => ?_)
  exact L4  FU p1 0 0 hf H locs ls hG (lv_sub hl [2, 3, 1, 0] rfl)
set_option maxRecDepth 100000 in
set_option maxHeartbeats 4000000 in
theorem c_X2_leaves (l : Launch) (D : va_G) (κ : Nat → ClassId) (a : Nat → Nat) (sz : Nat) (p1 : Int32) (uh : HS) (ur : RS) (r' : Int32)  (hf : f_X2_leaves p1 uh ur = some (r')) : Met l yX2_leaves wsX2_leaves ({ frames := 0, cells := 0, slots := 0, locals := 0 } : Room) (xPc D κ [.ref (a 13), .int p1] (WH κ a uh ++ (WR κ a ur)) sz) (xQi D κ r' (WH κ a uh ++ (WR κ a ur)) (va_A (WH κ a uh ++ (WR κ a ur)) sz)) 0 0 (va_A (WH κ a uh ++ (WR κ a ur)) sz) := by
  refine x_ofW (cc := cX2_leaves) (maxL := 4) (ret := (some .int)) (Qf := fun A => xQi D κ r' (WH κ a uh ++ (WR κ a ur)) A) (by decide) rfl (Nat.le_of_ble_eq_true rfl) ?_
  intro p e s m below meth c hx hb hr hlk hml hown hts hK A hA H locs hG ls hl
  have hown : s.vm.findClass RX2 = some m.cls := hown
  have hl : lv_has ls 4 [(0, .ref (a 13)), (1, .int p1)] := hl
  have iX0 : ∀ w ∈ u_ws RX0 TX0 17, w ∈ wsX2_leaves := fun _ h => List.mem_cons_of_mem _ (List.mem_append_right _ h)
  have iX2 : ∀ w ∈ u_ws RX2 TX2 6, w ∈ wsX2_leaves := fun _ h => List.mem_cons_of_mem _ (List.mem_append_left _ (List.mem_append_right _ h))
  have k31 := hts (.fieldLink RX2 31 "SpineDesks$Hall" "right" "[I") (List.mem_of_getElem? (i := 5) rfl)
  have k36 := hts (.fieldLink RX2 36 "SpineDesks$Hall" "left" "[I") (List.mem_of_getElem? (i := 4) rfl)
  have k55 := hts (.fieldLink RX2 55 "SpineDesks$Hall" "came" "I") (List.mem_of_getElem? (i := 2) rfl)
  have k59 := hts (.fieldLink RX2 59 "SpineDesks$Hall" "deskOf" "[I") (List.mem_of_getElem? (i := 3) rfl)
  have k9 := hts (.fieldLink RX2 9 "SpineDesks$Rows" "hall" "LSpineDesks$Hall;") (List.mem_of_getElem? (i := 1) rfl)
  have L57 : ∀ (rec4 : Int32 → Int32 → Int32 → Option (Int32)) (hr4 : ∀ (y1 : Int32) (y2 : Int32) (y3 : Int32), rec4 y1 y2 y3 = some (r') → ∀ (H : Heap) (locs : List Loc) (ls : Array Slot), xG D A s.heap (WH κ a uh ++ (WR κ a ur)) H locs → lv_has ls 4 [(0, .ref (a 13)), (1, .int y1), (2, .int y2), (3, .int y3)] → W p l e ({ frames := 0, cells := 0, slots := 0, locals := 0 } : Room) s m (([.ref (a 13), .int p1] : List Value).toArray) below meth c H locs 0 0 (MQ below (xQi D κ r' (WH κ a uh ++ (WR κ a ur)) A) (([.ref (a 13), .int p1] : List Value).toArray) s 0 0 A) (F0 m 4 ls [])), ∀ (x1 : Int32) (x2 : Int32) (x3 : Int32), f_X2_leaves_57 uh ur rec4 x1 x2 x3 = some (r') → ∀ (H : Heap) (locs : List Loc) (ls : Array Slot), xG D A s.heap (WH κ a uh ++ (WR κ a ur)) H locs → lv_has ls 4 [(0, .ref (a 13)), (1, .int x1), (2, .int x2), (3, .int x3)] → W p l e ({ frames := 0, cells := 0, slots := 0, locals := 0 } : Room) s m (([.ref (a 13), .int p1] : List Value).toArray) below meth c H locs 0 0 (MQ below (xQi D κ r' (WH κ a uh ++ (WR κ a ur)) A) (([.ref (a 13), .int p1] : List Value).toArray) s 0 0 A) (F0 m 57 ls []) := by
    intro rec4 hr4 x1 x2 x3 hf H locs ls hG hl
    unfold f_X2_leaves_57 at hf
    obtain ⟨y1, ey1, hf⟩ := bnd_e hf
    refine lv_iinc (v := y1) (lv' := [(3, .int y1), (0, .ref (a 13)), (1, .int x1), (2, .int x2)]) hx hb dX2_leaves_57 hl (k := 3) rfl (by rw [ey1]; rfl) (by decide) rfl (fun ls hl => ?_)
    refine lv_goto (tgt := 4) hx hb dX2_leaves_60 (by decide) ?_
    exact hr4 x1 x2 y1 hf H locs ls hG (lv_sub hl [1, 2, 3, 0] rfl)
  have L4 : ∀ (n : Nat), ∀ (x1 : Int32) (x2 : Int32) (x3 : Int32), f_X2_leaves_4 uh ur n x1 x2 x3 = some (r') → ∀ (H : Heap) (locs : List Loc) (ls : Array Slot), xG D A s.heap (WH κ a uh ++ (WR κ a ur)) H locs → lv_has ls 4 [(0, .ref (a 13)), (1, .int x1), (2, .int x2), (3, .int x3)] → W p l e ({ frames := 0, cells := 0, slots := 0, locals := 0 } : Room) s m (([.ref (a 13), .int p1] : List Value).toArray) below meth c H locs 0 0 (MQ below (xQi D κ r' (WH κ a uh ++ (WR κ a ur)) A) (([.ref (a 13), .int p1] : List Value).toArray) s 0 0 A) (F0 m 4 ls []) := by
    intro  n
    induction n with
    | zero => intro x1 x2 x3 hf; cases hf
    | succ n ih =>
      intro x1 x2 x3 hf H locs ls hG hl
      replace hf : f_X2_leaves_B4 uh ur (f_X2_leaves_4 uh ur n) x1 x2 x3 = some (r') := hf
      unfold f_X2_leaves_B4 at hf
      refine lv_iload_n hx hb dX2_leaves_4 rfl (lv_at hl 3 rfl) ?_
      refine lv_aload_n hx hb dX2_leaves_5 rfl (lv_at hl 0 rfl) ?_
      refine x_get (C := RX2) (T := TX2) (N := 6) (ci := 2) hx hb hts iX2 hown hK hG 13 rfl rfl 0 (by decide) k9 (v := .ref (a 0)) rfl dX2_leaves_6 ?_
      refine x_get (C := RX0) (T := TX0) (N := 17) (ci := 0) hx hb hts iX0 hown hK hG 0 rfl rfl 0 (by decide) k55 (v := .int (uh.came)) rfl dX2_leaves_9 ?_
      refine lv_icmp_ge (tgt := 63) hx hb dX2_leaves_12 (by decide) (fun c2 => ?_) (fun c2 => ?_)
      · replace hf := if_t c2 hf
        refine lv_iload_n hx hb dX2_leaves_63 rfl (lv_at hl 2 rfl) ?_
        have z0 := Option.some.inj hf
        exact x_iret hx hb hr hlk hK hG z0 rfl dX2_leaves_64
      · replace hf := if_f c2 hf
        refine lv_aload_n hx hb dX2_leaves_15 rfl (lv_at hl 0 rfl) ?_
        refine x_get (C := RX2) (T := TX2) (N := 6) (ci := 2) hx hb hts iX2 hown hK hG 13 rfl rfl 0 (by decide) k9 (v := .ref (a 0)) rfl dX2_leaves_16 ?_
        refine x_get (C := RX0) (T := TX0) (N := 17) (ci := 0) hx hb hts iX0 hown hK hG 0 rfl rfl 8 (by decide) k59 (v := .ref (a 4)) rfl dX2_leaves_19 ?_
        refine lv_iload_n hx hb dX2_leaves_22 rfl (lv_at hl 3 rfl) ?_
        obtain ⟨v3, ev3, hin, hf⟩ := ck_e hf
        refine x_iald hx hb hK hG 4 rfl ev3 hin dX2_leaves_23 ?_
        refine lv_iload_n hx hb dX2_leaves_24 rfl (lv_at hl 1 rfl) ?_
        refine lv_icmp_ne (tgt := 57) hx hb dX2_leaves_25 (by decide) (fun c4 => ?_) (fun c4 => ?_)
        · replace hf := if_f c4 hf
          exact L57 (f_X2_leaves_4 uh ur n) ih  x1 x2 x3 hf H locs ls hG (lv_sub hl [0, 1, 2, 3] rfl)
        · replace hf := if_t c4 hf
          refine lv_aload_n hx hb dX2_leaves_28 rfl (lv_at hl 0 rfl) ?_
          refine x_get (C := RX2) (T := TX2) (N := 6) (ci := 2) hx hb hts iX2 hown hK hG 13 rfl rfl 0 (by decide) k9 (v := .ref (a 0)) rfl dX2_leaves_29 ?_
          refine x_get (C := RX0) (T := TX0) (N := 17) (ci := 0) hx hb hts iX0 hown hK hG 0 rfl rfl 10 (by decide) k36 (v := .ref (a 6)) rfl dX2_leaves_32 ?_
          refine lv_iload_n hx hb dX2_leaves_35 rfl (lv_at hl 3 rfl) ?_
          obtain ⟨v5, ev5, hin, hf⟩ := ck_e hf
          refine x_iald hx hb hK hG 6 rfl ev5 hin dX2_leaves_36 ?_
          refine lv_iconst (v := (-1)) hx hb dX2_leaves_37 (by decide) ?_
          refine lv_icmp_ne (tgt := 57) hx hb dX2_leaves_38 (by decide) (fun c6 => ?_) (fun c6 => ?_)
          · replace hf := if_f c6 hf
            exact L57 (f_X2_leaves_4 uh ur n) ih  x1 x2 x3 hf H locs ls hG (lv_sub hl [0, 1, 2, 3] rfl)
          · replace hf := if_t c6 hf
            refine lv_aload_n hx hb dX2_leaves_41 rfl (lv_at hl 0 rfl) ?_
            refine x_get (C := RX2) (T := TX2) (N := 6) (ci := 2) hx hb hts iX2 hown hK hG 13 rfl rfl 0 (by decide) k9 (v := .ref (a 0)) rfl dX2_leaves_42 ?_
            refine x_get (C := RX0) (T := TX0) (N := 17) (ci := 0) hx hb hts iX0 hown hK hG 0 rfl rfl 11 (by decide) k31 (v := .ref (a 7)) rfl dX2_leaves_45 ?_
            refine lv_iload_n hx hb dX2_leaves_48 rfl (lv_at hl 3 rfl) ?_
            obtain ⟨v7, ev7, hin, hf⟩ := ck_e hf
            refine x_iald hx hb hK hG 7 rfl ev7 hin dX2_leaves_49 ?_
            refine lv_iconst (v := (-1)) hx hb dX2_leaves_50 (by decide) ?_
            refine lv_icmp_ne (tgt := 57) hx hb dX2_leaves_51 (by decide) (fun c8 => ?_) (fun c8 => ?_)
            · replace hf := if_f c8 hf
              exact L57 (f_X2_leaves_4 uh ur n) ih  x1 x2 x3 hf H locs ls hG (lv_sub hl [0, 1, 2, 3] rfl)
            · replace hf := if_t c8 hf
              obtain ⟨y9, ey9, hf⟩ := bnd_e hf
              refine lv_iinc (v := y9) (lv' := [(2, .int y9), (0, .ref (a 13)), (1, .int x1), (3, .int x3)]) hx hb dX2_leaves_54 hl (k := 2) rfl (by rw [ey9]; rfl) (by decide) rfl (fun ls hl => ?_)
              exact L57 (f_X2_leaves_4 uh ur n) ih  x1 y9 x3 hf H locs ls hG (lv_sub hl [1, 2, 0, 3] rfl)
  unfold f_X2_leaves at hf
  refine lv_iconst (v := 0) hx hb dX2_leaves_0 (by decide) ?_
  refine lv_istore_n (lv' := [(2, .int 0), (0, .ref (a 13)), (1, .int p1)]) hx hb dX2_leaves_1 rfl hl (by decide) rfl (fun ls hl => ?_)
  refine lv_iconst (v := 0) hx hb dX2_leaves_2 (by decide) ?_
  refine lv_istore_n (lv' := [(3, .int 0), (2, .int 0), (0, .ref (a 13)), (1, .int p1)]) hx hb dX2_leaves_3 rfl hl (by decide) rfl (fun ls hl => ?_)
  exact L4  FU p1 0 0 hf H locs ls hG (lv_sub hl [2, 3, 1, 0] rfl)
set_option maxRecDepth 100000 in
set_option maxHeartbeats 4000000 in
theorem c_X2_rightHeavy (l : Launch) (D : va_G) (κ : Nat → ClassId) (a : Nat → Nat) (sz : Nat) (p1 : Int32) (uh : HS) (ur : RS) (r' : Int32) (ur' : RS) (hf : f_X2_rightHeavy p1 uh ur = some (r', ur')) : Met l yX2_rightHeavy wsX2_rightHeavy ({ frames := 1, cells := 0, slots := 0, locals := 24 } : Room) (xPc D κ [.ref (a 13), .int p1] (WH κ a uh ++ (WR κ a ur)) sz) (xQi D κ r' (WH κ a uh ++ (WR κ a ur')) (va_A (WH κ a uh ++ (WR κ a ur)) sz)) 0 0 (va_A (WH κ a uh ++ (WR κ a ur)) sz) := by
  refine x_ofW (cc := cX2_rightHeavy) (maxL := 8) (ret := (some .int)) (Qf := fun A => xQi D κ r' (WH κ a uh ++ (WR κ a ur')) A) (by decide) rfl (Nat.le_of_ble_eq_true rfl) ?_
  intro p e s m below meth c hx hb hr hlk hml hown hts hK A hA H locs hG ls hl
  have hown : s.vm.findClass RX2 = some m.cls := hown
  have hl : lv_has ls 8 [(0, .ref (a 13)), (1, .int p1)] := hl
  have iX0 : ∀ w ∈ u_ws RX0 TX0 17, w ∈ wsX2_rightHeavy := fun _ h => List.mem_cons_of_mem _ (List.mem_append_right _ h)
  have iX2 : ∀ w ∈ u_ws RX2 TX2 6, w ∈ wsX2_rightHeavy := fun _ h => List.mem_cons_of_mem _ (List.mem_append_left _ (List.mem_append_right _ h))
  have k15 := hts (.fieldLink RX2 15 "SpineDesks$Rows" "one" "[I") (List.mem_of_getElem? (i := 3) rfl)
  have k25 := hts (.fieldLink RX2 25 "SpineDesks$Rows" "span" "[I") (List.mem_of_getElem? (i := 5) rfl)
  have k31 := hts (.fieldLink RX2 31 "SpineDesks$Hall" "right" "[I") (List.mem_of_getElem? (i := 6) rfl)
  have k36 := hts (.fieldLink RX2 36 "SpineDesks$Hall" "left" "[I") (List.mem_of_getElem? (i := 4) rfl)
  have k39 := hts (.fieldLink RX2 39 "SpineDesks$Hall" "root" "[I") (List.mem_of_getElem? (i := 2) rfl)
  have k9 := hts (.fieldLink RX2 9 "SpineDesks$Rows" "hall" "LSpineDesks$Hall;") (List.mem_of_getElem? (i := 1) rfl)
  have L132 : ∀ (rec21 : Int32 → Int32 → RS → Option (Int32 × RS)) (hr21 : ∀ (y3 : Int32) (y4 : Int32) (ur : RS), rec21 y3 y4 ur = some (r', ur') → ∀ (H : Heap) (locs : List Loc) (ls : Array Slot), xG D A s.heap (WH κ a uh ++ (WR κ a ur)) H locs → lv_has ls 8 [(0, .ref (a 13)), (3, .int y3), (4, .int y4)] → W p l e ({ frames := 1, cells := 0, slots := 0, locals := 24 } : Room) s m (([.ref (a 13), .int p1] : List Value).toArray) below meth c H locs 0 0 (MQ below (xQi D κ r' (WH κ a uh ++ (WR κ a ur')) A) (([.ref (a 13), .int p1] : List Value).toArray) s 0 0 A) (F0 m 21 ls [])), ∀ (x4 : Int32) (s0 : Int32) (s1 : Int32) (ur : RS), f_X2_rightHeavy_132 uh rec21 x4 s0 s1 ur = some (r', ur') → ∀ (H : Heap) (locs : List Loc) (ls : Array Slot), xG D A s.heap (WH κ a uh ++ (WR κ a ur)) H locs → lv_has ls 8 [(0, .ref (a 13)), (4, .int x4)] → W p l e ({ frames := 1, cells := 0, slots := 0, locals := 24 } : Room) s m (([.ref (a 13), .int p1] : List Value).toArray) below meth c H locs 0 0 (MQ below (xQi D κ r' (WH κ a uh ++ (WR κ a ur')) A) (([.ref (a 13), .int p1] : List Value).toArray) s 0 0 A) (F0 m 132 ls [.int s1, .int s0]) := by
    intro rec21 hr21 x4 s0 s1 ur hf H locs ls hG hl
    unfold f_X2_rightHeavy_132 at hf
    refine lv_iadd hx hb dX2_rightHeavy_132 ?_
    refine lv_topi (fun y1 ey1 => ?_)
    replace hf := bnd_at ey1 hf
    refine lv_istore_n (lv' := [(3, .int y1), (0, .ref (a 13)), (4, .int x4)]) hx hb dX2_rightHeavy_133 rfl hl (by decide) rfl (fun ls hl => ?_)
    obtain ⟨y2, ey2, hf⟩ := bnd_e hf
    refine lv_iinc (v := y2) (lv' := [(4, .int y2), (3, .int y1), (0, .ref (a 13))]) hx hb dX2_rightHeavy_134 hl (k := 2) rfl (by rw [ey2]; rfl) (by decide) rfl (fun ls hl => ?_)
    refine lv_goto (tgt := 21) hx hb dX2_rightHeavy_137 (by decide) ?_
    exact hr21 y1 y2 ur hf H locs ls hG (lv_sub hl [2, 1, 0] rfl)
  have L103 : ∀ (rec21 : Int32 → Int32 → RS → Option (Int32 × RS)) (hr21 : ∀ (y3 : Int32) (y4 : Int32) (ur : RS), rec21 y3 y4 ur = some (r', ur') → ∀ (H : Heap) (locs : List Loc) (ls : Array Slot), xG D A s.heap (WH κ a uh ++ (WR κ a ur)) H locs → lv_has ls 8 [(0, .ref (a 13)), (3, .int y3), (4, .int y4)] → W p l e ({ frames := 1, cells := 0, slots := 0, locals := 24 } : Room) s m (([.ref (a 13), .int p1] : List Value).toArray) below meth c H locs 0 0 (MQ below (xQi D κ r' (WH κ a uh ++ (WR κ a ur')) A) (([.ref (a 13), .int p1] : List Value).toArray) s 0 0 A) (F0 m 21 ls [])), ∀ (x3 : Int32) (x4 : Int32) (x5 : Int32) (x6 : Int32) (s0 : Int32) (ur : RS), f_X2_rightHeavy_103 uh rec21 x3 x4 x5 x6 s0 ur = some (r', ur') → ∀ (H : Heap) (locs : List Loc) (ls : Array Slot), xG D A s.heap (WH κ a uh ++ (WR κ a ur)) H locs → lv_has ls 8 [(0, .ref (a 13)), (3, .int x3), (4, .int x4), (5, .int x5), (6, .int x6)] → W p l e ({ frames := 1, cells := 0, slots := 0, locals := 24 } : Room) s m (([.ref (a 13), .int p1] : List Value).toArray) below meth c H locs 0 0 (MQ below (xQi D κ r' (WH κ a uh ++ (WR κ a ur')) A) (([.ref (a 13), .int p1] : List Value).toArray) s 0 0 A) (F0 m 103 ls [.int s0]) := by
    intro rec21 hr21 x3 x4 x5 x6 s0 ur hf H locs ls hG hl
    unfold f_X2_rightHeavy_103 at hf
    refine lv_istore (lv' := [(7, .int s0), (0, .ref (a 13)), (3, .int x3), (4, .int x4), (5, .int x5), (6, .int x6)]) hx hb dX2_rightHeavy_103 hl (by decide) rfl (fun ls hl => ?_)
    refine lv_aload_n hx hb dX2_rightHeavy_105 rfl (lv_at hl 1 rfl) ?_
    refine x_get (C := RX2) (T := TX2) (N := 6) (ci := 2) hx hb hts iX2 hown hK hG 13 rfl rfl 4 (by decide) k25 (v := .ref (a 17)) rfl dX2_rightHeavy_106 ?_
    refine lv_iload hx hb dX2_rightHeavy_109 (lv_at hl 4 rfl) ?_
    refine lv_iconst (v := 1) hx hb dX2_rightHeavy_111 (by decide) ?_
    refine lv_iload hx hb dX2_rightHeavy_112 (lv_at hl 5 rfl) ?_
    refine lv_iadd hx hb dX2_rightHeavy_114 ?_
    refine lv_iload hx hb dX2_rightHeavy_115 (lv_at hl 0 rfl) ?_
    refine lv_iadd hx hb dX2_rightHeavy_117 ?_
    obtain ⟨ur3, eur3, hin, hf⟩ := ck_e hf
    refine x_iast hx hb hK hG 17 rfl (w1 := WH κ a uh ++ (WR κ a ur3)) (by rw [eur3]; rfl) hin dX2_rightHeavy_118 (fun H locs hG => ?_)
    refine lv_iload_n hx hb dX2_rightHeavy_119 rfl (lv_at hl 2 rfl) ?_
    refine lv_iload hx hb dX2_rightHeavy_120 (lv_at hl 0 rfl) ?_
    refine lv_iload hx hb dX2_rightHeavy_122 (lv_at hl 5 rfl) ?_
    refine lv_icmp_le (tgt := 131) hx hb dX2_rightHeavy_124 (by decide) (fun c4 => ?_) (fun c4 => ?_)
    · replace hf := if_t c4 hf
      refine lv_iconst (v := 0) hx hb dX2_rightHeavy_131 (by decide) ?_
      exact L132 rec21 hr21  x4 x3 0 ur3 hf H locs ls hG (lv_sub hl [1, 3] rfl)
    · replace hf := if_f c4 hf
      refine lv_iconst (v := 1) hx hb dX2_rightHeavy_127 (by decide) ?_
      refine lv_goto (tgt := 132) hx hb dX2_rightHeavy_128 (by decide) ?_
      exact L132 rec21 hr21  x4 x3 1 ur3 hf H locs ls hG (lv_sub hl [1, 3] rfl)
  have L68 : ∀ (rec21 : Int32 → Int32 → RS → Option (Int32 × RS)) (hr21 : ∀ (y3 : Int32) (y4 : Int32) (ur : RS), rec21 y3 y4 ur = some (r', ur') → ∀ (H : Heap) (locs : List Loc) (ls : Array Slot), xG D A s.heap (WH κ a uh ++ (WR κ a ur)) H locs → lv_has ls 8 [(0, .ref (a 13)), (3, .int y3), (4, .int y4)] → W p l e ({ frames := 1, cells := 0, slots := 0, locals := 24 } : Room) s m (([.ref (a 13), .int p1] : List Value).toArray) below meth c H locs 0 0 (MQ below (xQi D κ r' (WH κ a uh ++ (WR κ a ur')) A) (([.ref (a 13), .int p1] : List Value).toArray) s 0 0 A) (F0 m 21 ls [])), ∀ (x3 : Int32) (x4 : Int32) (x5 : Int32) (s0 : Int32) (ur : RS), f_X2_rightHeavy_68 uh rec21 x3 x4 x5 s0 ur = some (r', ur') → ∀ (H : Heap) (locs : List Loc) (ls : Array Slot), xG D A s.heap (WH κ a uh ++ (WR κ a ur)) H locs → lv_has ls 8 [(0, .ref (a 13)), (3, .int x3), (4, .int x4), (5, .int x5)] → W p l e ({ frames := 1, cells := 0, slots := 0, locals := 24 } : Room) s m (([.ref (a 13), .int p1] : List Value).toArray) below meth c H locs 0 0 (MQ below (xQi D κ r' (WH κ a uh ++ (WR κ a ur')) A) (([.ref (a 13), .int p1] : List Value).toArray) s 0 0 A) (F0 m 68 ls [.int s0]) := by
    intro rec21 hr21 x3 x4 x5 s0 ur hf H locs ls hG hl
    unfold f_X2_rightHeavy_68 at hf
    refine lv_istore (lv' := [(6, .int s0), (0, .ref (a 13)), (3, .int x3), (4, .int x4), (5, .int x5)]) hx hb dX2_rightHeavy_68 hl (by decide) rfl (fun ls hl => ?_)
    refine lv_aload_n hx hb dX2_rightHeavy_70 rfl (lv_at hl 1 rfl) ?_
    refine x_get (C := RX2) (T := TX2) (N := 6) (ci := 2) hx hb hts iX2 hown hK hG 13 rfl rfl 0 (by decide) k9 (v := .ref (a 0)) rfl dX2_rightHeavy_71 ?_
    refine x_get (C := RX0) (T := TX0) (N := 17) (ci := 0) hx hb hts iX0 hown hK hG 0 rfl rfl 11 (by decide) k31 (v := .ref (a 7)) rfl dX2_rightHeavy_74 ?_
    refine lv_iload hx hb dX2_rightHeavy_77 (lv_at hl 4 rfl) ?_
    obtain ⟨v5, ev5, hin, hf⟩ := ck_e hf
    refine x_iald hx hb hK hG 7 rfl ev5 hin dX2_rightHeavy_79 ?_
    refine lv_iconst (v := (-1)) hx hb dX2_rightHeavy_80 (by decide) ?_
    refine lv_icmp_ne (tgt := 88) hx hb dX2_rightHeavy_81 (by decide) (fun c6 => ?_) (fun c6 => ?_)
    · replace hf := if_f c6 hf
      refine lv_aload_n hx hb dX2_rightHeavy_88 rfl (lv_at hl 1 rfl) ?_
      refine x_get (C := RX2) (T := TX2) (N := 6) (ci := 2) hx hb hts iX2 hown hK hG 13 rfl rfl 4 (by decide) k25 (v := .ref (a 17)) rfl dX2_rightHeavy_89 ?_
      refine lv_aload_n hx hb dX2_rightHeavy_92 rfl (lv_at hl 1 rfl) ?_
      refine x_get (C := RX2) (T := TX2) (N := 6) (ci := 2) hx hb hts iX2 hown hK hG 13 rfl rfl 0 (by decide) k9 (v := .ref (a 0)) rfl dX2_rightHeavy_93 ?_
      refine x_get (C := RX0) (T := TX0) (N := 17) (ci := 0) hx hb hts iX0 hown hK hG 0 rfl rfl 11 (by decide) k31 (v := .ref (a 7)) rfl dX2_rightHeavy_96 ?_
      refine lv_iload hx hb dX2_rightHeavy_99 (lv_at hl 4 rfl) ?_
      obtain ⟨v7, ev7, hin, hf⟩ := ck_e hf
      refine x_iald hx hb hK hG 7 rfl ev7 hin dX2_rightHeavy_101 ?_
      obtain ⟨v8, ev8, hin, hf⟩ := ck_e hf
      refine x_iald hx hb hK hG 17 rfl ev8 hin dX2_rightHeavy_102 ?_
      exact L103 rec21 hr21  x3 x4 x5 s0 v8 ur hf H locs ls hG (lv_sub hl [1, 2, 3, 4, 0] rfl)
    · replace hf := if_t c6 hf
      refine lv_iconst (v := 0) hx hb dX2_rightHeavy_84 (by decide) ?_
      refine lv_goto (tgt := 103) hx hb dX2_rightHeavy_85 (by decide) ?_
      exact L103 rec21 hr21  x3 x4 x5 s0 0 ur hf H locs ls hG (lv_sub hl [1, 2, 3, 4, 0] rfl)
  have L21 : ∀ (n : Nat), ∀ (x3 : Int32) (x4 : Int32) (ur : RS), f_X2_rightHeavy_21 uh n x3 x4 ur = some (r', ur') → ∀ (H : Heap) (locs : List Loc) (ls : Array Slot), xG D A s.heap (WH κ a uh ++ (WR κ a ur)) H locs → lv_has ls 8 [(0, .ref (a 13)), (3, .int x3), (4, .int x4)] → W p l e ({ frames := 1, cells := 0, slots := 0, locals := 24 } : Room) s m (([.ref (a 13), .int p1] : List Value).toArray) below meth c H locs 0 0 (MQ below (xQi D κ r' (WH κ a uh ++ (WR κ a ur')) A) (([.ref (a 13), .int p1] : List Value).toArray) s 0 0 A) (F0 m 21 ls []) := by
    intro  n
    induction n with
    | zero => intro x3 x4 ur hf; cases hf
    | succ n ih =>
      intro x3 x4 ur hf H locs ls hG hl
      replace hf : f_X2_rightHeavy_B21 uh (f_X2_rightHeavy_21 uh n) x3 x4 ur = some (r', ur') := hf
      unfold f_X2_rightHeavy_B21 at hf
      refine lv_iload hx hb dX2_rightHeavy_21 (lv_at hl 2 rfl) ?_
      refine lv_if_lt (tgt := 140) hx hb dX2_rightHeavy_23 (by decide) (fun c9 => ?_) (fun c9 => ?_)
      · replace hf := if_t c9 hf
        refine lv_iload_n hx hb dX2_rightHeavy_140 rfl (lv_at hl 1 rfl) ?_
        have hz := Option.some.inj hf
        have z0 := (Prod.mk.inj hz).1
        replace hz := (Prod.mk.inj hz).2
        have z1 := hz
        exact x_iret hx hb hr hlk hK hG z0 (by rw [z1]) dX2_rightHeavy_141
      · replace hf := if_f c9 hf
        refine lv_aload_n hx hb dX2_rightHeavy_26 rfl (lv_at hl 0 rfl) ?_
        refine x_get (C := RX2) (T := TX2) (N := 6) (ci := 2) hx hb hts iX2 hown hK hG 13 rfl rfl 1 (by decide) k15 (v := .ref (a 14)) rfl dX2_rightHeavy_27 ?_
        refine lv_iload hx hb dX2_rightHeavy_30 (lv_at hl 2 rfl) ?_
        obtain ⟨v10, ev10, hin, hf⟩ := ck_e hf
        refine x_iald hx hb hK hG 14 rfl ev10 hin dX2_rightHeavy_32 ?_
        refine lv_istore (lv' := [(5, .int v10), (0, .ref (a 13)), (3, .int x3), (4, .int x4)]) hx hb dX2_rightHeavy_33 hl (by decide) rfl (fun ls hl => ?_)
        refine lv_aload_n hx hb dX2_rightHeavy_35 rfl (lv_at hl 1 rfl) ?_
        refine x_get (C := RX2) (T := TX2) (N := 6) (ci := 2) hx hb hts iX2 hown hK hG 13 rfl rfl 0 (by decide) k9 (v := .ref (a 0)) rfl dX2_rightHeavy_36 ?_
        refine x_get (C := RX0) (T := TX0) (N := 17) (ci := 0) hx hb hts iX0 hown hK hG 0 rfl rfl 10 (by decide) k36 (v := .ref (a 6)) rfl dX2_rightHeavy_39 ?_
        refine lv_iload hx hb dX2_rightHeavy_42 (lv_at hl 0 rfl) ?_
        obtain ⟨v11, ev11, hin, hf⟩ := ck_e hf
        refine x_iald hx hb hK hG 6 rfl ev11 hin dX2_rightHeavy_44 ?_
        refine lv_iconst (v := (-1)) hx hb dX2_rightHeavy_45 (by decide) ?_
        refine lv_icmp_ne (tgt := 53) hx hb dX2_rightHeavy_46 (by decide) (fun c12 => ?_) (fun c12 => ?_)
        · replace hf := if_f c12 hf
          refine lv_aload_n hx hb dX2_rightHeavy_53 rfl (lv_at hl 1 rfl) ?_
          refine x_get (C := RX2) (T := TX2) (N := 6) (ci := 2) hx hb hts iX2 hown hK hG 13 rfl rfl 4 (by decide) k25 (v := .ref (a 17)) rfl dX2_rightHeavy_54 ?_
          refine lv_aload_n hx hb dX2_rightHeavy_57 rfl (lv_at hl 1 rfl) ?_
          refine x_get (C := RX2) (T := TX2) (N := 6) (ci := 2) hx hb hts iX2 hown hK hG 13 rfl rfl 0 (by decide) k9 (v := .ref (a 0)) rfl dX2_rightHeavy_58 ?_
          refine x_get (C := RX0) (T := TX0) (N := 17) (ci := 0) hx hb hts iX0 hown hK hG 0 rfl rfl 10 (by decide) k36 (v := .ref (a 6)) rfl dX2_rightHeavy_61 ?_
          refine lv_iload hx hb dX2_rightHeavy_64 (lv_at hl 0 rfl) ?_
          obtain ⟨v13, ev13, hin, hf⟩ := ck_e hf
          refine x_iald hx hb hK hG 6 rfl ev13 hin dX2_rightHeavy_66 ?_
          obtain ⟨v14, ev14, hin, hf⟩ := ck_e hf
          refine x_iald hx hb hK hG 17 rfl ev14 hin dX2_rightHeavy_67 ?_
          exact L68 (f_X2_rightHeavy_21 uh n) ih  x3 x4 v10 v14 ur hf H locs ls hG (lv_sub hl [1, 2, 3, 0] rfl)
        · replace hf := if_t c12 hf
          refine lv_iconst (v := 0) hx hb dX2_rightHeavy_49 (by decide) ?_
          refine lv_goto (tgt := 68) hx hb dX2_rightHeavy_50 (by decide) ?_
          exact L68 (f_X2_rightHeavy_21 uh n) ih  x3 x4 v10 0 ur hf H locs ls hG (lv_sub hl [1, 2, 3, 0] rfl)
  unfold f_X2_rightHeavy at hf
  refine lv_aload_n hx hb dX2_rightHeavy_0 rfl (lv_at hl 0 rfl) ?_
  refine lv_aload_n hx hb dX2_rightHeavy_1 rfl (lv_at hl 0 rfl) ?_
  refine x_get (C := RX2) (T := TX2) (N := 6) (ci := 2) hx hb hts iX2 hown hK hG 13 rfl rfl 0 (by decide) k9 (v := .ref (a 0)) rfl dX2_rightHeavy_2 ?_
  refine x_get (C := RX0) (T := TX0) (N := 17) (ci := 0) hx hb hts iX0 hown hK hG 0 rfl rfl 5 (by decide) k39 (v := .ref (a 1)) rfl dX2_rightHeavy_5 ?_
  refine lv_iload_n hx hb dX2_rightHeavy_8 rfl (lv_at hl 1 rfl) ?_
  obtain ⟨v15, ev15, hin, hf⟩ := ck_e hf
  refine x_iald hx hb hK hG 1 rfl ev15 hin dX2_rightHeavy_9 ?_
  obtain ⟨r16, ur17, q18, hf⟩ := cl2_e hf
  refine x_callVi (pre := ([] : va_W)) (wc := WH κ a uh ++ (WR κ a ur)) (wc1 := WH κ a uh ++ (WR κ a ur17)) (post := ([] : va_W)) (As := [.int v15]) (rest := []) (w1 := WH κ a uh ++ (WR κ a ur17)) ⟨hx, hb, hml, hown, hts⟩ hK hG hA (by simp only [List.append_assoc, List.nil_append, List.append_nil]) (by simp only [List.append_assoc, List.nil_append, List.append_nil]) (c_X2_walk l D κ a H.size v15 uh ur r16 ur17 q18) (cwV 1 hts gX2_rightHeavy_X2_walk rfl rfl rfl (by decide +kernel) ⟨Nat.le_of_ble_eq_true rfl, Nat.le_of_ble_eq_true rfl⟩) 13 2 rfl rfl rfl rfl hl.1 rfl (Nat.le_of_ble_eq_true rfl) dX2_rightHeavy_10 ⟨Nat.zero_le _, Nat.zero_le _⟩ (fun H locs hG => ?_)
  refine lv_istore_n (lv' := [(2, .int r16), (0, .ref (a 13)), (1, .int p1)]) hx hb dX2_rightHeavy_13 rfl hl (by decide) rfl (fun ls hl => ?_)
  refine lv_iconst (v := 0) hx hb dX2_rightHeavy_14 (by decide) ?_
  refine lv_istore_n (lv' := [(3, .int 0), (2, .int r16), (0, .ref (a 13)), (1, .int p1)]) hx hb dX2_rightHeavy_15 rfl hl (by decide) rfl (fun ls hl => ?_)
  refine lv_iload_n hx hb dX2_rightHeavy_16 rfl (lv_at hl 1 rfl) ?_
  refine lv_iconst (v := 1) hx hb dX2_rightHeavy_17 (by decide) ?_
  refine lv_isub hx hb dX2_rightHeavy_18 ?_
  refine lv_topi (fun y19 ey19 => ?_)
  replace hf := bnd_at ey19 hf
  refine lv_istore (lv' := [(4, .int y19), (3, .int 0), (2, .int r16), (0, .ref (a 13)), (1, .int p1)]) hx hb dX2_rightHeavy_19 hl (by decide) rfl (fun ls hl => ?_)
  exact L21  FU 0 y19 ur17 hf H locs ls hG (lv_sub hl [3, 1, 0] rfl)
set_option maxRecDepth 100000 in
set_option maxHeartbeats 4000000 in
theorem c_X2_sumOfKeys (l : Launch) (D : va_G) (κ : Nat → ClassId) (a : Nat → Nat) (sz : Nat) (p1 : Int32) (uh : HS) (ur : RS) (r' : Int64)  (hf : f_X2_sumOfKeys p1 uh ur = some (r')) : Met l yX2_sumOfKeys wsX2_sumOfKeys ({ frames := 1, cells := 0, slots := 0, locals := 22 } : Room) (xPc D κ [.ref (a 13), .int p1] (WH κ a uh ++ (WR κ a ur)) sz) (xQl D κ r' (WH κ a uh ++ (WR κ a ur)) (va_A (WH κ a uh ++ (WR κ a ur)) sz)) 0 0 (va_A (WH κ a uh ++ (WR κ a ur)) sz) := by
  refine x_ofW (cc := cX2_sumOfKeys) (maxL := 5) (ret := (some .long)) (Qf := fun A => xQl D κ r' (WH κ a uh ++ (WR κ a ur)) A) (by decide) rfl (Nat.le_of_ble_eq_true rfl) ?_
  intro p e s m below meth c hx hb hr hlk hml hown hts hK A hA H locs hG ls hl
  have hown : s.vm.findClass RX2 = some m.cls := hown
  have hl : lv_has ls 5 [(0, .ref (a 13)), (1, .int p1)] := hl
  have iX0 : ∀ w ∈ u_ws RX0 TX0 17, w ∈ wsX2_sumOfKeys := fun _ h => List.mem_cons_of_mem _ (List.mem_append_right _ h)
  have iX2 : ∀ w ∈ u_ws RX2 TX2 6, w ∈ wsX2_sumOfKeys := fun _ h => List.mem_cons_of_mem _ (List.mem_append_left _ (List.mem_append_right _ h))
  have k55 := hts (.fieldLink RX2 55 "SpineDesks$Hall" "came" "I") (List.mem_of_getElem? (i := 2) rfl)
  have k80 := hts (.fieldLink RX2 80 "SpineDesks$Hall" "keyOf" "[J") (List.mem_of_getElem? (i := 3) rfl)
  have k9 := hts (.fieldLink RX2 9 "SpineDesks$Rows" "hall" "LSpineDesks$Hall;") (List.mem_of_getElem? (i := 1) rfl)
  have L45 : ∀ (rec5 : Int32 → Int64 → Int32 → Option (Int64)) (hr5 : ∀ (y1 : Int32) (y2 : Int64) (y4 : Int32), rec5 y1 y2 y4 = some (r') → ∀ (H : Heap) (locs : List Loc) (ls : Array Slot), xG D A s.heap (WH κ a uh ++ (WR κ a ur)) H locs → lv_has ls 5 [(0, .ref (a 13)), (1, .int y1), (2, .long y2), (4, .int y4)] → W p l e ({ frames := 1, cells := 0, slots := 0, locals := 22 } : Room) s m (([.ref (a 13), .int p1] : List Value).toArray) below meth c H locs 0 0 (MQ below (xQl D κ r' (WH κ a uh ++ (WR κ a ur)) A) (([.ref (a 13), .int p1] : List Value).toArray) s 0 0 A) (F0 m 5 ls [])), ∀ (x1 : Int32) (x4 : Int32) (s0 : Int64) (s1 : Int64), f_X2_sumOfKeys_45 uh ur rec5 x1 x4 s0 s1 = some (r') → ∀ (H : Heap) (locs : List Loc) (ls : Array Slot), xG D A s.heap (WH κ a uh ++ (WR κ a ur)) H locs → lv_has ls 5 [(0, .ref (a 13)), (1, .int x1), (4, .int x4)] → W p l e ({ frames := 1, cells := 0, slots := 0, locals := 22 } : Room) s m (([.ref (a 13), .int p1] : List Value).toArray) below meth c H locs 0 0 (MQ below (xQl D κ r' (WH κ a uh ++ (WR κ a ur)) A) (([.ref (a 13), .int p1] : List Value).toArray) s 0 0 A) (F0 m 45 ls [.long s1, .long s0]) := by
    intro rec5 hr5 x1 x4 s0 s1 hf H locs ls hG hl
    unfold f_X2_sumOfKeys_45 at hf
    refine lv_ladd hx hb dX2_sumOfKeys_45 ?_
    refine lv_topl (fun y1 ey1 => ?_)
    replace hf := bnd_at ey1 hf
    refine lv_lstore_n (lv' := [(2, .long y1), (0, .ref (a 13)), (1, .int x1), (4, .int x4)]) hx hb dX2_sumOfKeys_46 rfl hl (by decide) rfl (fun ls hl => ?_)
    obtain ⟨y2, ey2, hf⟩ := bnd_e hf
    refine lv_iinc (v := y2) (lv' := [(4, .int y2), (2, .long y1), (0, .ref (a 13)), (1, .int x1)]) hx hb dX2_sumOfKeys_47 hl (k := 3) rfl (by rw [ey2]; rfl) (by decide) rfl (fun ls hl => ?_)
    refine lv_goto (tgt := 5) hx hb dX2_sumOfKeys_50 (by decide) ?_
    exact hr5 x1 y1 y2 hf H locs ls hG (lv_sub hl [2, 3, 1, 0] rfl)
  have L5 : ∀ (n : Nat), ∀ (x1 : Int32) (x2 : Int64) (x4 : Int32), f_X2_sumOfKeys_5 uh ur n x1 x2 x4 = some (r') → ∀ (H : Heap) (locs : List Loc) (ls : Array Slot), xG D A s.heap (WH κ a uh ++ (WR κ a ur)) H locs → lv_has ls 5 [(0, .ref (a 13)), (1, .int x1), (2, .long x2), (4, .int x4)] → W p l e ({ frames := 1, cells := 0, slots := 0, locals := 22 } : Room) s m (([.ref (a 13), .int p1] : List Value).toArray) below meth c H locs 0 0 (MQ below (xQl D κ r' (WH κ a uh ++ (WR κ a ur)) A) (([.ref (a 13), .int p1] : List Value).toArray) s 0 0 A) (F0 m 5 ls []) := by
    intro  n
    induction n with
    | zero => intro x1 x2 x4 hf; cases hf
    | succ n ih =>
      intro x1 x2 x4 hf H locs ls hG hl
      replace hf : f_X2_sumOfKeys_B5 uh ur (f_X2_sumOfKeys_5 uh ur n) x1 x2 x4 = some (r') := hf
      unfold f_X2_sumOfKeys_B5 at hf
      refine lv_iload hx hb dX2_sumOfKeys_5 (lv_at hl 3 rfl) ?_
      refine lv_aload_n hx hb dX2_sumOfKeys_7 rfl (lv_at hl 0 rfl) ?_
      refine x_get (C := RX2) (T := TX2) (N := 6) (ci := 2) hx hb hts iX2 hown hK hG 13 rfl rfl 0 (by decide) k9 (v := .ref (a 0)) rfl dX2_sumOfKeys_8 ?_
      refine x_get (C := RX0) (T := TX0) (N := 17) (ci := 0) hx hb hts iX0 hown hK hG 0 rfl rfl 0 (by decide) k55 (v := .int (uh.came)) rfl dX2_sumOfKeys_11 ?_
      refine lv_icmp_ge (tgt := 53) hx hb dX2_sumOfKeys_14 (by decide) (fun c3 => ?_) (fun c3 => ?_)
      · replace hf := if_t c3 hf
        refine lv_lload_n hx hb dX2_sumOfKeys_53 rfl (lv_at hl 2 rfl) ?_
        have z0 := Option.some.inj hf
        exact x_lret hx hb hr hlk hK hG z0 rfl dX2_sumOfKeys_54
      · replace hf := if_f c3 hf
        refine lv_lload_n hx hb dX2_sumOfKeys_17 rfl (lv_at hl 2 rfl) ?_
        refine lv_aload_n hx hb dX2_sumOfKeys_18 rfl (lv_at hl 0 rfl) ?_
        refine x_get (C := RX2) (T := TX2) (N := 6) (ci := 2) hx hb hts iX2 hown hK hG 13 rfl rfl 0 (by decide) k9 (v := .ref (a 0)) rfl dX2_sumOfKeys_19 ?_
        refine lv_iload hx hb dX2_sumOfKeys_22 (lv_at hl 3 rfl) ?_
        refine lv_iload_n hx hb dX2_sumOfKeys_24 rfl (lv_at hl 1 rfl) ?_
        obtain ⟨r4, q5, hf⟩ := cl1_e hf
        refine x_callVi (pre := ([] : va_W)) (wc := WH κ a uh) (wc1 := WH κ a uh) (post := WR κ a ur) (As := [.int x4, .int x1]) (rest := [.long x2]) (w1 := WH κ a uh ++ (WR κ a ur)) ⟨hx, hb, hml, hown, hts⟩ hK hG hA (by simp only [List.append_assoc, List.nil_append, List.append_nil]) (by simp only [List.append_assoc, List.nil_append, List.append_nil]) (c_X0_isPlainIn l D κ a H.size x4 x1 uh r4 q5) (cwV 2 hts gX2_sumOfKeys_X0_isPlainIn rfl rfl rfl (by decide +kernel) ⟨Nat.le_of_ble_eq_true rfl, Nat.le_of_ble_eq_true rfl⟩) 0 0 rfl rfl rfl rfl hl.1 rfl (Nat.le_of_ble_eq_true rfl) dX2_sumOfKeys_25 ⟨Nat.zero_le _, Nat.zero_le _⟩ (fun H locs hG => ?_)
        refine lv_if_eq (tgt := 44) hx hb dX2_sumOfKeys_28 (by decide) (fun c6 => ?_) (fun c6 => ?_)
        · replace hf := if_t c6 hf
          refine lv_lconst (v := 0) hx hb dX2_sumOfKeys_44 (by decide) ?_
          exact L45 (f_X2_sumOfKeys_5 uh ur n) ih  x1 x4 x2 0 hf H locs ls hG (lv_sub hl [0, 1, 3] rfl)
        · replace hf := if_f c6 hf
          refine lv_aload_n hx hb dX2_sumOfKeys_31 rfl (lv_at hl 0 rfl) ?_
          refine x_get (C := RX2) (T := TX2) (N := 6) (ci := 2) hx hb hts iX2 hown hK hG 13 rfl rfl 0 (by decide) k9 (v := .ref (a 0)) rfl dX2_sumOfKeys_32 ?_
          refine x_get (C := RX0) (T := TX0) (N := 17) (ci := 0) hx hb hts iX0 hown hK hG 0 rfl rfl 6 (by decide) k80 (v := .ref (a 2)) rfl dX2_sumOfKeys_35 ?_
          refine lv_iload hx hb dX2_sumOfKeys_38 (lv_at hl 3 rfl) ?_
          obtain ⟨v7, ev7, hin, hf⟩ := ck_e hf
          refine x_lald hx hb hK hG 2 rfl ev7 hin dX2_sumOfKeys_40 ?_
          refine lv_goto (tgt := 45) hx hb dX2_sumOfKeys_41 (by decide) ?_
          exact L45 (f_X2_sumOfKeys_5 uh ur n) ih  x1 x4 x2 v7 hf H locs ls hG (lv_sub hl [0, 1, 3] rfl)
  unfold f_X2_sumOfKeys at hf
  refine lv_lconst (v := 0) hx hb dX2_sumOfKeys_0 (by decide) ?_
  refine lv_lstore_n (lv' := [(2, .long 0), (0, .ref (a 13)), (1, .int p1)]) hx hb dX2_sumOfKeys_1 rfl hl (by decide) rfl (fun ls hl => ?_)
  refine lv_iconst (v := 0) hx hb dX2_sumOfKeys_2 (by decide) ?_
  refine lv_istore (lv' := [(4, .int 0), (2, .long 0), (0, .ref (a 13)), (1, .int p1)]) hx hb dX2_sumOfKeys_3 hl (by decide) rfl (fun ls hl => ?_)
  exact L5  FU p1 0 0 hf H locs ls hG (lv_sub hl [2, 3, 1, 0] rfl)
set_option maxRecDepth 100000 in
set_option maxHeartbeats 4000000 in
theorem c_X2_pairSum (l : Launch) (D : va_G) (κ : Nat → ClassId) (a : Nat → Nat) (sz : Nat) (p1 : Int32) (uh : HS) (ur : RS) (r' : Int64)  (hf : f_X2_pairSum p1 uh ur = some (r')) : Met l yX2_pairSum wsX2_pairSum ({ frames := 0, cells := 0, slots := 0, locals := 0 } : Room) (xPc D κ [.ref (a 13), .int p1] (WH κ a uh ++ (WR κ a ur)) sz) (xQl D κ r' (WH κ a uh ++ (WR κ a ur)) (va_A (WH κ a uh ++ (WR κ a ur)) sz)) 0 0 (va_A (WH κ a uh ++ (WR κ a ur)) sz) := by
  refine x_ofW (cc := cX2_pairSum) (maxL := 2) (ret := (some .long)) (Qf := fun A => xQl D κ r' (WH κ a uh ++ (WR κ a ur)) A) (by decide) rfl (Nat.le_of_ble_eq_true rfl) ?_
  intro p e s m below meth c hx hb hr hlk hml hown hts hK A hA H locs hG ls hl
  have hown : s.vm.findClass RX2 = some m.cls := hown
  have hl : lv_has ls 2 [(0, .ref (a 13)), (1, .int p1)] := hl
  have iX0 : ∀ w ∈ u_ws RX0 TX0 17, w ∈ wsX2_pairSum := fun _ h => List.mem_cons_of_mem _ (List.mem_append_right _ h)
  have iX2 : ∀ w ∈ u_ws RX2 TX2 6, w ∈ wsX2_pairSum := fun _ h => List.mem_cons_of_mem _ (List.mem_append_left _ (List.mem_append_right _ h))
  have k15 := hts (.fieldLink RX2 15 "SpineDesks$Rows" "one" "[I") (List.mem_of_getElem? (i := 3) rfl)
  have k19 := hts (.fieldLink RX2 19 "SpineDesks$Rows" "two" "[I") (List.mem_of_getElem? (i := 4) rfl)
  have k28 := hts (.fieldLink RX2 28 "SpineDesks$Rows" "nextOf" "[I") (List.mem_of_getElem? (i := 5) rfl)
  have k80 := hts (.fieldLink RX2 80 "SpineDesks$Hall" "keyOf" "[J") (List.mem_of_getElem? (i := 2) rfl)
  have k9 := hts (.fieldLink RX2 9 "SpineDesks$Rows" "hall" "LSpineDesks$Hall;") (List.mem_of_getElem? (i := 1) rfl)
  unfold f_X2_pairSum at hf
  refine lv_aload_n hx hb dX2_pairSum_0 rfl (lv_at hl 0 rfl) ?_
  refine x_get (C := RX2) (T := TX2) (N := 6) (ci := 2) hx hb hts iX2 hown hK hG 13 rfl rfl 0 (by decide) k9 (v := .ref (a 0)) rfl dX2_pairSum_1 ?_
  refine x_get (C := RX0) (T := TX0) (N := 17) (ci := 0) hx hb hts iX0 hown hK hG 0 rfl rfl 6 (by decide) k80 (v := .ref (a 2)) rfl dX2_pairSum_4 ?_
  refine lv_aload_n hx hb dX2_pairSum_7 rfl (lv_at hl 0 rfl) ?_
  refine x_get (C := RX2) (T := TX2) (N := 6) (ci := 2) hx hb hts iX2 hown hK hG 13 rfl rfl 1 (by decide) k15 (v := .ref (a 14)) rfl dX2_pairSum_8 ?_
  refine lv_iload_n hx hb dX2_pairSum_11 rfl (lv_at hl 1 rfl) ?_
  obtain ⟨v1, ev1, hin, hf⟩ := ck_e hf
  refine x_iald hx hb hK hG 14 rfl ev1 hin dX2_pairSum_12 ?_
  obtain ⟨v2, ev2, hin, hf⟩ := ck_e hf
  refine x_lald hx hb hK hG 2 rfl ev2 hin dX2_pairSum_13 ?_
  refine lv_aload_n hx hb dX2_pairSum_14 rfl (lv_at hl 0 rfl) ?_
  refine x_get (C := RX2) (T := TX2) (N := 6) (ci := 2) hx hb hts iX2 hown hK hG 13 rfl rfl 0 (by decide) k9 (v := .ref (a 0)) rfl dX2_pairSum_15 ?_
  refine x_get (C := RX0) (T := TX0) (N := 17) (ci := 0) hx hb hts iX0 hown hK hG 0 rfl rfl 6 (by decide) k80 (v := .ref (a 2)) rfl dX2_pairSum_18 ?_
  refine lv_aload_n hx hb dX2_pairSum_21 rfl (lv_at hl 0 rfl) ?_
  refine x_get (C := RX2) (T := TX2) (N := 6) (ci := 2) hx hb hts iX2 hown hK hG 13 rfl rfl 2 (by decide) k19 (v := .ref (a 15)) rfl dX2_pairSum_22 ?_
  refine lv_aload_n hx hb dX2_pairSum_25 rfl (lv_at hl 0 rfl) ?_
  refine x_get (C := RX2) (T := TX2) (N := 6) (ci := 2) hx hb hts iX2 hown hK hG 13 rfl rfl 5 (by decide) k28 (v := .ref (a 18)) rfl dX2_pairSum_26 ?_
  refine lv_iload_n hx hb dX2_pairSum_29 rfl (lv_at hl 1 rfl) ?_
  obtain ⟨v3, ev3, hin, hf⟩ := ck_e hf
  refine x_iald hx hb hK hG 18 rfl ev3 hin dX2_pairSum_30 ?_
  obtain ⟨v4, ev4, hin, hf⟩ := ck_e hf
  refine x_iald hx hb hK hG 15 rfl ev4 hin dX2_pairSum_31 ?_
  obtain ⟨v5, ev5, hin, hf⟩ := ck_e hf
  refine x_lald hx hb hK hG 2 rfl ev5 hin dX2_pairSum_32 ?_
  refine lv_ladd hx hb dX2_pairSum_33 ?_
  have z0 := Option.some.inj hf
  exact x_lret hx hb hr hlk hK hG z0 rfl dX2_pairSum_34
set_option maxRecDepth 100000 in
set_option maxHeartbeats 4000000 in
theorem c_X2_gatherRow (l : Launch) (D : va_G) (κ : Nat → ClassId) (a : Nat → Nat) (sz : Nat) (p1 : Int32) (uh : HS) (ur : RS) (r' : Int32) (uh' : HS) (ur' : RS) (hf : f_X2_gatherRow p1 uh ur = some (r', uh', ur')) : Met l yX2_gatherRow wsX2_gatherRow ({ frames := 2, cells := 0, slots := 0, locals := 52 } : Room) (xPc D κ [.ref (a 13), .int p1] (WH κ a uh ++ (WR κ a ur)) sz) (xQi D κ r' (WH κ a uh' ++ (WR κ a ur')) (va_A (WH κ a uh ++ (WR κ a ur)) sz)) 0 0 (va_A (WH κ a uh ++ (WR κ a ur)) sz) := by
  refine x_ofW (cc := cX2_gatherRow) (maxL := 5) (ret := (some .int)) (Qf := fun A => xQi D κ r' (WH κ a uh' ++ (WR κ a ur')) A) (by decide) rfl (Nat.le_of_ble_eq_true rfl) ?_
  intro p e s m below meth c hx hb hr hlk hml hown hts hK A hA H locs hG ls hl
  have hown : s.vm.findClass RX2 = some m.cls := hown
  have hl : lv_has ls 5 [(0, .ref (a 13)), (1, .int p1)] := hl
  have iX2 : ∀ w ∈ u_ws RX2 TX2 6, w ∈ wsX2_gatherRow := fun _ h => List.mem_cons_of_mem _ (List.mem_append_left _ (List.mem_append_right _ h))
  have k22 := hts (.fieldLink RX2 22 "SpineDesks$Rows" "stack" "[I") (List.mem_of_getElem? (i := 2) rfl)
  have k9 := hts (.fieldLink RX2 9 "SpineDesks$Rows" "hall" "LSpineDesks$Hall;") (List.mem_of_getElem? (i := 1) rfl)
  have L4 : ∀ (n : Nat), ∀ (x1 : Int32) (x2 : Int32) (x3 : Int32) (uh : HS) (ur : RS), f_X2_gatherRow_4 n x1 x2 x3 uh ur = some (r', uh', ur') → ∀ (H : Heap) (locs : List Loc) (ls : Array Slot), xG D A s.heap (WH κ a uh ++ (WR κ a ur)) H locs → lv_has ls 5 [(0, .ref (a 13)), (1, .int x1), (2, .int x2), (3, .int x3)] → W p l e ({ frames := 2, cells := 0, slots := 0, locals := 52 } : Room) s m (([.ref (a 13), .int p1] : List Value).toArray) below meth c H locs 0 0 (MQ below (xQi D κ r' (WH κ a uh' ++ (WR κ a ur')) A) (([.ref (a 13), .int p1] : List Value).toArray) s 0 0 A) (F0 m 4 ls []) := by
    intro  n
    induction n with
    | zero => intro x1 x2 x3 uh ur hf; cases hf
    | succ n ih =>
      intro x1 x2 x3 uh ur hf H locs ls hG hl
      replace hf : f_X2_gatherRow_B4 (f_X2_gatherRow_4 n) x1 x2 x3 uh ur = some (r', uh', ur') := hf
      unfold f_X2_gatherRow_B4 at hf
      refine lv_iload_n hx hb dX2_gatherRow_4 rfl (lv_at hl 3 rfl) ?_
      refine lv_iconst (v := 1) hx hb dX2_gatherRow_5 (by decide) ?_
      refine lv_icmp_le (tgt := 64) hx hb dX2_gatherRow_6 (by decide) (fun c1 => ?_) (fun c1 => ?_)
      · replace hf := if_t c1 hf
        refine lv_iload_n hx hb dX2_gatherRow_64 rfl (lv_at hl 1 rfl) ?_
        refine lv_if_le (tgt := 77) hx hb dX2_gatherRow_65 (by decide) (fun c2 => ?_) (fun c2 => ?_)
        · replace hf := if_t c2 hf
          refine lv_iconst (v := (-1)) hx hb dX2_gatherRow_77 (by decide) ?_
          have hz := Option.some.inj hf
          have z0 := (Prod.mk.inj hz).1
          replace hz := (Prod.mk.inj hz).2
          have z1 := (Prod.mk.inj hz).1
          replace hz := (Prod.mk.inj hz).2
          have z2 := hz
          exact x_iret hx hb hr hlk hK hG z0 (by rw [z1, z2]) dX2_gatherRow_78
        · replace hf := if_f c2 hf
          refine lv_aload_n hx hb dX2_gatherRow_68 rfl (lv_at hl 0 rfl) ?_
          refine x_get (C := RX2) (T := TX2) (N := 6) (ci := 2) hx hb hts iX2 hown hK hG 13 rfl rfl 3 (by decide) k22 (v := .ref (a 16)) rfl dX2_gatherRow_69 ?_
          refine lv_iload_n hx hb dX2_gatherRow_72 rfl (lv_at hl 2 rfl) ?_
          obtain ⟨v3, ev3, hin, hf⟩ := ck_e hf
          refine x_iald hx hb hK hG 16 rfl ev3 hin dX2_gatherRow_73 ?_
          refine lv_goto (tgt := 78) hx hb dX2_gatherRow_74 (by decide) ?_
          have hz := Option.some.inj hf
          have z0 := (Prod.mk.inj hz).1
          replace hz := (Prod.mk.inj hz).2
          have z1 := (Prod.mk.inj hz).1
          replace hz := (Prod.mk.inj hz).2
          have z2 := hz
          exact x_iret hx hb hr hlk hK hG z0 (by rw [z1, z2]) dX2_gatherRow_78
      · replace hf := if_f c1 hf
        refine lv_aload_n hx hb dX2_gatherRow_9 rfl (lv_at hl 0 rfl) ?_
        refine x_get (C := RX2) (T := TX2) (N := 6) (ci := 2) hx hb hts iX2 hown hK hG 13 rfl rfl 0 (by decide) k9 (v := .ref (a 0)) rfl dX2_gatherRow_10 ?_
        refine lv_aload_n hx hb dX2_gatherRow_13 rfl (lv_at hl 0 rfl) ?_
        refine x_get (C := RX2) (T := TX2) (N := 6) (ci := 2) hx hb hts iX2 hown hK hG 13 rfl rfl 3 (by decide) k22 (v := .ref (a 16)) rfl dX2_gatherRow_14 ?_
        refine lv_iload_n hx hb dX2_gatherRow_17 rfl (lv_at hl 2 rfl) ?_
        obtain ⟨v4, ev4, hin, hf⟩ := ck_e hf
        refine x_iald hx hb hK hG 16 rfl ev4 hin dX2_gatherRow_18 ?_
        refine lv_aload_n hx hb dX2_gatherRow_19 rfl (lv_at hl 0 rfl) ?_
        refine x_get (C := RX2) (T := TX2) (N := 6) (ci := 2) hx hb hts iX2 hown hK hG 13 rfl rfl 3 (by decide) k22 (v := .ref (a 16)) rfl dX2_gatherRow_20 ?_
        refine lv_iload_n hx hb dX2_gatherRow_23 rfl (lv_at hl 2 rfl) ?_
        refine lv_iconst (v := 1) hx hb dX2_gatherRow_24 (by decide) ?_
        refine lv_iadd hx hb dX2_gatherRow_25 ?_
        refine lv_sipush (v := 300) hx hb dX2_gatherRow_26 (by decide) ?_
        refine lv_irem hx hb dX2_gatherRow_29 (by decide) ?_
        obtain ⟨v5, ev5, hin, hf⟩ := ck_e hf
        refine x_iald hx hb hK hG 16 rfl ev5 hin dX2_gatherRow_30 ?_
        obtain ⟨r6, uh7, q8, hf⟩ := cl2_e hf
        refine x_callVi (pre := ([] : va_W)) (wc := WH κ a uh) (wc1 := WH κ a uh7) (post := WR κ a ur) (As := [.int v4, .int v5]) (rest := []) (w1 := WH κ a uh7 ++ (WR κ a ur)) ⟨hx, hb, hml, hown, hts⟩ hK hG hA (by simp only [List.append_assoc, List.nil_append, List.append_nil]) (by simp only [List.append_assoc, List.nil_append, List.append_nil]) (c_X0_join l D κ a H.size v4 v5 uh r6 uh7 q8) (cwV 2 hts gX2_gatherRow_X0_join rfl rfl rfl (by decide +kernel) ⟨Nat.le_of_ble_eq_true rfl, Nat.le_of_ble_eq_true rfl⟩) 0 0 rfl rfl rfl rfl hl.1 rfl (Nat.le_of_ble_eq_true rfl) dX2_gatherRow_31 ⟨Nat.zero_le _, Nat.zero_le _⟩ (fun H locs hG => ?_)
        refine lv_istore (lv' := [(4, .int r6), (0, .ref (a 13)), (1, .int x1), (2, .int x2), (3, .int x3)]) hx hb dX2_gatherRow_34 hl (by decide) rfl (fun ls hl => ?_)
        refine lv_aload_n hx hb dX2_gatherRow_36 rfl (lv_at hl 1 rfl) ?_
        refine x_get (C := RX2) (T := TX2) (N := 6) (ci := 2) hx hb hts iX2 hown hK hG 13 rfl rfl 3 (by decide) k22 (v := .ref (a 16)) rfl dX2_gatherRow_37 ?_
        refine lv_iload_n hx hb dX2_gatherRow_40 rfl (lv_at hl 3 rfl) ?_
        refine lv_iload_n hx hb dX2_gatherRow_41 rfl (lv_at hl 4 rfl) ?_
        refine lv_iadd hx hb dX2_gatherRow_42 ?_
        refine lv_sipush (v := 300) hx hb dX2_gatherRow_43 (by decide) ?_
        refine lv_irem hx hb dX2_gatherRow_46 (by decide) ?_
        refine lv_iload hx hb dX2_gatherRow_47 (lv_at hl 0 rfl) ?_
        obtain ⟨ur9, eur9, hin, hf⟩ := ck_e hf
        refine x_iast hx hb hK hG 16 rfl (w1 := WH κ a uh7 ++ (WR κ a ur9)) (by rw [eur9]; rfl) hin dX2_gatherRow_49 (fun H locs hG => ?_)
        refine lv_iload_n hx hb dX2_gatherRow_50 rfl (lv_at hl 3 rfl) ?_
        refine lv_iconst (v := 2) hx hb dX2_gatherRow_51 (by decide) ?_
        refine lv_iadd hx hb dX2_gatherRow_52 ?_
        refine lv_sipush (v := 300) hx hb dX2_gatherRow_53 (by decide) ?_
        refine lv_irem hx hb dX2_gatherRow_56 (by decide) ?_
        refine lv_topi (fun y10 ey10 => ?_)
        replace hf := bnd_at ey10 hf
        refine lv_istore_n (lv' := [(2, .int y10), (4, .int r6), (0, .ref (a 13)), (1, .int x1), (3, .int x3)]) hx hb dX2_gatherRow_57 rfl hl (by decide) rfl (fun ls hl => ?_)
        obtain ⟨y11, ey11, hf⟩ := bnd_e hf
        refine lv_iinc (v := y11) (lv' := [(3, .int y11), (2, .int y10), (4, .int r6), (0, .ref (a 13)), (1, .int x1)]) hx hb dX2_gatherRow_58 hl (k := 4) rfl (by rw [ey11]; rfl) (by decide) rfl (fun ls hl => ?_)
        refine lv_goto (tgt := 4) hx hb dX2_gatherRow_61 (by decide) ?_
        exact ih x1 y10 y11 uh7 ur9 hf H locs ls hG (lv_sub hl [3, 4, 1, 0] rfl)
  unfold f_X2_gatherRow at hf
  refine lv_iconst (v := 0) hx hb dX2_gatherRow_0 (by decide) ?_
  refine lv_istore_n (lv' := [(2, .int 0), (0, .ref (a 13)), (1, .int p1)]) hx hb dX2_gatherRow_1 rfl hl (by decide) rfl (fun ls hl => ?_)
  refine lv_iload_n hx hb dX2_gatherRow_2 rfl (lv_at hl 2 rfl) ?_
  refine lv_istore_n (lv' := [(3, .int p1), (2, .int 0), (0, .ref (a 13)), (1, .int p1)]) hx hb dX2_gatherRow_3 rfl hl (by decide) rfl (fun ls hl => ?_)
  exact L4  FU p1 0 p1 uh ur hf H locs ls hG (lv_sub hl [2, 3, 1, 0] rfl)
set_option maxRecDepth 100000 in
set_option maxHeartbeats 4000000 in
theorem c_X2_gatherDesks (l : Launch) (D : va_G) (κ : Nat → ClassId) (a : Nat → Nat) (sz : Nat) (p1 : Int32) (uh : HS) (ur : RS) (r' : Int32) (uh' : HS) (ur' : RS) (hf : f_X2_gatherDesks p1 uh ur = some (r', uh', ur')) : Met l yX2_gatherDesks wsX2_gatherDesks ({ frames := 3, cells := 0, slots := 0, locals := 76 } : Room) (xPc D κ [.ref (a 13), .int p1] (WH κ a uh ++ (WR κ a ur)) sz) (xQi D κ r' (WH κ a uh' ++ (WR κ a ur')) (va_A (WH κ a uh ++ (WR κ a ur)) sz)) 0 0 (va_A (WH κ a uh ++ (WR κ a ur)) sz) := by
  refine x_ofW (cc := cX2_gatherDesks) (maxL := 4) (ret := (some .boolean)) (Qf := fun A => xQi D κ r' (WH κ a uh' ++ (WR κ a ur')) A) (by decide) rfl (Nat.le_of_ble_eq_true rfl) ?_
  intro p e s m below meth c hx hb hr hlk hml hown hts hK A hA H locs hG ls hl
  have hown : s.vm.findClass RX2 = some m.cls := hown
  have hl : lv_has ls 4 [(0, .ref (a 13)), (1, .int p1)] := hl
  have iX0 : ∀ w ∈ u_ws RX0 TX0 17, w ∈ wsX2_gatherDesks := fun _ h => List.mem_cons_of_mem _ (List.mem_append_right _ h)
  have iX2 : ∀ w ∈ u_ws RX2 TX2 6, w ∈ wsX2_gatherDesks := fun _ h => List.mem_cons_of_mem _ (List.mem_append_left _ (List.mem_append_right _ h))
  have k22 := hts (.fieldLink RX2 22 "SpineDesks$Rows" "stack" "[I") (List.mem_of_getElem? (i := 3) rfl)
  have k39 := hts (.fieldLink RX2 39 "SpineDesks$Hall" "root" "[I") (List.mem_of_getElem? (i := 2) rfl)
  have k9 := hts (.fieldLink RX2 9 "SpineDesks$Rows" "hall" "LSpineDesks$Hall;") (List.mem_of_getElem? (i := 1) rfl)
  have L80 : ∀ (n : Nat), ∀ (x1 : Int32) (x3 : Int32) (uh : HS) (ur : RS), f_X2_gatherDesks_80 n x1 x3 uh ur = some (r', uh', ur') → ∀ (H : Heap) (locs : List Loc) (ls : Array Slot), xG D A s.heap (WH κ a uh ++ (WR κ a ur)) H locs → lv_has ls 4 [(0, .ref (a 13)), (1, .int x1), (3, .int x3)] → W p l e ({ frames := 3, cells := 0, slots := 0, locals := 76 } : Room) s m (([.ref (a 13), .int p1] : List Value).toArray) below meth c H locs 0 0 (MQ below (xQi D κ r' (WH κ a uh' ++ (WR κ a ur')) A) (([.ref (a 13), .int p1] : List Value).toArray) s 0 0 A) (F0 m 80 ls []) := by
    intro  n
    induction n with
    | zero => intro x1 x3 uh ur hf; cases hf
    | succ n ih =>
      intro x1 x3 uh ur hf H locs ls hG hl
      replace hf : f_X2_gatherDesks_B80 (f_X2_gatherDesks_80 n) x1 x3 uh ur = some (r', uh', ur') := hf
      unfold f_X2_gatherDesks_B80 at hf
      refine lv_iload_n hx hb dX2_gatherDesks_80 rfl (lv_at hl 2 rfl) ?_
      refine lv_bipush (v := 6) hx hb dX2_gatherDesks_81 (by decide) ?_
      refine lv_icmp_ge (tgt := 101) hx hb dX2_gatherDesks_83 (by decide) (fun c1 => ?_) (fun c1 => ?_)
      · replace hf := if_t c1 hf
        refine lv_iconst (v := 1) hx hb dX2_gatherDesks_101 (by decide) ?_
        have hz := Option.some.inj hf
        have z0 := (Prod.mk.inj hz).1
        replace hz := (Prod.mk.inj hz).2
        have z1 := (Prod.mk.inj hz).1
        replace hz := (Prod.mk.inj hz).2
        have z2 := hz
        exact x_zret hx hb hr hlk hK hG (by decide) z0 (by rw [z1, z2]) dX2_gatherDesks_102
      · replace hf := if_f c1 hf
        refine lv_aload_n hx hb dX2_gatherDesks_86 rfl (lv_at hl 0 rfl) ?_
        refine x_get (C := RX2) (T := TX2) (N := 6) (ci := 2) hx hb hts iX2 hown hK hG 13 rfl rfl 0 (by decide) k9 (v := .ref (a 0)) rfl dX2_gatherDesks_87 ?_
        refine lv_iload_n hx hb dX2_gatherDesks_90 rfl (lv_at hl 2 rfl) ?_
        refine lv_iload_n hx hb dX2_gatherDesks_91 rfl (lv_at hl 1 rfl) ?_
        obtain ⟨uh2, q3, hf⟩ := cl1_e hf
        refine x_callVv (pre := ([] : va_W)) (wc := WH κ a uh) (wc1 := WH κ a uh2) (post := WR κ a ur) (As := [.int x3, .int x1]) (rest := []) (w1 := WH κ a uh2 ++ (WR κ a ur)) ⟨hx, hb, hml, hown, hts⟩ hK hG hA (by simp only [List.append_assoc, List.nil_append, List.append_nil]) (by simp only [List.append_assoc, List.nil_append, List.append_nil]) (c_X0_relabel l D κ a H.size x3 x1 uh uh2 q3) (cwV 2 hts gX2_gatherDesks_X0_relabel rfl rfl rfl (by decide +kernel) ⟨Nat.le_of_ble_eq_true rfl, Nat.le_of_ble_eq_true rfl⟩) 0 0 rfl rfl rfl rfl hl.1 rfl (Nat.le_of_ble_eq_true rfl) dX2_gatherDesks_92 ⟨Nat.zero_le _, Nat.zero_le _⟩ (fun H locs hG => ?_)
        obtain ⟨y4, ey4, hf⟩ := bnd_e hf
        refine lv_iinc (v := y4) (lv' := [(3, .int y4), (0, .ref (a 13)), (1, .int x1)]) hx hb dX2_gatherDesks_95 hl (k := 2) rfl (by rw [ey4]; rfl) (by decide) rfl (fun ls hl => ?_)
        refine lv_goto (tgt := 80) hx hb dX2_gatherDesks_98 (by decide) ?_
        exact ih x1 y4 uh2 ur hf H locs ls hG (lv_sub hl [1, 2, 0] rfl)
  have L41 : ∀ (rec4 : Int32 → Int32 → Int32 → HS → RS → Option (Int32 × HS × RS)) (hr4 : ∀ (y1 : Int32) (y2 : Int32) (y3 : Int32) (uh : HS) (ur : RS), rec4 y1 y2 y3 uh ur = some (r', uh', ur') → ∀ (H : Heap) (locs : List Loc) (ls : Array Slot), xG D A s.heap (WH κ a uh ++ (WR κ a ur)) H locs → lv_has ls 4 [(0, .ref (a 13)), (1, .int y1), (2, .int y2), (3, .int y3)] → W p l e ({ frames := 3, cells := 0, slots := 0, locals := 76 } : Room) s m (([.ref (a 13), .int p1] : List Value).toArray) below meth c H locs 0 0 (MQ below (xQi D κ r' (WH κ a uh' ++ (WR κ a ur')) A) (([.ref (a 13), .int p1] : List Value).toArray) s 0 0 A) (F0 m 4 ls [])), ∀ (x1 : Int32) (x2 : Int32) (x3 : Int32) (uh : HS) (ur : RS), f_X2_gatherDesks_41 rec4 x1 x2 x3 uh ur = some (r', uh', ur') → ∀ (H : Heap) (locs : List Loc) (ls : Array Slot), xG D A s.heap (WH κ a uh ++ (WR κ a ur)) H locs → lv_has ls 4 [(0, .ref (a 13)), (1, .int x1), (2, .int x2), (3, .int x3)] → W p l e ({ frames := 3, cells := 0, slots := 0, locals := 76 } : Room) s m (([.ref (a 13), .int p1] : List Value).toArray) below meth c H locs 0 0 (MQ below (xQi D κ r' (WH κ a uh' ++ (WR κ a ur')) A) (([.ref (a 13), .int p1] : List Value).toArray) s 0 0 A) (F0 m 41 ls []) := by
    intro rec4 hr4 x1 x2 x3 uh ur hf H locs ls hG hl
    unfold f_X2_gatherDesks_41 at hf
    obtain ⟨y5, ey5, hf⟩ := bnd_e hf
    refine lv_iinc (v := y5) (lv' := [(3, .int y5), (0, .ref (a 13)), (1, .int x1), (2, .int x2)]) hx hb dX2_gatherDesks_41 hl (k := 3) rfl (by rw [ey5]; rfl) (by decide) rfl (fun ls hl => ?_)
    refine lv_goto (tgt := 4) hx hb dX2_gatherDesks_44 (by decide) ?_
    exact hr4 x1 x2 y5 uh ur hf H locs ls hG (lv_sub hl [1, 2, 3, 0] rfl)
  have L4 : ∀ (n : Nat), ∀ (x1 : Int32) (x2 : Int32) (x3 : Int32) (uh : HS) (ur : RS), f_X2_gatherDesks_4 n x1 x2 x3 uh ur = some (r', uh', ur') → ∀ (H : Heap) (locs : List Loc) (ls : Array Slot), xG D A s.heap (WH κ a uh ++ (WR κ a ur)) H locs → lv_has ls 4 [(0, .ref (a 13)), (1, .int x1), (2, .int x2), (3, .int x3)] → W p l e ({ frames := 3, cells := 0, slots := 0, locals := 76 } : Room) s m (([.ref (a 13), .int p1] : List Value).toArray) below meth c H locs 0 0 (MQ below (xQi D κ r' (WH κ a uh' ++ (WR κ a ur')) A) (([.ref (a 13), .int p1] : List Value).toArray) s 0 0 A) (F0 m 4 ls []) := by
    intro  n
    induction n with
    | zero => intro x1 x2 x3 uh ur hf; cases hf
    | succ n ih =>
      intro x1 x2 x3 uh ur hf H locs ls hG hl
      replace hf : f_X2_gatherDesks_B4 (f_X2_gatherDesks_4 n) x1 x2 x3 uh ur = some (r', uh', ur') := hf
      unfold f_X2_gatherDesks_B4 at hf
      refine lv_iload_n hx hb dX2_gatherDesks_4 rfl (lv_at hl 3 rfl) ?_
      refine lv_bipush (v := 6) hx hb dX2_gatherDesks_5 (by decide) ?_
      refine lv_icmp_ge (tgt := 47) hx hb dX2_gatherDesks_7 (by decide) (fun c6 => ?_) (fun c6 => ?_)
      · replace hf := if_t c6 hf
        refine lv_iload_n hx hb dX2_gatherDesks_47 rfl (lv_at hl 2 rfl) ?_
        refine lv_if_ne (tgt := 53) hx hb dX2_gatherDesks_48 (by decide) (fun c7 => ?_) (fun c7 => ?_)
        · replace hf := if_f c7 hf
          refine lv_aload_n hx hb dX2_gatherDesks_53 rfl (lv_at hl 0 rfl) ?_
          refine x_get (C := RX2) (T := TX2) (N := 6) (ci := 2) hx hb hts iX2 hown hK hG 13 rfl rfl 0 (by decide) k9 (v := .ref (a 0)) rfl dX2_gatherDesks_54 ?_
          refine x_get (C := RX0) (T := TX0) (N := 17) (ci := 0) hx hb hts iX0 hown hK hG 0 rfl rfl 5 (by decide) k39 (v := .ref (a 1)) rfl dX2_gatherDesks_57 ?_
          refine lv_iconst (v := (-1)) hx hb dX2_gatherDesks_60 (by decide) ?_
          obtain ⟨uh8, q9, hf⟩ := cl1_e hf
          refine x_callSv (pre := ([] : va_W)) (wc := WH κ a uh) (wc1 := WH κ a uh8) (post := WR κ a ur) (As := [.ref (a 1), .int ((-1))]) (rest := []) (w1 := WH κ a uh8 ++ (WR κ a ur)) ⟨hx, hb, hml, hown, hts⟩ hK hG hA (by simp only [List.append_assoc, List.nil_append, List.append_nil]) (by simp only [List.append_assoc, List.nil_append, List.append_nil]) (c_fill_root l D κ a H.size ((-1)) uh uh8 q9) (va_cwS 2 hts gX2_gatherDesks_J7_fill_53178 rfl rfl rfl (by decide +kernel) ⟨Nat.le_of_ble_eq_true rfl, Nat.le_of_ble_eq_true rfl⟩) rfl hl.1 rfl (Nat.le_of_ble_eq_true rfl) dX2_gatherDesks_61 ⟨Nat.zero_le _, Nat.zero_le _⟩ (fun H locs hG => ?_)
          refine lv_aload_n hx hb dX2_gatherDesks_64 rfl (lv_at hl 0 rfl) ?_
          refine x_get (C := RX2) (T := TX2) (N := 6) (ci := 2) hx hb hts iX2 hown hK hG 13 rfl rfl 0 (by decide) k9 (v := .ref (a 0)) rfl dX2_gatherDesks_65 ?_
          refine x_get (C := RX0) (T := TX0) (N := 17) (ci := 0) hx hb hts iX0 hown hK hG 0 rfl rfl 5 (by decide) k39 (v := .ref (a 1)) rfl dX2_gatherDesks_68 ?_
          refine lv_iload_n hx hb dX2_gatherDesks_71 rfl (lv_at hl 1 rfl) ?_
          refine lv_aload_n hx hb dX2_gatherDesks_72 rfl (lv_at hl 0 rfl) ?_
          refine lv_iload_n hx hb dX2_gatherDesks_73 rfl (lv_at hl 2 rfl) ?_
          obtain ⟨r10, uh11, ur12, q13, hf⟩ := cl3_e hf
          refine x_callVi (pre := ([] : va_W)) (wc := WH κ a uh8 ++ (WR κ a ur)) (wc1 := WH κ a uh11 ++ (WR κ a ur12)) (post := ([] : va_W)) (As := [.int x2]) (rest := [.int x1, .ref (a 1)]) (w1 := WH κ a uh11 ++ (WR κ a ur12)) ⟨hx, hb, hml, hown, hts⟩ hK hG hA (by simp only [List.append_assoc, List.nil_append, List.append_nil]) (by simp only [List.append_assoc, List.nil_append, List.append_nil]) (c_X2_gatherRow l D κ a H.size x2 uh8 ur r10 uh11 ur12 q13) (cwV 1 hts gX2_gatherDesks_X2_gatherRow rfl rfl rfl (by decide +kernel) ⟨Nat.le_of_ble_eq_true rfl, Nat.le_of_ble_eq_true rfl⟩) 13 2 rfl rfl rfl rfl hl.1 rfl (Nat.le_of_ble_eq_true rfl) dX2_gatherDesks_74 ⟨Nat.zero_le _, Nat.zero_le _⟩ (fun H locs hG => ?_)
          obtain ⟨uh14, euh14, hin, hf⟩ := ck_e hf
          refine x_iast hx hb hK hG 1 rfl (w1 := WH κ a uh14 ++ (WR κ a ur12)) (by rw [euh14]; rfl) hin dX2_gatherDesks_77 (fun H locs hG => ?_)
          refine lv_iconst (v := 0) hx hb dX2_gatherDesks_78 (by decide) ?_
          refine lv_istore_n (lv' := [(3, .int 0), (0, .ref (a 13)), (1, .int x1), (2, .int x2)]) hx hb dX2_gatherDesks_79 rfl hl (by decide) rfl (fun ls hl => ?_)
          exact L80  FU x1 0 uh14 ur12 hf H locs ls hG (lv_sub hl [1, 2, 0] rfl)
        · replace hf := if_t c7 hf
          refine lv_iconst (v := 0) hx hb dX2_gatherDesks_51 (by decide) ?_
          have hz := Option.some.inj hf
          have z0 := (Prod.mk.inj hz).1
          replace hz := (Prod.mk.inj hz).2
          have z1 := (Prod.mk.inj hz).1
          replace hz := (Prod.mk.inj hz).2
          have z2 := hz
          exact x_zret hx hb hr hlk hK hG (by decide) z0 (by rw [z1, z2]) dX2_gatherDesks_52
      · replace hf := if_f c6 hf
        refine lv_aload_n hx hb dX2_gatherDesks_10 rfl (lv_at hl 0 rfl) ?_
        refine x_get (C := RX2) (T := TX2) (N := 6) (ci := 2) hx hb hts iX2 hown hK hG 13 rfl rfl 0 (by decide) k9 (v := .ref (a 0)) rfl dX2_gatherDesks_11 ?_
        refine x_get (C := RX0) (T := TX0) (N := 17) (ci := 0) hx hb hts iX0 hown hK hG 0 rfl rfl 5 (by decide) k39 (v := .ref (a 1)) rfl dX2_gatherDesks_14 ?_
        refine lv_iload_n hx hb dX2_gatherDesks_17 rfl (lv_at hl 3 rfl) ?_
        obtain ⟨v15, ev15, hin, hf⟩ := ck_e hf
        refine x_iald hx hb hK hG 1 rfl ev15 hin dX2_gatherDesks_18 ?_
        refine lv_iconst (v := (-1)) hx hb dX2_gatherDesks_19 (by decide) ?_
        refine lv_icmp_eq (tgt := 41) hx hb dX2_gatherDesks_20 (by decide) (fun c16 => ?_) (fun c16 => ?_)
        · replace hf := if_t c16 hf
          exact L41 (f_X2_gatherDesks_4 n) ih  x1 x2 x3 uh ur hf H locs ls hG (lv_sub hl [0, 1, 2, 3] rfl)
        · replace hf := if_f c16 hf
          refine lv_aload_n hx hb dX2_gatherDesks_23 rfl (lv_at hl 0 rfl) ?_
          refine x_get (C := RX2) (T := TX2) (N := 6) (ci := 2) hx hb hts iX2 hown hK hG 13 rfl rfl 3 (by decide) k22 (v := .ref (a 16)) rfl dX2_gatherDesks_24 ?_
          refine lv_iload_n hx hb dX2_gatherDesks_27 rfl (lv_at hl 2 rfl) ?_
          obtain ⟨y17, ey17, hf⟩ := bnd_e hf
          refine lv_iinc (v := y17) (lv' := [(2, .int y17), (0, .ref (a 13)), (1, .int x1), (3, .int x3)]) hx hb dX2_gatherDesks_28 hl (k := 2) rfl (by rw [ey17]; rfl) (by decide) rfl (fun ls hl => ?_)
          refine lv_aload_n hx hb dX2_gatherDesks_31 rfl (lv_at hl 1 rfl) ?_
          refine x_get (C := RX2) (T := TX2) (N := 6) (ci := 2) hx hb hts iX2 hown hK hG 13 rfl rfl 0 (by decide) k9 (v := .ref (a 0)) rfl dX2_gatherDesks_32 ?_
          refine x_get (C := RX0) (T := TX0) (N := 17) (ci := 0) hx hb hts iX0 hown hK hG 0 rfl rfl 5 (by decide) k39 (v := .ref (a 1)) rfl dX2_gatherDesks_35 ?_
          refine lv_iload_n hx hb dX2_gatherDesks_38 rfl (lv_at hl 3 rfl) ?_
          obtain ⟨v18, ev18, hin, hf⟩ := ck_e hf
          refine x_iald hx hb hK hG 1 rfl ev18 hin dX2_gatherDesks_39 ?_
          obtain ⟨ur19, eur19, hin, hf⟩ := ck_e hf
          refine x_iast hx hb hK hG 16 rfl (w1 := WH κ a uh ++ (WR κ a ur19)) (by rw [eur19]; rfl) hin dX2_gatherDesks_40 (fun H locs hG => ?_)
          exact L41 (f_X2_gatherDesks_4 n) ih  x1 y17 x3 uh ur19 hf H locs ls hG (lv_sub hl [1, 2, 0, 3] rfl)
  unfold f_X2_gatherDesks at hf
  refine lv_iconst (v := 0) hx hb dX2_gatherDesks_0 (by decide) ?_
  refine lv_istore_n (lv' := [(2, .int 0), (0, .ref (a 13)), (1, .int p1)]) hx hb dX2_gatherDesks_1 rfl hl (by decide) rfl (fun ls hl => ?_)
  refine lv_iconst (v := 0) hx hb dX2_gatherDesks_2 (by decide) ?_
  refine lv_istore_n (lv' := [(3, .int 0), (2, .int 0), (0, .ref (a 13)), (1, .int p1)]) hx hb dX2_gatherDesks_3 rfl hl (by decide) rfl (fun ls hl => ?_)
  exact L4  FU p1 0 0 uh ur hf H locs ls hG (lv_sub hl [2, 3, 1, 0] rfl)
set_option maxRecDepth 100000 in
set_option maxHeartbeats 4000000 in
theorem c_X2_evenDesks (l : Launch) (D : va_G) (κ : Nat → ClassId) (a : Nat → Nat) (sz : Nat)  (uh : HS) (ur : RS) (r' : Int32) (uh' : HS) (ur' : RS) (hf : f_X2_evenDesks uh ur = some (r', uh', ur')) : Met l yX2_evenDesks wsX2_evenDesks ({ frames := 5, cells := 0, slots := 0, locals := 119 } : Room) (xPc D κ [.ref (a 13)] (WH κ a uh ++ (WR κ a ur)) sz) (xQi D κ r' (WH κ a uh' ++ (WR κ a ur')) (va_A (WH κ a uh ++ (WR κ a ur)) sz)) 0 0 (va_A (WH κ a uh ++ (WR κ a ur)) sz) := by
  refine x_ofW (cc := cX2_evenDesks) (maxL := 5) (ret := (some .int)) (Qf := fun A => xQi D κ r' (WH κ a uh' ++ (WR κ a ur')) A) (by decide) rfl (Nat.le_of_ble_eq_true rfl) ?_
  intro p e s m below meth c hx hb hr hlk hml hown hts hK A hA H locs hG ls hl
  have hown : s.vm.findClass RX2 = some m.cls := hown
  have hl : lv_has ls 5 [(0, .ref (a 13))] := hl
  have iX2 : ∀ w ∈ u_ws RX2 TX2 6, w ∈ wsX2_evenDesks := fun _ h => List.mem_cons_of_mem _ (List.mem_append_left _ (List.mem_append_right _ h))
  have k25 := hts (.fieldLink RX2 25 "SpineDesks$Rows" "span" "[I") (List.mem_of_getElem? (i := 1) rfl)
  have k9 := hts (.fieldLink RX2 9 "SpineDesks$Rows" "hall" "LSpineDesks$Hall;") (List.mem_of_getElem? (i := 2) rfl)
  have L96 : ∀ (rec30 : Int32 → HS → RS → Option (Int32 × HS × RS)) (hr30 : ∀ (y1 : Int32) (uh : HS) (ur : RS), rec30 y1 uh ur = some (r', uh', ur') → ∀ (H : Heap) (locs : List Loc) (ls : Array Slot), xG D A s.heap (WH κ a uh ++ (WR κ a ur)) H locs → lv_has ls 5 [(0, .ref (a 13)), (1, .int y1)] → W p l e ({ frames := 5, cells := 0, slots := 0, locals := 119 } : Room) s m (([.ref (a 13)] : List Value).toArray) below meth c H locs 0 0 (MQ below (xQi D κ r' (WH κ a uh' ++ (WR κ a ur')) A) (([.ref (a 13)] : List Value).toArray) s 0 0 A) (F0 m 30 ls [])) (rec44 : Int32 → Int32 → Int32 → Int32 → HS → RS → Option (Int32 × HS × RS)) (hr44 : ∀ (y1 : Int32) (y2 : Int32) (y3 : Int32) (y4 : Int32) (uh : HS) (ur : RS), rec44 y1 y2 y3 y4 uh ur = some (r', uh', ur') → ∀ (H : Heap) (locs : List Loc) (ls : Array Slot), xG D A s.heap (WH κ a uh ++ (WR κ a ur)) H locs → lv_has ls 5 [(0, .ref (a 13)), (1, .int y1), (2, .int y2), (3, .int y3), (4, .int y4)] → W p l e ({ frames := 5, cells := 0, slots := 0, locals := 119 } : Room) s m (([.ref (a 13)] : List Value).toArray) below meth c H locs 0 0 (MQ below (xQi D κ r' (WH κ a uh' ++ (WR κ a ur')) A) (([.ref (a 13)] : List Value).toArray) s 0 0 A) (F0 m 44 ls [])), ∀ (x1 : Int32) (x2 : Int32) (x4 : Int32) (s0 : Int32) (uh : HS) (ur : RS), f_X2_evenDesks_96 rec30 rec44 x1 x2 x4 s0 uh ur = some (r', uh', ur') → ∀ (H : Heap) (locs : List Loc) (ls : Array Slot), xG D A s.heap (WH κ a uh ++ (WR κ a ur)) H locs → lv_has ls 5 [(0, .ref (a 13)), (1, .int x1), (2, .int x2), (4, .int x4)] → W p l e ({ frames := 5, cells := 0, slots := 0, locals := 119 } : Room) s m (([.ref (a 13)] : List Value).toArray) below meth c H locs 0 0 (MQ below (xQi D κ r' (WH κ a uh' ++ (WR κ a ur')) A) (([.ref (a 13)] : List Value).toArray) s 0 0 A) (F0 m 96 ls [.int s0]) := by
    intro rec30 hr30 rec44 hr44 x1 x2 x4 s0 uh ur hf H locs ls hG hl
    unfold f_X2_evenDesks_96 at hf
    refine lv_istore_n (lv' := [(3, .int s0), (0, .ref (a 13)), (1, .int x1), (2, .int x2), (4, .int x4)]) hx hb dX2_evenDesks_96 rfl hl (by decide) rfl (fun ls hl => ?_)
    obtain ⟨y1, ey1, hf⟩ := bnd_e hf
    refine lv_iinc (v := y1) (lv' := [(4, .int y1), (3, .int s0), (0, .ref (a 13)), (1, .int x1), (2, .int x2)]) hx hb dX2_evenDesks_97 hl (k := 4) rfl (by rw [ey1]; rfl) (by decide) rfl (fun ls hl => ?_)
    refine lv_goto (tgt := 44) hx hb dX2_evenDesks_100 (by decide) ?_
    exact hr44 x1 x2 s0 y1 uh ur hf H locs ls hG (lv_sub hl [2, 3, 4, 1, 0] rfl)
  have L73 : ∀ (rec30 : Int32 → HS → RS → Option (Int32 × HS × RS)) (hr30 : ∀ (y1 : Int32) (uh : HS) (ur : RS), rec30 y1 uh ur = some (r', uh', ur') → ∀ (H : Heap) (locs : List Loc) (ls : Array Slot), xG D A s.heap (WH κ a uh ++ (WR κ a ur)) H locs → lv_has ls 5 [(0, .ref (a 13)), (1, .int y1)] → W p l e ({ frames := 5, cells := 0, slots := 0, locals := 119 } : Room) s m (([.ref (a 13)] : List Value).toArray) below meth c H locs 0 0 (MQ below (xQi D κ r' (WH κ a uh' ++ (WR κ a ur')) A) (([.ref (a 13)] : List Value).toArray) s 0 0 A) (F0 m 30 ls [])) (rec44 : Int32 → Int32 → Int32 → Int32 → HS → RS → Option (Int32 × HS × RS)) (hr44 : ∀ (y1 : Int32) (y2 : Int32) (y3 : Int32) (y4 : Int32) (uh : HS) (ur : RS), rec44 y1 y2 y3 y4 uh ur = some (r', uh', ur') → ∀ (H : Heap) (locs : List Loc) (ls : Array Slot), xG D A s.heap (WH κ a uh ++ (WR κ a ur)) H locs → lv_has ls 5 [(0, .ref (a 13)), (1, .int y1), (2, .int y2), (3, .int y3), (4, .int y4)] → W p l e ({ frames := 5, cells := 0, slots := 0, locals := 119 } : Room) s m (([.ref (a 13)] : List Value).toArray) below meth c H locs 0 0 (MQ below (xQi D κ r' (WH κ a uh' ++ (WR κ a ur')) A) (([.ref (a 13)] : List Value).toArray) s 0 0 A) (F0 m 44 ls [])), ∀ (x1 : Int32) (x3 : Int32) (x4 : Int32) (s0 : Int32) (uh : HS) (ur : RS), f_X2_evenDesks_73 rec30 rec44 x1 x3 x4 s0 uh ur = some (r', uh', ur') → ∀ (H : Heap) (locs : List Loc) (ls : Array Slot), xG D A s.heap (WH κ a uh ++ (WR κ a ur)) H locs → lv_has ls 5 [(0, .ref (a 13)), (1, .int x1), (3, .int x3), (4, .int x4)] → W p l e ({ frames := 5, cells := 0, slots := 0, locals := 119 } : Room) s m (([.ref (a 13)] : List Value).toArray) below meth c H locs 0 0 (MQ below (xQi D κ r' (WH κ a uh' ++ (WR κ a ur')) A) (([.ref (a 13)] : List Value).toArray) s 0 0 A) (F0 m 73 ls [.int s0]) := by
    intro rec30 hr30 rec44 hr44 x1 x3 x4 s0 uh ur hf H locs ls hG hl
    unfold f_X2_evenDesks_73 at hf
    refine lv_istore_n (lv' := [(2, .int s0), (0, .ref (a 13)), (1, .int x1), (3, .int x3), (4, .int x4)]) hx hb dX2_evenDesks_73 rfl hl (by decide) rfl (fun ls hl => ?_)
    refine lv_aload_n hx hb dX2_evenDesks_74 rfl (lv_at hl 1 rfl) ?_
    refine x_get (C := RX2) (T := TX2) (N := 6) (ci := 2) hx hb hts iX2 hown hK hG 13 rfl rfl 4 (by decide) k25 (v := .ref (a 17)) rfl dX2_evenDesks_75 ?_
    refine lv_iload hx hb dX2_evenDesks_78 (lv_at hl 4 rfl) ?_
    obtain ⟨v2, ev2, hin, hf⟩ := ck_e hf
    refine x_iald hx hb hK hG 17 rfl ev2 hin dX2_evenDesks_80 ?_
    refine lv_aload_n hx hb dX2_evenDesks_81 rfl (lv_at hl 1 rfl) ?_
    refine x_get (C := RX2) (T := TX2) (N := 6) (ci := 2) hx hb hts iX2 hown hK hG 13 rfl rfl 4 (by decide) k25 (v := .ref (a 17)) rfl dX2_evenDesks_82 ?_
    refine lv_iload_n hx hb dX2_evenDesks_85 rfl (lv_at hl 3 rfl) ?_
    obtain ⟨v3, ev3, hin, hf⟩ := ck_e hf
    refine x_iald hx hb hK hG 17 rfl ev3 hin dX2_evenDesks_86 ?_
    refine lv_icmp_ge (tgt := 95) hx hb dX2_evenDesks_87 (by decide) (fun c4 => ?_) (fun c4 => ?_)
    · replace hf := if_t c4 hf
      refine lv_iload_n hx hb dX2_evenDesks_95 rfl (lv_at hl 3 rfl) ?_
      exact L96 rec30 hr30 rec44 hr44  x1 s0 x4 x3 uh ur hf H locs ls hG (lv_sub hl [1, 2, 0, 4] rfl)
    · replace hf := if_f c4 hf
      refine lv_iload hx hb dX2_evenDesks_90 (lv_at hl 4 rfl) ?_
      refine lv_goto (tgt := 96) hx hb dX2_evenDesks_92 (by decide) ?_
      exact L96 rec30 hr30 rec44 hr44  x1 s0 x4 x4 uh ur hf H locs ls hG (lv_sub hl [1, 2, 0, 4] rfl)
  have L44 : ∀ (rec30 : Int32 → HS → RS → Option (Int32 × HS × RS)) (hr30 : ∀ (y1 : Int32) (uh : HS) (ur : RS), rec30 y1 uh ur = some (r', uh', ur') → ∀ (H : Heap) (locs : List Loc) (ls : Array Slot), xG D A s.heap (WH κ a uh ++ (WR κ a ur)) H locs → lv_has ls 5 [(0, .ref (a 13)), (1, .int y1)] → W p l e ({ frames := 5, cells := 0, slots := 0, locals := 119 } : Room) s m (([.ref (a 13)] : List Value).toArray) below meth c H locs 0 0 (MQ below (xQi D κ r' (WH κ a uh' ++ (WR κ a ur')) A) (([.ref (a 13)] : List Value).toArray) s 0 0 A) (F0 m 30 ls [])), ∀ (n : Nat), ∀ (x1 : Int32) (x2 : Int32) (x3 : Int32) (x4 : Int32) (uh : HS) (ur : RS), f_X2_evenDesks_44 rec30 n x1 x2 x3 x4 uh ur = some (r', uh', ur') → ∀ (H : Heap) (locs : List Loc) (ls : Array Slot), xG D A s.heap (WH κ a uh ++ (WR κ a ur)) H locs → lv_has ls 5 [(0, .ref (a 13)), (1, .int x1), (2, .int x2), (3, .int x3), (4, .int x4)] → W p l e ({ frames := 5, cells := 0, slots := 0, locals := 119 } : Room) s m (([.ref (a 13)] : List Value).toArray) below meth c H locs 0 0 (MQ below (xQi D κ r' (WH κ a uh' ++ (WR κ a ur')) A) (([.ref (a 13)] : List Value).toArray) s 0 0 A) (F0 m 44 ls []) := by
    intro rec30 hr30 n
    induction n with
    | zero => intro x1 x2 x3 x4 uh ur hf; cases hf
    | succ n ih =>
      intro x1 x2 x3 x4 uh ur hf H locs ls hG hl
      replace hf : f_X2_evenDesks_B44 rec30 (f_X2_evenDesks_44 rec30 n) x1 x2 x3 x4 uh ur = some (r', uh', ur') := hf
      unfold f_X2_evenDesks_B44 at hf
      refine lv_iload hx hb dX2_evenDesks_44 (lv_at hl 4 rfl) ?_
      refine lv_bipush (v := 6) hx hb dX2_evenDesks_46 (by decide) ?_
      refine lv_icmp_ge (tgt := 103) hx hb dX2_evenDesks_48 (by decide) (fun c5 => ?_) (fun c5 => ?_)
      · replace hf := if_t c5 hf
        refine lv_aload_n hx hb dX2_evenDesks_103 rfl (lv_at hl 0 rfl) ?_
        refine x_get (C := RX2) (T := TX2) (N := 6) (ci := 2) hx hb hts iX2 hown hK hG 13 rfl rfl 4 (by decide) k25 (v := .ref (a 17)) rfl dX2_evenDesks_104 ?_
        refine lv_iload_n hx hb dX2_evenDesks_107 rfl (lv_at hl 2 rfl) ?_
        obtain ⟨v6, ev6, hin, hf⟩ := ck_e hf
        refine x_iald hx hb hK hG 17 rfl ev6 hin dX2_evenDesks_108 ?_
        refine lv_aload_n hx hb dX2_evenDesks_109 rfl (lv_at hl 0 rfl) ?_
        refine x_get (C := RX2) (T := TX2) (N := 6) (ci := 2) hx hb hts iX2 hown hK hG 13 rfl rfl 4 (by decide) k25 (v := .ref (a 17)) rfl dX2_evenDesks_110 ?_
        refine lv_iload_n hx hb dX2_evenDesks_113 rfl (lv_at hl 3 rfl) ?_
        obtain ⟨v7, ev7, hin, hf⟩ := ck_e hf
        refine x_iald hx hb hK hG 17 rfl ev7 hin dX2_evenDesks_114 ?_
        refine lv_isub hx hb dX2_evenDesks_115 ?_
        refine lv_iconst (v := 2) hx hb dX2_evenDesks_116 (by decide) ?_
        refine lv_icmp_ge (tgt := 122) hx hb dX2_evenDesks_117 (by decide) (fun c8 => ?_) (fun c8 => ?_)
        · replace hf := if_t c8 hf
          refine lv_aload_n hx hb dX2_evenDesks_122 rfl (lv_at hl 0 rfl) ?_
          refine x_get (C := RX2) (T := TX2) (N := 6) (ci := 2) hx hb hts iX2 hown hK hG 13 rfl rfl 0 (by decide) k9 (v := .ref (a 0)) rfl dX2_evenDesks_123 ?_
          refine lv_iload_n hx hb dX2_evenDesks_126 rfl (lv_at hl 2 rfl) ?_
          refine lv_iload_n hx hb dX2_evenDesks_127 rfl (lv_at hl 3 rfl) ?_
          obtain ⟨r9, uh10, q11, hf⟩ := cl2_e hf
          refine x_callVi (pre := ([] : va_W)) (wc := WH κ a uh) (wc1 := WH κ a uh10) (post := WR κ a ur) (As := [.int x2, .int x3]) (rest := []) (w1 := WH κ a uh10 ++ (WR κ a ur)) ⟨hx, hb, hml, hown, hts⟩ hK hG hA (by simp only [List.append_assoc, List.nil_append, List.append_nil]) (by simp only [List.append_assoc, List.nil_append, List.append_nil]) (c_X0_moveLeast l D κ a H.size x2 x3 uh r9 uh10 q11) (cwV 2 hts gX2_evenDesks_X0_moveLeast rfl rfl rfl (by decide +kernel) ⟨Nat.le_of_ble_eq_true rfl, Nat.le_of_ble_eq_true rfl⟩) 0 0 rfl rfl rfl rfl hl.1 rfl (Nat.le_of_ble_eq_true rfl) dX2_evenDesks_128 ⟨Nat.zero_le _, Nat.zero_le _⟩ (fun H locs hG => ?_)
          refine lv_pop hx hb dX2_evenDesks_131 rfl ?_
          refine lv_aload_n hx hb dX2_evenDesks_132 rfl (lv_at hl 0 rfl) ?_
          refine x_get (C := RX2) (T := TX2) (N := 6) (ci := 2) hx hb hts iX2 hown hK hG 13 rfl rfl 4 (by decide) k25 (v := .ref (a 17)) rfl dX2_evenDesks_133 ?_
          refine lv_iload_n hx hb dX2_evenDesks_136 rfl (lv_at hl 2 rfl) ?_
          refine lv_dup2_11 hx hb dX2_evenDesks_137 rfl rfl ?_
          obtain ⟨v12, ev12, hin, hf⟩ := ck_e hf
          refine x_iald hx hb hK hG 17 rfl ev12 hin dX2_evenDesks_138 ?_
          refine lv_iconst (v := 1) hx hb dX2_evenDesks_139 (by decide) ?_
          refine lv_isub hx hb dX2_evenDesks_140 ?_
          obtain ⟨ur13, eur13, hin, hf⟩ := ck_e hf
          refine x_iast hx hb hK hG 17 rfl (w1 := WH κ a uh10 ++ (WR κ a ur13)) (by rw [eur13]; rfl) hin dX2_evenDesks_141 (fun H locs hG => ?_)
          refine lv_aload_n hx hb dX2_evenDesks_142 rfl (lv_at hl 0 rfl) ?_
          refine x_get (C := RX2) (T := TX2) (N := 6) (ci := 2) hx hb hts iX2 hown hK hG 13 rfl rfl 4 (by decide) k25 (v := .ref (a 17)) rfl dX2_evenDesks_143 ?_
          refine lv_iload_n hx hb dX2_evenDesks_146 rfl (lv_at hl 3 rfl) ?_
          refine lv_dup2_11 hx hb dX2_evenDesks_147 rfl rfl ?_
          obtain ⟨v14, ev14, hin, hf⟩ := ck_e hf
          refine x_iald hx hb hK hG 17 rfl ev14 hin dX2_evenDesks_148 ?_
          refine lv_iconst (v := 1) hx hb dX2_evenDesks_149 (by decide) ?_
          refine lv_iadd hx hb dX2_evenDesks_150 ?_
          obtain ⟨ur15, eur15, hin, hf⟩ := ck_e hf
          refine x_iast hx hb hK hG 17 rfl (w1 := WH κ a uh10 ++ (WR κ a ur15)) (by rw [eur15]; rfl) hin dX2_evenDesks_151 (fun H locs hG => ?_)
          obtain ⟨y16, ey16, hf⟩ := bnd_e hf
          refine lv_iinc (v := y16) (lv' := [(1, .int y16), (0, .ref (a 13)), (2, .int x2), (3, .int x3), (4, .int x4)]) hx hb dX2_evenDesks_152 hl (k := 1) rfl (by rw [ey16]; rfl) (by decide) rfl (fun ls hl => ?_)
          refine lv_goto (tgt := 30) hx hb dX2_evenDesks_155 (by decide) ?_
          exact hr30 y16 uh10 ur15 hf H locs ls hG (lv_sub hl [1, 0] rfl)
        · replace hf := if_f c8 hf
          refine lv_iload_n hx hb dX2_evenDesks_120 rfl (lv_at hl 1 rfl) ?_
          have hz := Option.some.inj hf
          have z0 := (Prod.mk.inj hz).1
          replace hz := (Prod.mk.inj hz).2
          have z1 := (Prod.mk.inj hz).1
          replace hz := (Prod.mk.inj hz).2
          have z2 := hz
          exact x_iret hx hb hr hlk hK hG z0 (by rw [z1, z2]) dX2_evenDesks_121
      · replace hf := if_f c5 hf
        refine lv_aload_n hx hb dX2_evenDesks_51 rfl (lv_at hl 0 rfl) ?_
        refine x_get (C := RX2) (T := TX2) (N := 6) (ci := 2) hx hb hts iX2 hown hK hG 13 rfl rfl 4 (by decide) k25 (v := .ref (a 17)) rfl dX2_evenDesks_52 ?_
        refine lv_iload hx hb dX2_evenDesks_55 (lv_at hl 4 rfl) ?_
        obtain ⟨v17, ev17, hin, hf⟩ := ck_e hf
        refine x_iald hx hb hK hG 17 rfl ev17 hin dX2_evenDesks_57 ?_
        refine lv_aload_n hx hb dX2_evenDesks_58 rfl (lv_at hl 0 rfl) ?_
        refine x_get (C := RX2) (T := TX2) (N := 6) (ci := 2) hx hb hts iX2 hown hK hG 13 rfl rfl 4 (by decide) k25 (v := .ref (a 17)) rfl dX2_evenDesks_59 ?_
        refine lv_iload_n hx hb dX2_evenDesks_62 rfl (lv_at hl 2 rfl) ?_
        obtain ⟨v18, ev18, hin, hf⟩ := ck_e hf
        refine x_iald hx hb hK hG 17 rfl ev18 hin dX2_evenDesks_63 ?_
        refine lv_icmp_le (tgt := 72) hx hb dX2_evenDesks_64 (by decide) (fun c19 => ?_) (fun c19 => ?_)
        · replace hf := if_t c19 hf
          refine lv_iload_n hx hb dX2_evenDesks_72 rfl (lv_at hl 2 rfl) ?_
          exact L73 rec30 hr30 (f_X2_evenDesks_44 rec30 n) ih  x1 x3 x4 x2 uh ur hf H locs ls hG (lv_sub hl [0, 1, 3, 4] rfl)
        · replace hf := if_f c19 hf
          refine lv_iload hx hb dX2_evenDesks_67 (lv_at hl 4 rfl) ?_
          refine lv_goto (tgt := 73) hx hb dX2_evenDesks_69 (by decide) ?_
          exact L73 rec30 hr30 (f_X2_evenDesks_44 rec30 n) ih  x1 x3 x4 x4 uh ur hf H locs ls hG (lv_sub hl [0, 1, 3, 4] rfl)
  have L30 : ∀ (n : Nat), ∀ (x1 : Int32) (uh : HS) (ur : RS), f_X2_evenDesks_30 n x1 uh ur = some (r', uh', ur') → ∀ (H : Heap) (locs : List Loc) (ls : Array Slot), xG D A s.heap (WH κ a uh ++ (WR κ a ur)) H locs → lv_has ls 5 [(0, .ref (a 13)), (1, .int x1)] → W p l e ({ frames := 5, cells := 0, slots := 0, locals := 119 } : Room) s m (([.ref (a 13)] : List Value).toArray) below meth c H locs 0 0 (MQ below (xQi D κ r' (WH κ a uh' ++ (WR κ a ur')) A) (([.ref (a 13)] : List Value).toArray) s 0 0 A) (F0 m 30 ls []) := by
    intro  n
    induction n with
    | zero => intro x1 uh ur hf; cases hf
    | succ n ih =>
      intro x1 uh ur hf H locs ls hG hl
      replace hf : f_X2_evenDesks_B30 (f_X2_evenDesks_30 n) x1 uh ur = some (r', uh', ur') := hf
      unfold f_X2_evenDesks_B30 at hf
      refine lv_iload_n hx hb dX2_evenDesks_30 rfl (lv_at hl 1 rfl) ?_
      refine lv_sipush (v := 300) hx hb dX2_evenDesks_31 (by decide) ?_
      refine lv_icmp_ge (tgt := 158) hx hb dX2_evenDesks_34 (by decide) (fun c20 => ?_) (fun c20 => ?_)
      · replace hf := if_t c20 hf
        refine lv_iload_n hx hb dX2_evenDesks_158 rfl (lv_at hl 1 rfl) ?_
        have hz := Option.some.inj hf
        have z0 := (Prod.mk.inj hz).1
        replace hz := (Prod.mk.inj hz).2
        have z1 := (Prod.mk.inj hz).1
        replace hz := (Prod.mk.inj hz).2
        have z2 := hz
        exact x_iret hx hb hr hlk hK hG z0 (by rw [z1, z2]) dX2_evenDesks_159
      · replace hf := if_f c20 hf
        refine lv_iconst (v := 0) hx hb dX2_evenDesks_37 (by decide) ?_
        refine lv_istore_n (lv' := [(2, .int 0), (0, .ref (a 13)), (1, .int x1)]) hx hb dX2_evenDesks_38 rfl hl (by decide) rfl (fun ls hl => ?_)
        refine lv_iconst (v := 0) hx hb dX2_evenDesks_39 (by decide) ?_
        refine lv_istore_n (lv' := [(3, .int 0), (2, .int 0), (0, .ref (a 13)), (1, .int x1)]) hx hb dX2_evenDesks_40 rfl hl (by decide) rfl (fun ls hl => ?_)
        refine lv_iconst (v := 1) hx hb dX2_evenDesks_41 (by decide) ?_
        refine lv_istore (lv' := [(4, .int 1), (3, .int 0), (2, .int 0), (0, .ref (a 13)), (1, .int x1)]) hx hb dX2_evenDesks_42 hl (by decide) rfl (fun ls hl => ?_)
        exact L44 (f_X2_evenDesks_30 n) ih FU x1 0 0 1 uh ur hf H locs ls hG (lv_sub hl [3, 4, 2, 1, 0] rfl)
  have L2 : ∀ (n : Nat), ∀ (x1 : Int32) (uh : HS) (ur : RS), f_X2_evenDesks_2 n x1 uh ur = some (r', uh', ur') → ∀ (H : Heap) (locs : List Loc) (ls : Array Slot), xG D A s.heap (WH κ a uh ++ (WR κ a ur)) H locs → lv_has ls 5 [(0, .ref (a 13)), (1, .int x1)] → W p l e ({ frames := 5, cells := 0, slots := 0, locals := 119 } : Room) s m (([.ref (a 13)] : List Value).toArray) below meth c H locs 0 0 (MQ below (xQi D κ r' (WH κ a uh' ++ (WR κ a ur')) A) (([.ref (a 13)] : List Value).toArray) s 0 0 A) (F0 m 2 ls []) := by
    intro  n
    induction n with
    | zero => intro x1 uh ur hf; cases hf
    | succ n ih =>
      intro x1 uh ur hf H locs ls hG hl
      replace hf : f_X2_evenDesks_B2 (f_X2_evenDesks_2 n) x1 uh ur = some (r', uh', ur') := hf
      unfold f_X2_evenDesks_B2 at hf
      refine lv_iload_n hx hb dX2_evenDesks_2 rfl (lv_at hl 1 rfl) ?_
      refine lv_bipush (v := 6) hx hb dX2_evenDesks_3 (by decide) ?_
      refine lv_icmp_ge (tgt := 28) hx hb dX2_evenDesks_5 (by decide) (fun c21 => ?_) (fun c21 => ?_)
      · replace hf := if_t c21 hf
        refine lv_iconst (v := 0) hx hb dX2_evenDesks_28 (by decide) ?_
        refine lv_istore_n (lv' := [(1, .int 0), (0, .ref (a 13))]) hx hb dX2_evenDesks_29 rfl hl (by decide) rfl (fun ls hl => ?_)
        exact L30  FU 0 uh ur hf H locs ls hG (lv_sub hl [1, 0] rfl)
      · replace hf := if_f c21 hf
        refine lv_aload_n hx hb dX2_evenDesks_8 rfl (lv_at hl 0 rfl) ?_
        refine x_get (C := RX2) (T := TX2) (N := 6) (ci := 2) hx hb hts iX2 hown hK hG 13 rfl rfl 4 (by decide) k25 (v := .ref (a 17)) rfl dX2_evenDesks_9 ?_
        refine lv_iload_n hx hb dX2_evenDesks_12 rfl (lv_at hl 1 rfl) ?_
        refine lv_aload_n hx hb dX2_evenDesks_13 rfl (lv_at hl 0 rfl) ?_
        refine x_get (C := RX2) (T := TX2) (N := 6) (ci := 2) hx hb hts iX2 hown hK hG 13 rfl rfl 0 (by decide) k9 (v := .ref (a 0)) rfl dX2_evenDesks_14 ?_
        refine lv_iload_n hx hb dX2_evenDesks_17 rfl (lv_at hl 1 rfl) ?_
        obtain ⟨r22, q23, hf⟩ := cl1_e hf
        refine x_callVi (pre := ([] : va_W)) (wc := WH κ a uh) (wc1 := WH κ a uh) (post := WR κ a ur) (As := [.int x1]) (rest := [.int x1, .ref (a 17)]) (w1 := WH κ a uh ++ (WR κ a ur)) ⟨hx, hb, hml, hown, hts⟩ hK hG hA (by simp only [List.append_assoc, List.nil_append, List.append_nil]) (by simp only [List.append_assoc, List.nil_append, List.append_nil]) (c_X0_plainIn l D κ a H.size x1 uh r22 q23) (cwV 1 hts gX2_evenDesks_X0_plainIn rfl rfl rfl (by decide +kernel) ⟨Nat.le_of_ble_eq_true rfl, Nat.le_of_ble_eq_true rfl⟩) 0 0 rfl rfl rfl rfl hl.1 rfl (Nat.le_of_ble_eq_true rfl) dX2_evenDesks_18 ⟨Nat.zero_le _, Nat.zero_le _⟩ (fun H locs hG => ?_)
        obtain ⟨ur24, eur24, hin, hf⟩ := ck_e hf
        refine x_iast hx hb hK hG 17 rfl (w1 := WH κ a uh ++ (WR κ a ur24)) (by rw [eur24]; rfl) hin dX2_evenDesks_21 (fun H locs hG => ?_)
        obtain ⟨y25, ey25, hf⟩ := bnd_e hf
        refine lv_iinc (v := y25) (lv' := [(1, .int y25), (0, .ref (a 13))]) hx hb dX2_evenDesks_22 hl (k := 1) rfl (by rw [ey25]; rfl) (by decide) rfl (fun ls hl => ?_)
        refine lv_goto (tgt := 2) hx hb dX2_evenDesks_25 (by decide) ?_
        exact ih y25 uh ur24 hf H locs ls hG (lv_sub hl [1, 0] rfl)
  unfold f_X2_evenDesks at hf
  refine lv_iconst (v := 0) hx hb dX2_evenDesks_0 (by decide) ?_
  refine lv_istore_n (lv' := [(1, .int 0), (0, .ref (a 13))]) hx hb dX2_evenDesks_1 rfl hl (by decide) rfl (fun ls hl => ?_)
  exact L2  FU 0 uh ur hf H locs ls hG (lv_sub hl [1, 0] rfl)
set_option maxRecDepth 100000 in
set_option maxHeartbeats 4000000 in
theorem c_X2_sort1 (l : Launch) (D : va_G) (κ : Nat → ClassId) (a : Nat → Nat) (sz : Nat) (p2 : Int32) (uh : HS) (ur : RS)  (ur' : RS) (hf : f_X2_sort1 p2 uh ur = some (ur')) : Met l yX2_sort wsX2_sort ({ frames := 1, cells := 0, slots := 0, locals := 22 } : Room) (xPc D κ [.ref (a 13), .ref (a 14), .int p2] (WH κ a uh ++ (WR κ a ur)) sz) (xQv D κ (WH κ a uh ++ (WR κ a ur')) (va_A (WH κ a uh ++ (WR κ a ur)) sz)) 0 0 (va_A (WH κ a uh ++ (WR κ a ur)) sz) := by
  refine x_ofW (cc := cX2_sort) (maxL := 7) (ret := none) (Qf := fun A => xQv D κ (WH κ a uh ++ (WR κ a ur')) A) (by decide) rfl (Nat.le_of_ble_eq_true rfl) ?_
  intro p e s m below meth c hx hb hr hlk hml hown hts hK A hA H locs hG ls hl
  have hown : s.vm.findClass RX2 = some m.cls := hown
  have hl : lv_has ls 7 [(0, .ref (a 13)), (1, .ref (a 14)), (2, .int p2)] := hl
  have iX2 : ∀ w ∈ u_ws RX2 TX2 6, w ∈ wsX2_sort := fun _ h => List.mem_cons_of_mem _ (List.mem_append_left _ (List.mem_append_right _ h))
  have k9 := hts (.fieldLink RX2 9 "SpineDesks$Rows" "hall" "LSpineDesks$Hall;") (List.mem_of_getElem? (i := 1) rfl)
  have L70 : ∀ (rec4 : Int32 → Int32 → RS → Option (RS)) (hr4 : ∀ (y2 : Int32) (y3 : Int32) (ur : RS), rec4 y2 y3 ur = some (ur') → ∀ (H : Heap) (locs : List Loc) (ls : Array Slot), xG D A s.heap (WH κ a uh ++ (WR κ a ur)) H locs → lv_has ls 7 [(0, .ref (a 13)), (1, .ref (a 14)), (2, .int y2), (3, .int y3)] → W p l e ({ frames := 1, cells := 0, slots := 0, locals := 22 } : Room) s m (([.ref (a 13), .ref (a 14), .int p2] : List Value).toArray) below meth c H locs 0 0 (MQ below (xQv D κ (WH κ a uh ++ (WR κ a ur')) A) (([.ref (a 13), .ref (a 14), .int p2] : List Value).toArray) s 0 0 A) (F0 m 4 ls [])) (rec11 : Int32 → Int32 → Int32 → RS → Option (RS)) (hr11 : ∀ (y2 : Int32) (y3 : Int32) (y4 : Int32) (ur : RS), rec11 y2 y3 y4 ur = some (ur') → ∀ (H : Heap) (locs : List Loc) (ls : Array Slot), xG D A s.heap (WH κ a uh ++ (WR κ a ur)) H locs → lv_has ls 7 [(0, .ref (a 13)), (1, .ref (a 14)), (2, .int y2), (3, .int y3), (4, .int y4)] → W p l e ({ frames := 1, cells := 0, slots := 0, locals := 22 } : Room) s m (([.ref (a 13), .ref (a 14), .int p2] : List Value).toArray) below meth c H locs 0 0 (MQ below (xQv D κ (WH κ a uh ++ (WR κ a ur')) A) (([.ref (a 13), .ref (a 14), .int p2] : List Value).toArray) s 0 0 A) (F0 m 11 ls [])), ∀ (x2 : Int32) (x3 : Int32) (x4 : Int32) (x5 : Int32) (x6 : Int32) (ur : RS), f_X2_sort1_70 uh rec4 rec11 x2 x3 x4 x5 x6 ur = some (ur') → ∀ (H : Heap) (locs : List Loc) (ls : Array Slot), xG D A s.heap (WH κ a uh ++ (WR κ a ur)) H locs → lv_has ls 7 [(0, .ref (a 13)), (1, .ref (a 14)), (2, .int x2), (3, .int x3), (4, .int x4), (5, .int x5), (6, .int x6)] → W p l e ({ frames := 1, cells := 0, slots := 0, locals := 22 } : Room) s m (([.ref (a 13), .ref (a 14), .int p2] : List Value).toArray) below meth c H locs 0 0 (MQ below (xQv D κ (WH κ a uh ++ (WR κ a ur')) A) (([.ref (a 13), .ref (a 14), .int p2] : List Value).toArray) s 0 0 A) (F0 m 70 ls []) := by
    intro rec4 hr4 rec11 hr11 x2 x3 x4 x5 x6 ur hf H locs ls hG hl
    unfold f_X2_sort1_70 at hf
    refine lv_aload_n hx hb dX2_sort_70 rfl (lv_at hl 1 rfl) ?_
    refine lv_iload hx hb dX2_sort_71 (lv_at hl 6 rfl) ?_
    refine lv_iload hx hb dX2_sort_73 (lv_at hl 5 rfl) ?_
    obtain ⟨ur1, eur1, hin, hf⟩ := ck_e hf
    refine x_iast hx hb hK hG 14 rfl (w1 := WH κ a uh ++ (WR κ a ur1)) (by rw [eur1]; rfl) hin dX2_sort_75 (fun H locs hG => ?_)
    obtain ⟨y2, ey2, hf⟩ := bnd_e hf
    refine lv_iinc (v := y2) (lv' := [(4, .int y2), (0, .ref (a 13)), (1, .ref (a 14)), (2, .int x2), (3, .int x3), (5, .int x5), (6, .int x6)]) hx hb dX2_sort_76 hl (k := 4) rfl (by rw [ey2]; rfl) (by decide) rfl (fun ls hl => ?_)
    refine lv_goto (tgt := 11) hx hb dX2_sort_79 (by decide) ?_
    exact hr11 x2 x3 y2 ur1 hf H locs ls hG (lv_sub hl [1, 2, 3, 4, 0] rfl)
  have L27 : ∀ (rec4 : Int32 → Int32 → RS → Option (RS)) (hr4 : ∀ (y2 : Int32) (y3 : Int32) (ur : RS), rec4 y2 y3 ur = some (ur') → ∀ (H : Heap) (locs : List Loc) (ls : Array Slot), xG D A s.heap (WH κ a uh ++ (WR κ a ur)) H locs → lv_has ls 7 [(0, .ref (a 13)), (1, .ref (a 14)), (2, .int y2), (3, .int y3)] → W p l e ({ frames := 1, cells := 0, slots := 0, locals := 22 } : Room) s m (([.ref (a 13), .ref (a 14), .int p2] : List Value).toArray) below meth c H locs 0 0 (MQ below (xQv D κ (WH κ a uh ++ (WR κ a ur')) A) (([.ref (a 13), .ref (a 14), .int p2] : List Value).toArray) s 0 0 A) (F0 m 4 ls [])) (rec11 : Int32 → Int32 → Int32 → RS → Option (RS)) (hr11 : ∀ (y2 : Int32) (y3 : Int32) (y4 : Int32) (ur : RS), rec11 y2 y3 y4 ur = some (ur') → ∀ (H : Heap) (locs : List Loc) (ls : Array Slot), xG D A s.heap (WH κ a uh ++ (WR κ a ur)) H locs → lv_has ls 7 [(0, .ref (a 13)), (1, .ref (a 14)), (2, .int y2), (3, .int y3), (4, .int y4)] → W p l e ({ frames := 1, cells := 0, slots := 0, locals := 22 } : Room) s m (([.ref (a 13), .ref (a 14), .int p2] : List Value).toArray) below meth c H locs 0 0 (MQ below (xQv D κ (WH κ a uh ++ (WR κ a ur')) A) (([.ref (a 13), .ref (a 14), .int p2] : List Value).toArray) s 0 0 A) (F0 m 11 ls [])), ∀ (n : Nat), ∀ (x2 : Int32) (x3 : Int32) (x4 : Int32) (x5 : Int32) (x6 : Int32) (ur : RS), f_X2_sort1_27 uh rec4 rec11 n x2 x3 x4 x5 x6 ur = some (ur') → ∀ (H : Heap) (locs : List Loc) (ls : Array Slot), xG D A s.heap (WH κ a uh ++ (WR κ a ur)) H locs → lv_has ls 7 [(0, .ref (a 13)), (1, .ref (a 14)), (2, .int x2), (3, .int x3), (4, .int x4), (5, .int x5), (6, .int x6)] → W p l e ({ frames := 1, cells := 0, slots := 0, locals := 22 } : Room) s m (([.ref (a 13), .ref (a 14), .int p2] : List Value).toArray) below meth c H locs 0 0 (MQ below (xQv D κ (WH κ a uh ++ (WR κ a ur')) A) (([.ref (a 13), .ref (a 14), .int p2] : List Value).toArray) s 0 0 A) (F0 m 27 ls []) := by
    intro rec4 hr4 rec11 hr11 n
    induction n with
    | zero => intro x2 x3 x4 x5 x6 ur hf; cases hf
    | succ n ih =>
      intro x2 x3 x4 x5 x6 ur hf H locs ls hG hl
      replace hf : f_X2_sort1_B27 uh rec4 rec11 (f_X2_sort1_27 uh rec4 rec11 n) x2 x3 x4 x5 x6 ur = some (ur') := hf
      unfold f_X2_sort1_B27 at hf
      refine lv_iload hx hb dX2_sort_27 (lv_at hl 6 rfl) ?_
      refine lv_iload_n hx hb dX2_sort_29 rfl (lv_at hl 3 rfl) ?_
      refine lv_icmp_lt (tgt := 70) hx hb dX2_sort_30 (by decide) (fun c3 => ?_) (fun c3 => ?_)
      · replace hf := if_t c3 hf
        exact L70 rec4 hr4 rec11 hr11  x2 x3 x4 x5 x6 ur hf H locs ls hG (lv_sub hl [0, 1, 2, 3, 4, 5, 6] rfl)
      · replace hf := if_f c3 hf
        refine lv_aload_n hx hb dX2_sort_33 rfl (lv_at hl 0 rfl) ?_
        refine x_get (C := RX2) (T := TX2) (N := 6) (ci := 2) hx hb hts iX2 hown hK hG 13 rfl rfl 0 (by decide) k9 (v := .ref (a 0)) rfl dX2_sort_34 ?_
        refine lv_iload hx hb dX2_sort_37 (lv_at hl 5 rfl) ?_
        refine lv_aload_n hx hb dX2_sort_39 rfl (lv_at hl 1 rfl) ?_
        refine lv_iload hx hb dX2_sort_40 (lv_at hl 6 rfl) ?_
        refine lv_iload_n hx hb dX2_sort_42 rfl (lv_at hl 3 rfl) ?_
        refine lv_isub hx hb dX2_sort_43 ?_
        obtain ⟨v4, ev4, hin, hf⟩ := ck_e hf
        refine x_iald hx hb hK hG 14 rfl ev4 hin dX2_sort_44 ?_
        obtain ⟨r5, q6, hf⟩ := cl1_e hf
        refine x_callVi (pre := ([] : va_W)) (wc := WH κ a uh) (wc1 := WH κ a uh) (post := WR κ a ur) (As := [.int x5, .int v4]) (rest := []) (w1 := WH κ a uh ++ (WR κ a ur)) ⟨hx, hb, hml, hown, hts⟩ hK hG hA (by simp only [List.append_assoc, List.nil_append, List.append_nil]) (by simp only [List.append_assoc, List.nil_append, List.append_nil]) (c_X0_isLess l D κ a H.size x5 v4 uh r5 q6) (cwV 2 hts gX2_sort_X0_isLess rfl rfl rfl (by decide +kernel) ⟨Nat.le_of_ble_eq_true rfl, Nat.le_of_ble_eq_true rfl⟩) 0 0 rfl rfl rfl rfl hl.1 rfl (Nat.le_of_ble_eq_true rfl) dX2_sort_45 ⟨Nat.zero_le _, Nat.zero_le _⟩ (fun H locs hG => ?_)
        refine lv_if_eq (tgt := 70) hx hb dX2_sort_48 (by decide) (fun c7 => ?_) (fun c7 => ?_)
        · replace hf := if_t c7 hf
          exact L70 rec4 hr4 rec11 hr11  x2 x3 x4 x5 x6 ur hf H locs ls hG (lv_sub hl [0, 1, 2, 3, 4, 5, 6] rfl)
        · replace hf := if_f c7 hf
          refine lv_aload_n hx hb dX2_sort_51 rfl (lv_at hl 1 rfl) ?_
          refine lv_iload hx hb dX2_sort_52 (lv_at hl 6 rfl) ?_
          refine lv_aload_n hx hb dX2_sort_54 rfl (lv_at hl 1 rfl) ?_
          refine lv_iload hx hb dX2_sort_55 (lv_at hl 6 rfl) ?_
          refine lv_iload_n hx hb dX2_sort_57 rfl (lv_at hl 3 rfl) ?_
          refine lv_isub hx hb dX2_sort_58 ?_
          obtain ⟨v8, ev8, hin, hf⟩ := ck_e hf
          refine x_iald hx hb hK hG 14 rfl ev8 hin dX2_sort_59 ?_
          obtain ⟨ur9, eur9, hin, hf⟩ := ck_e hf
          refine x_iast hx hb hK hG 14 rfl (w1 := WH κ a uh ++ (WR κ a ur9)) (by rw [eur9]; rfl) hin dX2_sort_60 (fun H locs hG => ?_)
          refine lv_iload hx hb dX2_sort_61 (lv_at hl 6 rfl) ?_
          refine lv_iload_n hx hb dX2_sort_63 rfl (lv_at hl 3 rfl) ?_
          refine lv_isub hx hb dX2_sort_64 ?_
          refine lv_topi (fun y10 ey10 => ?_)
          replace hf := bnd_at ey10 hf
          refine lv_istore (lv' := [(6, .int y10), (0, .ref (a 13)), (1, .ref (a 14)), (2, .int x2), (3, .int x3), (4, .int x4), (5, .int x5)]) hx hb dX2_sort_65 hl (by decide) rfl (fun ls hl => ?_)
          refine lv_goto (tgt := 27) hx hb dX2_sort_67 (by decide) ?_
          exact ih x2 x3 x4 x5 y10 ur9 hf H locs ls hG (lv_sub hl [1, 2, 3, 4, 5, 6, 0] rfl)
  have L11 : ∀ (rec4 : Int32 → Int32 → RS → Option (RS)) (hr4 : ∀ (y2 : Int32) (y3 : Int32) (ur : RS), rec4 y2 y3 ur = some (ur') → ∀ (H : Heap) (locs : List Loc) (ls : Array Slot), xG D A s.heap (WH κ a uh ++ (WR κ a ur)) H locs → lv_has ls 7 [(0, .ref (a 13)), (1, .ref (a 14)), (2, .int y2), (3, .int y3)] → W p l e ({ frames := 1, cells := 0, slots := 0, locals := 22 } : Room) s m (([.ref (a 13), .ref (a 14), .int p2] : List Value).toArray) below meth c H locs 0 0 (MQ below (xQv D κ (WH κ a uh ++ (WR κ a ur')) A) (([.ref (a 13), .ref (a 14), .int p2] : List Value).toArray) s 0 0 A) (F0 m 4 ls [])), ∀ (n : Nat), ∀ (x2 : Int32) (x3 : Int32) (x4 : Int32) (ur : RS), f_X2_sort1_11 uh rec4 n x2 x3 x4 ur = some (ur') → ∀ (H : Heap) (locs : List Loc) (ls : Array Slot), xG D A s.heap (WH κ a uh ++ (WR κ a ur)) H locs → lv_has ls 7 [(0, .ref (a 13)), (1, .ref (a 14)), (2, .int x2), (3, .int x3), (4, .int x4)] → W p l e ({ frames := 1, cells := 0, slots := 0, locals := 22 } : Room) s m (([.ref (a 13), .ref (a 14), .int p2] : List Value).toArray) below meth c H locs 0 0 (MQ below (xQv D κ (WH κ a uh ++ (WR κ a ur')) A) (([.ref (a 13), .ref (a 14), .int p2] : List Value).toArray) s 0 0 A) (F0 m 11 ls []) := by
    intro rec4 hr4 n
    induction n with
    | zero => intro x2 x3 x4 ur hf; cases hf
    | succ n ih =>
      intro x2 x3 x4 ur hf H locs ls hG hl
      replace hf : f_X2_sort1_B11 uh rec4 (f_X2_sort1_11 uh rec4 n) x2 x3 x4 ur = some (ur') := hf
      unfold f_X2_sort1_B11 at hf
      refine lv_iload hx hb dX2_sort_11 (lv_at hl 4 rfl) ?_
      refine lv_iload_n hx hb dX2_sort_13 rfl (lv_at hl 2 rfl) ?_
      refine lv_icmp_ge (tgt := 82) hx hb dX2_sort_14 (by decide) (fun c11 => ?_) (fun c11 => ?_)
      · replace hf := if_t c11 hf
        refine lv_iload_n hx hb dX2_sort_82 rfl (lv_at hl 3 rfl) ?_
        refine lv_iconst (v := 2) hx hb dX2_sort_83 (by decide) ?_
        refine lv_idiv hx hb dX2_sort_84 (by decide) ?_
        refine lv_topi (fun y12 ey12 => ?_)
        replace hf := bnd_at ey12 hf
        refine lv_istore_n (lv' := [(3, .int y12), (0, .ref (a 13)), (1, .ref (a 14)), (2, .int x2), (4, .int x4)]) hx hb dX2_sort_85 rfl hl (by decide) rfl (fun ls hl => ?_)
        refine lv_goto (tgt := 4) hx hb dX2_sort_86 (by decide) ?_
        exact hr4 x2 y12 ur hf H locs ls hG (lv_sub hl [1, 2, 3, 0] rfl)
      · replace hf := if_f c11 hf
        refine lv_aload_n hx hb dX2_sort_17 rfl (lv_at hl 1 rfl) ?_
        refine lv_iload hx hb dX2_sort_18 (lv_at hl 4 rfl) ?_
        obtain ⟨v13, ev13, hin, hf⟩ := ck_e hf
        refine x_iald hx hb hK hG 14 rfl ev13 hin dX2_sort_20 ?_
        refine lv_istore (lv' := [(5, .int v13), (0, .ref (a 13)), (1, .ref (a 14)), (2, .int x2), (3, .int x3), (4, .int x4)]) hx hb dX2_sort_21 hl (by decide) rfl (fun ls hl => ?_)
        refine lv_iload hx hb dX2_sort_23 (lv_at hl 5 rfl) ?_
        refine lv_istore (lv' := [(6, .int x4), (5, .int v13), (0, .ref (a 13)), (1, .ref (a 14)), (2, .int x2), (3, .int x3), (4, .int x4)]) hx hb dX2_sort_25 hl (by decide) rfl (fun ls hl => ?_)
        exact L27 rec4 hr4 (f_X2_sort1_11 uh rec4 n) ih FU x2 x3 x4 v13 x4 ur hf H locs ls hG (lv_sub hl [2, 3, 4, 5, 6, 1, 0] rfl)
  have L4 : ∀ (n : Nat), ∀ (x2 : Int32) (x3 : Int32) (ur : RS), f_X2_sort1_4 uh n x2 x3 ur = some (ur') → ∀ (H : Heap) (locs : List Loc) (ls : Array Slot), xG D A s.heap (WH κ a uh ++ (WR κ a ur)) H locs → lv_has ls 7 [(0, .ref (a 13)), (1, .ref (a 14)), (2, .int x2), (3, .int x3)] → W p l e ({ frames := 1, cells := 0, slots := 0, locals := 22 } : Room) s m (([.ref (a 13), .ref (a 14), .int p2] : List Value).toArray) below meth c H locs 0 0 (MQ below (xQv D κ (WH κ a uh ++ (WR κ a ur')) A) (([.ref (a 13), .ref (a 14), .int p2] : List Value).toArray) s 0 0 A) (F0 m 4 ls []) := by
    intro  n
    induction n with
    | zero => intro x2 x3 ur hf; cases hf
    | succ n ih =>
      intro x2 x3 ur hf H locs ls hG hl
      replace hf : f_X2_sort1_B4 uh (f_X2_sort1_4 uh n) x2 x3 ur = some (ur') := hf
      unfold f_X2_sort1_B4 at hf
      refine lv_iload_n hx hb dX2_sort_4 rfl (lv_at hl 3 rfl) ?_
      refine lv_if_le (tgt := 89) hx hb dX2_sort_5 (by decide) (fun c14 => ?_) (fun c14 => ?_)
      · replace hf := if_t c14 hf
        have z0 := Option.some.inj hf
        exact x_vret hx hb hr hlk hK hG (by rw [z0]) dX2_sort_89
      · replace hf := if_f c14 hf
        refine lv_iload_n hx hb dX2_sort_8 rfl (lv_at hl 3 rfl) ?_
        refine lv_istore (lv' := [(4, .int x3), (0, .ref (a 13)), (1, .ref (a 14)), (2, .int x2), (3, .int x3)]) hx hb dX2_sort_9 hl (by decide) rfl (fun ls hl => ?_)
        exact L11 (f_X2_sort1_4 uh n) ih FU x2 x3 x3 ur hf H locs ls hG (lv_sub hl [1, 2, 3, 4, 0] rfl)
  unfold f_X2_sort1 at hf
  refine lv_iload_n hx hb dX2_sort_0 rfl (lv_at hl 2 rfl) ?_
  refine lv_iconst (v := 2) hx hb dX2_sort_1 (by decide) ?_
  refine lv_idiv hx hb dX2_sort_2 (by decide) ?_
  refine lv_topi (fun y15 ey15 => ?_)
  replace hf := bnd_at ey15 hf
  refine lv_istore_n (lv' := [(3, .int y15), (0, .ref (a 13)), (1, .ref (a 14)), (2, .int p2)]) hx hb dX2_sort_3 rfl hl (by decide) rfl (fun ls hl => ?_)
  exact L4  FU p2 y15 ur hf H locs ls hG (lv_sub hl [1, 2, 3, 0] rfl)
set_option maxRecDepth 100000 in
set_option maxHeartbeats 4000000 in
theorem c_X2_sort2 (l : Launch) (D : va_G) (κ : Nat → ClassId) (a : Nat → Nat) (sz : Nat) (p2 : Int32) (uh : HS) (ur : RS)  (ur' : RS) (hf : f_X2_sort2 p2 uh ur = some (ur')) : Met l yX2_sort wsX2_sort ({ frames := 1, cells := 0, slots := 0, locals := 22 } : Room) (xPc D κ [.ref (a 13), .ref (a 15), .int p2] (WH κ a uh ++ (WR κ a ur)) sz) (xQv D κ (WH κ a uh ++ (WR κ a ur')) (va_A (WH κ a uh ++ (WR κ a ur)) sz)) 0 0 (va_A (WH κ a uh ++ (WR κ a ur)) sz) := by
  refine x_ofW (cc := cX2_sort) (maxL := 7) (ret := none) (Qf := fun A => xQv D κ (WH κ a uh ++ (WR κ a ur')) A) (by decide) rfl (Nat.le_of_ble_eq_true rfl) ?_
  intro p e s m below meth c hx hb hr hlk hml hown hts hK A hA H locs hG ls hl
  have hown : s.vm.findClass RX2 = some m.cls := hown
  have hl : lv_has ls 7 [(0, .ref (a 13)), (1, .ref (a 15)), (2, .int p2)] := hl
  have iX2 : ∀ w ∈ u_ws RX2 TX2 6, w ∈ wsX2_sort := fun _ h => List.mem_cons_of_mem _ (List.mem_append_left _ (List.mem_append_right _ h))
  have k9 := hts (.fieldLink RX2 9 "SpineDesks$Rows" "hall" "LSpineDesks$Hall;") (List.mem_of_getElem? (i := 1) rfl)
  have L70 : ∀ (rec4 : Int32 → Int32 → RS → Option (RS)) (hr4 : ∀ (y2 : Int32) (y3 : Int32) (ur : RS), rec4 y2 y3 ur = some (ur') → ∀ (H : Heap) (locs : List Loc) (ls : Array Slot), xG D A s.heap (WH κ a uh ++ (WR κ a ur)) H locs → lv_has ls 7 [(0, .ref (a 13)), (1, .ref (a 15)), (2, .int y2), (3, .int y3)] → W p l e ({ frames := 1, cells := 0, slots := 0, locals := 22 } : Room) s m (([.ref (a 13), .ref (a 15), .int p2] : List Value).toArray) below meth c H locs 0 0 (MQ below (xQv D κ (WH κ a uh ++ (WR κ a ur')) A) (([.ref (a 13), .ref (a 15), .int p2] : List Value).toArray) s 0 0 A) (F0 m 4 ls [])) (rec11 : Int32 → Int32 → Int32 → RS → Option (RS)) (hr11 : ∀ (y2 : Int32) (y3 : Int32) (y4 : Int32) (ur : RS), rec11 y2 y3 y4 ur = some (ur') → ∀ (H : Heap) (locs : List Loc) (ls : Array Slot), xG D A s.heap (WH κ a uh ++ (WR κ a ur)) H locs → lv_has ls 7 [(0, .ref (a 13)), (1, .ref (a 15)), (2, .int y2), (3, .int y3), (4, .int y4)] → W p l e ({ frames := 1, cells := 0, slots := 0, locals := 22 } : Room) s m (([.ref (a 13), .ref (a 15), .int p2] : List Value).toArray) below meth c H locs 0 0 (MQ below (xQv D κ (WH κ a uh ++ (WR κ a ur')) A) (([.ref (a 13), .ref (a 15), .int p2] : List Value).toArray) s 0 0 A) (F0 m 11 ls [])), ∀ (x2 : Int32) (x3 : Int32) (x4 : Int32) (x5 : Int32) (x6 : Int32) (ur : RS), f_X2_sort2_70 uh rec4 rec11 x2 x3 x4 x5 x6 ur = some (ur') → ∀ (H : Heap) (locs : List Loc) (ls : Array Slot), xG D A s.heap (WH κ a uh ++ (WR κ a ur)) H locs → lv_has ls 7 [(0, .ref (a 13)), (1, .ref (a 15)), (2, .int x2), (3, .int x3), (4, .int x4), (5, .int x5), (6, .int x6)] → W p l e ({ frames := 1, cells := 0, slots := 0, locals := 22 } : Room) s m (([.ref (a 13), .ref (a 15), .int p2] : List Value).toArray) below meth c H locs 0 0 (MQ below (xQv D κ (WH κ a uh ++ (WR κ a ur')) A) (([.ref (a 13), .ref (a 15), .int p2] : List Value).toArray) s 0 0 A) (F0 m 70 ls []) := by
    intro rec4 hr4 rec11 hr11 x2 x3 x4 x5 x6 ur hf H locs ls hG hl
    unfold f_X2_sort2_70 at hf
    refine lv_aload_n hx hb dX2_sort_70 rfl (lv_at hl 1 rfl) ?_
    refine lv_iload hx hb dX2_sort_71 (lv_at hl 6 rfl) ?_
    refine lv_iload hx hb dX2_sort_73 (lv_at hl 5 rfl) ?_
    obtain ⟨ur1, eur1, hin, hf⟩ := ck_e hf
    refine x_iast hx hb hK hG 15 rfl (w1 := WH κ a uh ++ (WR κ a ur1)) (by rw [eur1]; rfl) hin dX2_sort_75 (fun H locs hG => ?_)
    obtain ⟨y2, ey2, hf⟩ := bnd_e hf
    refine lv_iinc (v := y2) (lv' := [(4, .int y2), (0, .ref (a 13)), (1, .ref (a 15)), (2, .int x2), (3, .int x3), (5, .int x5), (6, .int x6)]) hx hb dX2_sort_76 hl (k := 4) rfl (by rw [ey2]; rfl) (by decide) rfl (fun ls hl => ?_)
    refine lv_goto (tgt := 11) hx hb dX2_sort_79 (by decide) ?_
    exact hr11 x2 x3 y2 ur1 hf H locs ls hG (lv_sub hl [1, 2, 3, 4, 0] rfl)
  have L27 : ∀ (rec4 : Int32 → Int32 → RS → Option (RS)) (hr4 : ∀ (y2 : Int32) (y3 : Int32) (ur : RS), rec4 y2 y3 ur = some (ur') → ∀ (H : Heap) (locs : List Loc) (ls : Array Slot), xG D A s.heap (WH κ a uh ++ (WR κ a ur)) H locs → lv_has ls 7 [(0, .ref (a 13)), (1, .ref (a 15)), (2, .int y2), (3, .int y3)] → W p l e ({ frames := 1, cells := 0, slots := 0, locals := 22 } : Room) s m (([.ref (a 13), .ref (a 15), .int p2] : List Value).toArray) below meth c H locs 0 0 (MQ below (xQv D κ (WH κ a uh ++ (WR κ a ur')) A) (([.ref (a 13), .ref (a 15), .int p2] : List Value).toArray) s 0 0 A) (F0 m 4 ls [])) (rec11 : Int32 → Int32 → Int32 → RS → Option (RS)) (hr11 : ∀ (y2 : Int32) (y3 : Int32) (y4 : Int32) (ur : RS), rec11 y2 y3 y4 ur = some (ur') → ∀ (H : Heap) (locs : List Loc) (ls : Array Slot), xG D A s.heap (WH κ a uh ++ (WR κ a ur)) H locs → lv_has ls 7 [(0, .ref (a 13)), (1, .ref (a 15)), (2, .int y2), (3, .int y3), (4, .int y4)] → W p l e ({ frames := 1, cells := 0, slots := 0, locals := 22 } : Room) s m (([.ref (a 13), .ref (a 15), .int p2] : List Value).toArray) below meth c H locs 0 0 (MQ below (xQv D κ (WH κ a uh ++ (WR κ a ur')) A) (([.ref (a 13), .ref (a 15), .int p2] : List Value).toArray) s 0 0 A) (F0 m 11 ls [])), ∀ (n : Nat), ∀ (x2 : Int32) (x3 : Int32) (x4 : Int32) (x5 : Int32) (x6 : Int32) (ur : RS), f_X2_sort2_27 uh rec4 rec11 n x2 x3 x4 x5 x6 ur = some (ur') → ∀ (H : Heap) (locs : List Loc) (ls : Array Slot), xG D A s.heap (WH κ a uh ++ (WR κ a ur)) H locs → lv_has ls 7 [(0, .ref (a 13)), (1, .ref (a 15)), (2, .int x2), (3, .int x3), (4, .int x4), (5, .int x5), (6, .int x6)] → W p l e ({ frames := 1, cells := 0, slots := 0, locals := 22 } : Room) s m (([.ref (a 13), .ref (a 15), .int p2] : List Value).toArray) below meth c H locs 0 0 (MQ below (xQv D κ (WH κ a uh ++ (WR κ a ur')) A) (([.ref (a 13), .ref (a 15), .int p2] : List Value).toArray) s 0 0 A) (F0 m 27 ls []) := by
    intro rec4 hr4 rec11 hr11 n
    induction n with
    | zero => intro x2 x3 x4 x5 x6 ur hf; cases hf
    | succ n ih =>
      intro x2 x3 x4 x5 x6 ur hf H locs ls hG hl
      replace hf : f_X2_sort2_B27 uh rec4 rec11 (f_X2_sort2_27 uh rec4 rec11 n) x2 x3 x4 x5 x6 ur = some (ur') := hf
      unfold f_X2_sort2_B27 at hf
      refine lv_iload hx hb dX2_sort_27 (lv_at hl 6 rfl) ?_
      refine lv_iload_n hx hb dX2_sort_29 rfl (lv_at hl 3 rfl) ?_
      refine lv_icmp_lt (tgt := 70) hx hb dX2_sort_30 (by decide) (fun c3 => ?_) (fun c3 => ?_)
      · replace hf := if_t c3 hf
        exact L70 rec4 hr4 rec11 hr11  x2 x3 x4 x5 x6 ur hf H locs ls hG (lv_sub hl [0, 1, 2, 3, 4, 5, 6] rfl)
      · replace hf := if_f c3 hf
        refine lv_aload_n hx hb dX2_sort_33 rfl (lv_at hl 0 rfl) ?_
        refine x_get (C := RX2) (T := TX2) (N := 6) (ci := 2) hx hb hts iX2 hown hK hG 13 rfl rfl 0 (by decide) k9 (v := .ref (a 0)) rfl dX2_sort_34 ?_
        refine lv_iload hx hb dX2_sort_37 (lv_at hl 5 rfl) ?_
        refine lv_aload_n hx hb dX2_sort_39 rfl (lv_at hl 1 rfl) ?_
        refine lv_iload hx hb dX2_sort_40 (lv_at hl 6 rfl) ?_
        refine lv_iload_n hx hb dX2_sort_42 rfl (lv_at hl 3 rfl) ?_
        refine lv_isub hx hb dX2_sort_43 ?_
        obtain ⟨v4, ev4, hin, hf⟩ := ck_e hf
        refine x_iald hx hb hK hG 15 rfl ev4 hin dX2_sort_44 ?_
        obtain ⟨r5, q6, hf⟩ := cl1_e hf
        refine x_callVi (pre := ([] : va_W)) (wc := WH κ a uh) (wc1 := WH κ a uh) (post := WR κ a ur) (As := [.int x5, .int v4]) (rest := []) (w1 := WH κ a uh ++ (WR κ a ur)) ⟨hx, hb, hml, hown, hts⟩ hK hG hA (by simp only [List.append_assoc, List.nil_append, List.append_nil]) (by simp only [List.append_assoc, List.nil_append, List.append_nil]) (c_X0_isLess l D κ a H.size x5 v4 uh r5 q6) (cwV 2 hts gX2_sort_X0_isLess rfl rfl rfl (by decide +kernel) ⟨Nat.le_of_ble_eq_true rfl, Nat.le_of_ble_eq_true rfl⟩) 0 0 rfl rfl rfl rfl hl.1 rfl (Nat.le_of_ble_eq_true rfl) dX2_sort_45 ⟨Nat.zero_le _, Nat.zero_le _⟩ (fun H locs hG => ?_)
        refine lv_if_eq (tgt := 70) hx hb dX2_sort_48 (by decide) (fun c7 => ?_) (fun c7 => ?_)
        · replace hf := if_t c7 hf
          exact L70 rec4 hr4 rec11 hr11  x2 x3 x4 x5 x6 ur hf H locs ls hG (lv_sub hl [0, 1, 2, 3, 4, 5, 6] rfl)
        · replace hf := if_f c7 hf
          refine lv_aload_n hx hb dX2_sort_51 rfl (lv_at hl 1 rfl) ?_
          refine lv_iload hx hb dX2_sort_52 (lv_at hl 6 rfl) ?_
          refine lv_aload_n hx hb dX2_sort_54 rfl (lv_at hl 1 rfl) ?_
          refine lv_iload hx hb dX2_sort_55 (lv_at hl 6 rfl) ?_
          refine lv_iload_n hx hb dX2_sort_57 rfl (lv_at hl 3 rfl) ?_
          refine lv_isub hx hb dX2_sort_58 ?_
          obtain ⟨v8, ev8, hin, hf⟩ := ck_e hf
          refine x_iald hx hb hK hG 15 rfl ev8 hin dX2_sort_59 ?_
          obtain ⟨ur9, eur9, hin, hf⟩ := ck_e hf
          refine x_iast hx hb hK hG 15 rfl (w1 := WH κ a uh ++ (WR κ a ur9)) (by rw [eur9]; rfl) hin dX2_sort_60 (fun H locs hG => ?_)
          refine lv_iload hx hb dX2_sort_61 (lv_at hl 6 rfl) ?_
          refine lv_iload_n hx hb dX2_sort_63 rfl (lv_at hl 3 rfl) ?_
          refine lv_isub hx hb dX2_sort_64 ?_
          refine lv_topi (fun y10 ey10 => ?_)
          replace hf := bnd_at ey10 hf
          refine lv_istore (lv' := [(6, .int y10), (0, .ref (a 13)), (1, .ref (a 15)), (2, .int x2), (3, .int x3), (4, .int x4), (5, .int x5)]) hx hb dX2_sort_65 hl (by decide) rfl (fun ls hl => ?_)
          refine lv_goto (tgt := 27) hx hb dX2_sort_67 (by decide) ?_
          exact ih x2 x3 x4 x5 y10 ur9 hf H locs ls hG (lv_sub hl [1, 2, 3, 4, 5, 6, 0] rfl)
  have L11 : ∀ (rec4 : Int32 → Int32 → RS → Option (RS)) (hr4 : ∀ (y2 : Int32) (y3 : Int32) (ur : RS), rec4 y2 y3 ur = some (ur') → ∀ (H : Heap) (locs : List Loc) (ls : Array Slot), xG D A s.heap (WH κ a uh ++ (WR κ a ur)) H locs → lv_has ls 7 [(0, .ref (a 13)), (1, .ref (a 15)), (2, .int y2), (3, .int y3)] → W p l e ({ frames := 1, cells := 0, slots := 0, locals := 22 } : Room) s m (([.ref (a 13), .ref (a 15), .int p2] : List Value).toArray) below meth c H locs 0 0 (MQ below (xQv D κ (WH κ a uh ++ (WR κ a ur')) A) (([.ref (a 13), .ref (a 15), .int p2] : List Value).toArray) s 0 0 A) (F0 m 4 ls [])), ∀ (n : Nat), ∀ (x2 : Int32) (x3 : Int32) (x4 : Int32) (ur : RS), f_X2_sort2_11 uh rec4 n x2 x3 x4 ur = some (ur') → ∀ (H : Heap) (locs : List Loc) (ls : Array Slot), xG D A s.heap (WH κ a uh ++ (WR κ a ur)) H locs → lv_has ls 7 [(0, .ref (a 13)), (1, .ref (a 15)), (2, .int x2), (3, .int x3), (4, .int x4)] → W p l e ({ frames := 1, cells := 0, slots := 0, locals := 22 } : Room) s m (([.ref (a 13), .ref (a 15), .int p2] : List Value).toArray) below meth c H locs 0 0 (MQ below (xQv D κ (WH κ a uh ++ (WR κ a ur')) A) (([.ref (a 13), .ref (a 15), .int p2] : List Value).toArray) s 0 0 A) (F0 m 11 ls []) := by
    intro rec4 hr4 n
    induction n with
    | zero => intro x2 x3 x4 ur hf; cases hf
    | succ n ih =>
      intro x2 x3 x4 ur hf H locs ls hG hl
      replace hf : f_X2_sort2_B11 uh rec4 (f_X2_sort2_11 uh rec4 n) x2 x3 x4 ur = some (ur') := hf
      unfold f_X2_sort2_B11 at hf
      refine lv_iload hx hb dX2_sort_11 (lv_at hl 4 rfl) ?_
      refine lv_iload_n hx hb dX2_sort_13 rfl (lv_at hl 2 rfl) ?_
      refine lv_icmp_ge (tgt := 82) hx hb dX2_sort_14 (by decide) (fun c11 => ?_) (fun c11 => ?_)
      · replace hf := if_t c11 hf
        refine lv_iload_n hx hb dX2_sort_82 rfl (lv_at hl 3 rfl) ?_
        refine lv_iconst (v := 2) hx hb dX2_sort_83 (by decide) ?_
        refine lv_idiv hx hb dX2_sort_84 (by decide) ?_
        refine lv_topi (fun y12 ey12 => ?_)
        replace hf := bnd_at ey12 hf
        refine lv_istore_n (lv' := [(3, .int y12), (0, .ref (a 13)), (1, .ref (a 15)), (2, .int x2), (4, .int x4)]) hx hb dX2_sort_85 rfl hl (by decide) rfl (fun ls hl => ?_)
        refine lv_goto (tgt := 4) hx hb dX2_sort_86 (by decide) ?_
        exact hr4 x2 y12 ur hf H locs ls hG (lv_sub hl [1, 2, 3, 0] rfl)
      · replace hf := if_f c11 hf
        refine lv_aload_n hx hb dX2_sort_17 rfl (lv_at hl 1 rfl) ?_
        refine lv_iload hx hb dX2_sort_18 (lv_at hl 4 rfl) ?_
        obtain ⟨v13, ev13, hin, hf⟩ := ck_e hf
        refine x_iald hx hb hK hG 15 rfl ev13 hin dX2_sort_20 ?_
        refine lv_istore (lv' := [(5, .int v13), (0, .ref (a 13)), (1, .ref (a 15)), (2, .int x2), (3, .int x3), (4, .int x4)]) hx hb dX2_sort_21 hl (by decide) rfl (fun ls hl => ?_)
        refine lv_iload hx hb dX2_sort_23 (lv_at hl 5 rfl) ?_
        refine lv_istore (lv' := [(6, .int x4), (5, .int v13), (0, .ref (a 13)), (1, .ref (a 15)), (2, .int x2), (3, .int x3), (4, .int x4)]) hx hb dX2_sort_25 hl (by decide) rfl (fun ls hl => ?_)
        exact L27 rec4 hr4 (f_X2_sort2_11 uh rec4 n) ih FU x2 x3 x4 v13 x4 ur hf H locs ls hG (lv_sub hl [2, 3, 4, 5, 6, 1, 0] rfl)
  have L4 : ∀ (n : Nat), ∀ (x2 : Int32) (x3 : Int32) (ur : RS), f_X2_sort2_4 uh n x2 x3 ur = some (ur') → ∀ (H : Heap) (locs : List Loc) (ls : Array Slot), xG D A s.heap (WH κ a uh ++ (WR κ a ur)) H locs → lv_has ls 7 [(0, .ref (a 13)), (1, .ref (a 15)), (2, .int x2), (3, .int x3)] → W p l e ({ frames := 1, cells := 0, slots := 0, locals := 22 } : Room) s m (([.ref (a 13), .ref (a 15), .int p2] : List Value).toArray) below meth c H locs 0 0 (MQ below (xQv D κ (WH κ a uh ++ (WR κ a ur')) A) (([.ref (a 13), .ref (a 15), .int p2] : List Value).toArray) s 0 0 A) (F0 m 4 ls []) := by
    intro  n
    induction n with
    | zero => intro x2 x3 ur hf; cases hf
    | succ n ih =>
      intro x2 x3 ur hf H locs ls hG hl
      replace hf : f_X2_sort2_B4 uh (f_X2_sort2_4 uh n) x2 x3 ur = some (ur') := hf
      unfold f_X2_sort2_B4 at hf
      refine lv_iload_n hx hb dX2_sort_4 rfl (lv_at hl 3 rfl) ?_
      refine lv_if_le (tgt := 89) hx hb dX2_sort_5 (by decide) (fun c14 => ?_) (fun c14 => ?_)
      · replace hf := if_t c14 hf
        have z0 := Option.some.inj hf
        exact x_vret hx hb hr hlk hK hG (by rw [z0]) dX2_sort_89
      · replace hf := if_f c14 hf
        refine lv_iload_n hx hb dX2_sort_8 rfl (lv_at hl 3 rfl) ?_
        refine lv_istore (lv' := [(4, .int x3), (0, .ref (a 13)), (1, .ref (a 15)), (2, .int x2), (3, .int x3)]) hx hb dX2_sort_9 hl (by decide) rfl (fun ls hl => ?_)
        exact L11 (f_X2_sort2_4 uh n) ih FU x2 x3 x3 ur hf H locs ls hG (lv_sub hl [1, 2, 3, 4, 0] rfl)
  unfold f_X2_sort2 at hf
  refine lv_iload_n hx hb dX2_sort_0 rfl (lv_at hl 2 rfl) ?_
  refine lv_iconst (v := 2) hx hb dX2_sort_1 (by decide) ?_
  refine lv_idiv hx hb dX2_sort_2 (by decide) ?_
  refine lv_topi (fun y15 ey15 => ?_)
  replace hf := bnd_at ey15 hf
  refine lv_istore_n (lv' := [(3, .int y15), (0, .ref (a 13)), (1, .ref (a 15)), (2, .int p2)]) hx hb dX2_sort_3 rfl hl (by decide) rfl (fun ls hl => ?_)
  exact L4  FU p2 y15 ur hf H locs ls hG (lv_sub hl [1, 2, 3, 0] rfl)
set_option maxRecDepth 100000 in
set_option maxHeartbeats 4000000 in
theorem c_X2_sortInto1 (l : Launch) (D : va_G) (κ : Nat → ClassId) (a : Nat → Nat) (sz : Nat) (p2 : Int32) (uh : HS) (ur : RS) (r' : Int32) (ur' : RS) (hf : f_X2_sortInto1 p2 uh ur = some (r', ur')) : Met l yX2_sortInto wsX2_sortInto ({ frames := 2, cells := 0, slots := 0, locals := 48 } : Room) (xPc D κ [.ref (a 13), .ref (a 14), .int p2] (WH κ a uh ++ (WR κ a ur)) sz) (xQi D κ r' (WH κ a uh ++ (WR κ a ur')) (va_A (WH κ a uh ++ (WR κ a ur)) sz)) 0 0 (va_A (WH κ a uh ++ (WR κ a ur)) sz) := by
  refine x_ofW (cc := cX2_sortInto) (maxL := 5) (ret := (some .int)) (Qf := fun A => xQi D κ r' (WH κ a uh ++ (WR κ a ur')) A) (by decide) rfl (Nat.le_of_ble_eq_true rfl) ?_
  intro p e s m below meth c hx hb hr hlk hml hown hts hK A hA H locs hG ls hl
  have hown : s.vm.findClass RX2 = some m.cls := hown
  have hl : lv_has ls 5 [(0, .ref (a 13)), (1, .ref (a 14)), (2, .int p2)] := hl
  have iX0 : ∀ w ∈ u_ws RX0 TX0 17, w ∈ wsX2_sortInto := fun _ h => List.mem_cons_of_mem _ (List.mem_append_right _ h)
  have iX2 : ∀ w ∈ u_ws RX2 TX2 6, w ∈ wsX2_sortInto := fun _ h => List.mem_cons_of_mem _ (List.mem_append_left _ (List.mem_append_right _ h))
  have k55 := hts (.fieldLink RX2 55 "SpineDesks$Hall" "came" "I") (List.mem_of_getElem? (i := 2) rfl)
  have k9 := hts (.fieldLink RX2 9 "SpineDesks$Rows" "hall" "LSpineDesks$Hall;") (List.mem_of_getElem? (i := 1) rfl)
  have L38 : ∀ (rec5 : Int32 → Int32 → Int32 → RS → Option (Int32 × RS)) (hr5 : ∀ (y2 : Int32) (y3 : Int32) (y4 : Int32) (ur : RS), rec5 y2 y3 y4 ur = some (r', ur') → ∀ (H : Heap) (locs : List Loc) (ls : Array Slot), xG D A s.heap (WH κ a uh ++ (WR κ a ur)) H locs → lv_has ls 5 [(0, .ref (a 13)), (1, .ref (a 14)), (2, .int y2), (3, .int y3), (4, .int y4)] → W p l e ({ frames := 2, cells := 0, slots := 0, locals := 48 } : Room) s m (([.ref (a 13), .ref (a 14), .int p2] : List Value).toArray) below meth c H locs 0 0 (MQ below (xQi D κ r' (WH κ a uh ++ (WR κ a ur')) A) (([.ref (a 13), .ref (a 14), .int p2] : List Value).toArray) s 0 0 A) (F0 m 5 ls [])), ∀ (x2 : Int32) (x3 : Int32) (x4 : Int32) (ur : RS), f_X2_sortInto1_38 uh rec5 x2 x3 x4 ur = some (r', ur') → ∀ (H : Heap) (locs : List Loc) (ls : Array Slot), xG D A s.heap (WH κ a uh ++ (WR κ a ur)) H locs → lv_has ls 5 [(0, .ref (a 13)), (1, .ref (a 14)), (2, .int x2), (3, .int x3), (4, .int x4)] → W p l e ({ frames := 2, cells := 0, slots := 0, locals := 48 } : Room) s m (([.ref (a 13), .ref (a 14), .int p2] : List Value).toArray) below meth c H locs 0 0 (MQ below (xQi D κ r' (WH κ a uh ++ (WR κ a ur')) A) (([.ref (a 13), .ref (a 14), .int p2] : List Value).toArray) s 0 0 A) (F0 m 38 ls []) := by
    intro rec5 hr5 x2 x3 x4 ur hf H locs ls hG hl
    unfold f_X2_sortInto1_38 at hf
    obtain ⟨y1, ey1, hf⟩ := bnd_e hf
    refine lv_iinc (v := y1) (lv' := [(4, .int y1), (0, .ref (a 13)), (1, .ref (a 14)), (2, .int x2), (3, .int x3)]) hx hb dX2_sortInto_38 hl (k := 4) rfl (by rw [ey1]; rfl) (by decide) rfl (fun ls hl => ?_)
    refine lv_goto (tgt := 5) hx hb dX2_sortInto_41 (by decide) ?_
    exact hr5 x2 x3 y1 ur hf H locs ls hG (lv_sub hl [1, 2, 3, 4, 0] rfl)
  have L5 : ∀ (n : Nat), ∀ (x2 : Int32) (x3 : Int32) (x4 : Int32) (ur : RS), f_X2_sortInto1_5 uh n x2 x3 x4 ur = some (r', ur') → ∀ (H : Heap) (locs : List Loc) (ls : Array Slot), xG D A s.heap (WH κ a uh ++ (WR κ a ur)) H locs → lv_has ls 5 [(0, .ref (a 13)), (1, .ref (a 14)), (2, .int x2), (3, .int x3), (4, .int x4)] → W p l e ({ frames := 2, cells := 0, slots := 0, locals := 48 } : Room) s m (([.ref (a 13), .ref (a 14), .int p2] : List Value).toArray) below meth c H locs 0 0 (MQ below (xQi D κ r' (WH κ a uh ++ (WR κ a ur')) A) (([.ref (a 13), .ref (a 14), .int p2] : List Value).toArray) s 0 0 A) (F0 m 5 ls []) := by
    intro  n
    induction n with
    | zero => intro x2 x3 x4 ur hf; cases hf
    | succ n ih =>
      intro x2 x3 x4 ur hf H locs ls hG hl
      replace hf : f_X2_sortInto1_B5 uh (f_X2_sortInto1_5 uh n) x2 x3 x4 ur = some (r', ur') := hf
      unfold f_X2_sortInto1_B5 at hf
      refine lv_iload hx hb dX2_sortInto_5 (lv_at hl 4 rfl) ?_
      refine lv_aload_n hx hb dX2_sortInto_7 rfl (lv_at hl 0 rfl) ?_
      refine x_get (C := RX2) (T := TX2) (N := 6) (ci := 2) hx hb hts iX2 hown hK hG 13 rfl rfl 0 (by decide) k9 (v := .ref (a 0)) rfl dX2_sortInto_8 ?_
      refine x_get (C := RX0) (T := TX0) (N := 17) (ci := 0) hx hb hts iX0 hown hK hG 0 rfl rfl 0 (by decide) k55 (v := .int (uh.came)) rfl dX2_sortInto_11 ?_
      refine lv_icmp_ge (tgt := 44) hx hb dX2_sortInto_14 (by decide) (fun c2 => ?_) (fun c2 => ?_)
      · replace hf := if_t c2 hf
        refine lv_aload_n hx hb dX2_sortInto_44 rfl (lv_at hl 0 rfl) ?_
        refine lv_aload_n hx hb dX2_sortInto_45 rfl (lv_at hl 1 rfl) ?_
        refine lv_iload_n hx hb dX2_sortInto_46 rfl (lv_at hl 3 rfl) ?_
        obtain ⟨ur3, q4, hf⟩ := cl1_e hf
        refine x_callVv (pre := ([] : va_W)) (wc := WH κ a uh ++ (WR κ a ur)) (wc1 := WH κ a uh ++ (WR κ a ur3)) (post := ([] : va_W)) (As := [.ref (a 14), .int x3]) (rest := []) (w1 := WH κ a uh ++ (WR κ a ur3)) ⟨hx, hb, hml, hown, hts⟩ hK hG hA (by simp only [List.append_assoc, List.nil_append, List.append_nil]) (by simp only [List.append_assoc, List.nil_append, List.append_nil]) (c_X2_sort1 l D κ a H.size x3 uh ur ur3 q4) (cwV 2 hts gX2_sortInto_X2_sort rfl rfl rfl (by decide +kernel) ⟨Nat.le_of_ble_eq_true rfl, Nat.le_of_ble_eq_true rfl⟩) 13 2 rfl rfl rfl rfl hl.1 rfl (Nat.le_of_ble_eq_true rfl) dX2_sortInto_47 ⟨Nat.zero_le _, Nat.zero_le _⟩ (fun H locs hG => ?_)
        refine lv_iload_n hx hb dX2_sortInto_50 rfl (lv_at hl 3 rfl) ?_
        have hz := Option.some.inj hf
        have z0 := (Prod.mk.inj hz).1
        replace hz := (Prod.mk.inj hz).2
        have z1 := hz
        exact x_iret hx hb hr hlk hK hG z0 (by rw [z1]) dX2_sortInto_51
      · replace hf := if_f c2 hf
        refine lv_aload_n hx hb dX2_sortInto_17 rfl (lv_at hl 0 rfl) ?_
        refine x_get (C := RX2) (T := TX2) (N := 6) (ci := 2) hx hb hts iX2 hown hK hG 13 rfl rfl 0 (by decide) k9 (v := .ref (a 0)) rfl dX2_sortInto_18 ?_
        refine lv_iload hx hb dX2_sortInto_21 (lv_at hl 4 rfl) ?_
        refine lv_iload_n hx hb dX2_sortInto_23 rfl (lv_at hl 2 rfl) ?_
        obtain ⟨r5, q6, hf⟩ := cl1_e hf
        refine x_callVi (pre := ([] : va_W)) (wc := WH κ a uh) (wc1 := WH κ a uh) (post := WR κ a ur) (As := [.int x4, .int x2]) (rest := []) (w1 := WH κ a uh ++ (WR κ a ur)) ⟨hx, hb, hml, hown, hts⟩ hK hG hA (by simp only [List.append_assoc, List.nil_append, List.append_nil]) (by simp only [List.append_assoc, List.nil_append, List.append_nil]) (c_X0_isPlainIn l D κ a H.size x4 x2 uh r5 q6) (cwV 2 hts gX2_sortInto_X0_isPlainIn rfl rfl rfl (by decide +kernel) ⟨Nat.le_of_ble_eq_true rfl, Nat.le_of_ble_eq_true rfl⟩) 0 0 rfl rfl rfl rfl hl.1 rfl (Nat.le_of_ble_eq_true rfl) dX2_sortInto_24 ⟨Nat.zero_le _, Nat.zero_le _⟩ (fun H locs hG => ?_)
        refine lv_if_eq (tgt := 38) hx hb dX2_sortInto_27 (by decide) (fun c7 => ?_) (fun c7 => ?_)
        · replace hf := if_t c7 hf
          exact L38 (f_X2_sortInto1_5 uh n) ih  x2 x3 x4 ur hf H locs ls hG (lv_sub hl [0, 1, 2, 3, 4] rfl)
        · replace hf := if_f c7 hf
          refine lv_aload_n hx hb dX2_sortInto_30 rfl (lv_at hl 1 rfl) ?_
          refine lv_iload_n hx hb dX2_sortInto_31 rfl (lv_at hl 3 rfl) ?_
          obtain ⟨y8, ey8, hf⟩ := bnd_e hf
          refine lv_iinc (v := y8) (lv' := [(3, .int y8), (0, .ref (a 13)), (1, .ref (a 14)), (2, .int x2), (4, .int x4)]) hx hb dX2_sortInto_32 hl (k := 3) rfl (by rw [ey8]; rfl) (by decide) rfl (fun ls hl => ?_)
          refine lv_iload hx hb dX2_sortInto_35 (lv_at hl 4 rfl) ?_
          obtain ⟨ur9, eur9, hin, hf⟩ := ck_e hf
          refine x_iast hx hb hK hG 14 rfl (w1 := WH κ a uh ++ (WR κ a ur9)) (by rw [eur9]; rfl) hin dX2_sortInto_37 (fun H locs hG => ?_)
          exact L38 (f_X2_sortInto1_5 uh n) ih  x2 y8 x4 ur9 hf H locs ls hG (lv_sub hl [1, 2, 3, 0, 4] rfl)
  unfold f_X2_sortInto1 at hf
  refine lv_iconst (v := 0) hx hb dX2_sortInto_0 (by decide) ?_
  refine lv_istore_n (lv' := [(3, .int 0), (0, .ref (a 13)), (1, .ref (a 14)), (2, .int p2)]) hx hb dX2_sortInto_1 rfl hl (by decide) rfl (fun ls hl => ?_)
  refine lv_iconst (v := 0) hx hb dX2_sortInto_2 (by decide) ?_
  refine lv_istore (lv' := [(4, .int 0), (3, .int 0), (0, .ref (a 13)), (1, .ref (a 14)), (2, .int p2)]) hx hb dX2_sortInto_3 hl (by decide) rfl (fun ls hl => ?_)
  exact L5  FU p2 0 0 ur hf H locs ls hG (lv_sub hl [2, 3, 4, 1, 0] rfl)
set_option maxRecDepth 100000 in
set_option maxHeartbeats 4000000 in
theorem c_X2_sortInto2 (l : Launch) (D : va_G) (κ : Nat → ClassId) (a : Nat → Nat) (sz : Nat) (p2 : Int32) (uh : HS) (ur : RS) (r' : Int32) (ur' : RS) (hf : f_X2_sortInto2 p2 uh ur = some (r', ur')) : Met l yX2_sortInto wsX2_sortInto ({ frames := 2, cells := 0, slots := 0, locals := 48 } : Room) (xPc D κ [.ref (a 13), .ref (a 15), .int p2] (WH κ a uh ++ (WR κ a ur)) sz) (xQi D κ r' (WH κ a uh ++ (WR κ a ur')) (va_A (WH κ a uh ++ (WR κ a ur)) sz)) 0 0 (va_A (WH κ a uh ++ (WR κ a ur)) sz) := by
  refine x_ofW (cc := cX2_sortInto) (maxL := 5) (ret := (some .int)) (Qf := fun A => xQi D κ r' (WH κ a uh ++ (WR κ a ur')) A) (by decide) rfl (Nat.le_of_ble_eq_true rfl) ?_
  intro p e s m below meth c hx hb hr hlk hml hown hts hK A hA H locs hG ls hl
  have hown : s.vm.findClass RX2 = some m.cls := hown
  have hl : lv_has ls 5 [(0, .ref (a 13)), (1, .ref (a 15)), (2, .int p2)] := hl
  have iX0 : ∀ w ∈ u_ws RX0 TX0 17, w ∈ wsX2_sortInto := fun _ h => List.mem_cons_of_mem _ (List.mem_append_right _ h)
  have iX2 : ∀ w ∈ u_ws RX2 TX2 6, w ∈ wsX2_sortInto := fun _ h => List.mem_cons_of_mem _ (List.mem_append_left _ (List.mem_append_right _ h))
  have k55 := hts (.fieldLink RX2 55 "SpineDesks$Hall" "came" "I") (List.mem_of_getElem? (i := 2) rfl)
  have k9 := hts (.fieldLink RX2 9 "SpineDesks$Rows" "hall" "LSpineDesks$Hall;") (List.mem_of_getElem? (i := 1) rfl)
  have L38 : ∀ (rec5 : Int32 → Int32 → Int32 → RS → Option (Int32 × RS)) (hr5 : ∀ (y2 : Int32) (y3 : Int32) (y4 : Int32) (ur : RS), rec5 y2 y3 y4 ur = some (r', ur') → ∀ (H : Heap) (locs : List Loc) (ls : Array Slot), xG D A s.heap (WH κ a uh ++ (WR κ a ur)) H locs → lv_has ls 5 [(0, .ref (a 13)), (1, .ref (a 15)), (2, .int y2), (3, .int y3), (4, .int y4)] → W p l e ({ frames := 2, cells := 0, slots := 0, locals := 48 } : Room) s m (([.ref (a 13), .ref (a 15), .int p2] : List Value).toArray) below meth c H locs 0 0 (MQ below (xQi D κ r' (WH κ a uh ++ (WR κ a ur')) A) (([.ref (a 13), .ref (a 15), .int p2] : List Value).toArray) s 0 0 A) (F0 m 5 ls [])), ∀ (x2 : Int32) (x3 : Int32) (x4 : Int32) (ur : RS), f_X2_sortInto2_38 uh rec5 x2 x3 x4 ur = some (r', ur') → ∀ (H : Heap) (locs : List Loc) (ls : Array Slot), xG D A s.heap (WH κ a uh ++ (WR κ a ur)) H locs → lv_has ls 5 [(0, .ref (a 13)), (1, .ref (a 15)), (2, .int x2), (3, .int x3), (4, .int x4)] → W p l e ({ frames := 2, cells := 0, slots := 0, locals := 48 } : Room) s m (([.ref (a 13), .ref (a 15), .int p2] : List Value).toArray) below meth c H locs 0 0 (MQ below (xQi D κ r' (WH κ a uh ++ (WR κ a ur')) A) (([.ref (a 13), .ref (a 15), .int p2] : List Value).toArray) s 0 0 A) (F0 m 38 ls []) := by
    intro rec5 hr5 x2 x3 x4 ur hf H locs ls hG hl
    unfold f_X2_sortInto2_38 at hf
    obtain ⟨y1, ey1, hf⟩ := bnd_e hf
    refine lv_iinc (v := y1) (lv' := [(4, .int y1), (0, .ref (a 13)), (1, .ref (a 15)), (2, .int x2), (3, .int x3)]) hx hb dX2_sortInto_38 hl (k := 4) rfl (by rw [ey1]; rfl) (by decide) rfl (fun ls hl => ?_)
    refine lv_goto (tgt := 5) hx hb dX2_sortInto_41 (by decide) ?_
    exact hr5 x2 x3 y1 ur hf H locs ls hG (lv_sub hl [1, 2, 3, 4, 0] rfl)
  have L5 : ∀ (n : Nat), ∀ (x2 : Int32) (x3 : Int32) (x4 : Int32) (ur : RS), f_X2_sortInto2_5 uh n x2 x3 x4 ur = some (r', ur') → ∀ (H : Heap) (locs : List Loc) (ls : Array Slot), xG D A s.heap (WH κ a uh ++ (WR κ a ur)) H locs → lv_has ls 5 [(0, .ref (a 13)), (1, .ref (a 15)), (2, .int x2), (3, .int x3), (4, .int x4)] → W p l e ({ frames := 2, cells := 0, slots := 0, locals := 48 } : Room) s m (([.ref (a 13), .ref (a 15), .int p2] : List Value).toArray) below meth c H locs 0 0 (MQ below (xQi D κ r' (WH κ a uh ++ (WR κ a ur')) A) (([.ref (a 13), .ref (a 15), .int p2] : List Value).toArray) s 0 0 A) (F0 m 5 ls []) := by
    intro  n
    induction n with
    | zero => intro x2 x3 x4 ur hf; cases hf
    | succ n ih =>
      intro x2 x3 x4 ur hf H locs ls hG hl
      replace hf : f_X2_sortInto2_B5 uh (f_X2_sortInto2_5 uh n) x2 x3 x4 ur = some (r', ur') := hf
      unfold f_X2_sortInto2_B5 at hf
      refine lv_iload hx hb dX2_sortInto_5 (lv_at hl 4 rfl) ?_
      refine lv_aload_n hx hb dX2_sortInto_7 rfl (lv_at hl 0 rfl) ?_
      refine x_get (C := RX2) (T := TX2) (N := 6) (ci := 2) hx hb hts iX2 hown hK hG 13 rfl rfl 0 (by decide) k9 (v := .ref (a 0)) rfl dX2_sortInto_8 ?_
      refine x_get (C := RX0) (T := TX0) (N := 17) (ci := 0) hx hb hts iX0 hown hK hG 0 rfl rfl 0 (by decide) k55 (v := .int (uh.came)) rfl dX2_sortInto_11 ?_
      refine lv_icmp_ge (tgt := 44) hx hb dX2_sortInto_14 (by decide) (fun c2 => ?_) (fun c2 => ?_)
      · replace hf := if_t c2 hf
        refine lv_aload_n hx hb dX2_sortInto_44 rfl (lv_at hl 0 rfl) ?_
        refine lv_aload_n hx hb dX2_sortInto_45 rfl (lv_at hl 1 rfl) ?_
        refine lv_iload_n hx hb dX2_sortInto_46 rfl (lv_at hl 3 rfl) ?_
        obtain ⟨ur3, q4, hf⟩ := cl1_e hf
        refine x_callVv (pre := ([] : va_W)) (wc := WH κ a uh ++ (WR κ a ur)) (wc1 := WH κ a uh ++ (WR κ a ur3)) (post := ([] : va_W)) (As := [.ref (a 15), .int x3]) (rest := []) (w1 := WH κ a uh ++ (WR κ a ur3)) ⟨hx, hb, hml, hown, hts⟩ hK hG hA (by simp only [List.append_assoc, List.nil_append, List.append_nil]) (by simp only [List.append_assoc, List.nil_append, List.append_nil]) (c_X2_sort2 l D κ a H.size x3 uh ur ur3 q4) (cwV 2 hts gX2_sortInto_X2_sort rfl rfl rfl (by decide +kernel) ⟨Nat.le_of_ble_eq_true rfl, Nat.le_of_ble_eq_true rfl⟩) 13 2 rfl rfl rfl rfl hl.1 rfl (Nat.le_of_ble_eq_true rfl) dX2_sortInto_47 ⟨Nat.zero_le _, Nat.zero_le _⟩ (fun H locs hG => ?_)
        refine lv_iload_n hx hb dX2_sortInto_50 rfl (lv_at hl 3 rfl) ?_
        have hz := Option.some.inj hf
        have z0 := (Prod.mk.inj hz).1
        replace hz := (Prod.mk.inj hz).2
        have z1 := hz
        exact x_iret hx hb hr hlk hK hG z0 (by rw [z1]) dX2_sortInto_51
      · replace hf := if_f c2 hf
        refine lv_aload_n hx hb dX2_sortInto_17 rfl (lv_at hl 0 rfl) ?_
        refine x_get (C := RX2) (T := TX2) (N := 6) (ci := 2) hx hb hts iX2 hown hK hG 13 rfl rfl 0 (by decide) k9 (v := .ref (a 0)) rfl dX2_sortInto_18 ?_
        refine lv_iload hx hb dX2_sortInto_21 (lv_at hl 4 rfl) ?_
        refine lv_iload_n hx hb dX2_sortInto_23 rfl (lv_at hl 2 rfl) ?_
        obtain ⟨r5, q6, hf⟩ := cl1_e hf
        refine x_callVi (pre := ([] : va_W)) (wc := WH κ a uh) (wc1 := WH κ a uh) (post := WR κ a ur) (As := [.int x4, .int x2]) (rest := []) (w1 := WH κ a uh ++ (WR κ a ur)) ⟨hx, hb, hml, hown, hts⟩ hK hG hA (by simp only [List.append_assoc, List.nil_append, List.append_nil]) (by simp only [List.append_assoc, List.nil_append, List.append_nil]) (c_X0_isPlainIn l D κ a H.size x4 x2 uh r5 q6) (cwV 2 hts gX2_sortInto_X0_isPlainIn rfl rfl rfl (by decide +kernel) ⟨Nat.le_of_ble_eq_true rfl, Nat.le_of_ble_eq_true rfl⟩) 0 0 rfl rfl rfl rfl hl.1 rfl (Nat.le_of_ble_eq_true rfl) dX2_sortInto_24 ⟨Nat.zero_le _, Nat.zero_le _⟩ (fun H locs hG => ?_)
        refine lv_if_eq (tgt := 38) hx hb dX2_sortInto_27 (by decide) (fun c7 => ?_) (fun c7 => ?_)
        · replace hf := if_t c7 hf
          exact L38 (f_X2_sortInto2_5 uh n) ih  x2 x3 x4 ur hf H locs ls hG (lv_sub hl [0, 1, 2, 3, 4] rfl)
        · replace hf := if_f c7 hf
          refine lv_aload_n hx hb dX2_sortInto_30 rfl (lv_at hl 1 rfl) ?_
          refine lv_iload_n hx hb dX2_sortInto_31 rfl (lv_at hl 3 rfl) ?_
          obtain ⟨y8, ey8, hf⟩ := bnd_e hf
          refine lv_iinc (v := y8) (lv' := [(3, .int y8), (0, .ref (a 13)), (1, .ref (a 15)), (2, .int x2), (4, .int x4)]) hx hb dX2_sortInto_32 hl (k := 3) rfl (by rw [ey8]; rfl) (by decide) rfl (fun ls hl => ?_)
          refine lv_iload hx hb dX2_sortInto_35 (lv_at hl 4 rfl) ?_
          obtain ⟨ur9, eur9, hin, hf⟩ := ck_e hf
          refine x_iast hx hb hK hG 15 rfl (w1 := WH κ a uh ++ (WR κ a ur9)) (by rw [eur9]; rfl) hin dX2_sortInto_37 (fun H locs hG => ?_)
          exact L38 (f_X2_sortInto2_5 uh n) ih  x2 y8 x4 ur9 hf H locs ls hG (lv_sub hl [1, 2, 3, 0, 4] rfl)
  unfold f_X2_sortInto2 at hf
  refine lv_iconst (v := 0) hx hb dX2_sortInto_0 (by decide) ?_
  refine lv_istore_n (lv' := [(3, .int 0), (0, .ref (a 13)), (1, .ref (a 15)), (2, .int p2)]) hx hb dX2_sortInto_1 rfl hl (by decide) rfl (fun ls hl => ?_)
  refine lv_iconst (v := 0) hx hb dX2_sortInto_2 (by decide) ?_
  refine lv_istore (lv' := [(4, .int 0), (3, .int 0), (0, .ref (a 13)), (1, .ref (a 15)), (2, .int p2)]) hx hb dX2_sortInto_3 hl (by decide) rfl (fun ls hl => ?_)
  exact L5  FU p2 0 0 ur hf H locs ls hG (lv_sub hl [2, 3, 4, 1, 0] rfl)
set_option maxRecDepth 100000 in
set_option maxHeartbeats 4000000 in
theorem c_X2_sortPlain (l : Launch) (D : va_G) (κ : Nat → ClassId) (a : Nat → Nat) (sz : Nat) (p1 : Int32) (uh : HS) (ur : RS) (r' : Int32) (ur' : RS) (hf : f_X2_sortPlain p1 uh ur = some (r', ur')) : Met l yX2_sortPlain wsX2_sortPlain ({ frames := 3, cells := 0, slots := 0, locals := 72 } : Room) (xPc D κ [.ref (a 13), .int p1] (WH κ a uh ++ (WR κ a ur)) sz) (xQi D κ r' (WH κ a uh ++ (WR κ a ur')) (va_A (WH κ a uh ++ (WR κ a ur)) sz)) 0 0 (va_A (WH κ a uh ++ (WR κ a ur)) sz) := by
  refine x_ofW (cc := cX2_sortPlain) (maxL := 2) (ret := (some .int)) (Qf := fun A => xQi D κ r' (WH κ a uh ++ (WR κ a ur')) A) (by decide) rfl (Nat.le_of_ble_eq_true rfl) ?_
  intro p e s m below meth c hx hb hr hlk hml hown hts hK A hA H locs hG ls hl
  have hown : s.vm.findClass RX2 = some m.cls := hown
  have hl : lv_has ls 2 [(0, .ref (a 13)), (1, .int p1)] := hl
  have iX2 : ∀ w ∈ u_ws RX2 TX2 6, w ∈ wsX2_sortPlain := fun _ h => List.mem_cons_of_mem _ (List.mem_append_left _ (List.mem_append_right _ h))
  have k15 := hts (.fieldLink RX2 15 "SpineDesks$Rows" "one" "[I") (List.mem_of_getElem? (i := 1) rfl)
  unfold f_X2_sortPlain at hf
  refine lv_aload_n hx hb dX2_sortPlain_0 rfl (lv_at hl 0 rfl) ?_
  refine lv_aload_n hx hb dX2_sortPlain_1 rfl (lv_at hl 0 rfl) ?_
  refine x_get (C := RX2) (T := TX2) (N := 6) (ci := 2) hx hb hts iX2 hown hK hG 13 rfl rfl 1 (by decide) k15 (v := .ref (a 14)) rfl dX2_sortPlain_2 ?_
  refine lv_iload_n hx hb dX2_sortPlain_5 rfl (lv_at hl 1 rfl) ?_
  obtain ⟨r1, ur2, q3, hf⟩ := cl2_e hf
  refine x_callVi (pre := ([] : va_W)) (wc := WH κ a uh ++ (WR κ a ur)) (wc1 := WH κ a uh ++ (WR κ a ur2)) (post := ([] : va_W)) (As := [.ref (a 14), .int p1]) (rest := []) (w1 := WH κ a uh ++ (WR κ a ur2)) ⟨hx, hb, hml, hown, hts⟩ hK hG hA (by simp only [List.append_assoc, List.nil_append, List.append_nil]) (by simp only [List.append_assoc, List.nil_append, List.append_nil]) (c_X2_sortInto1 l D κ a H.size p1 uh ur r1 ur2 q3) (cwV 2 hts gX2_sortPlain_X2_sortInto rfl rfl rfl (by decide +kernel) ⟨Nat.le_of_ble_eq_true rfl, Nat.le_of_ble_eq_true rfl⟩) 13 2 rfl rfl rfl rfl hl.1 rfl (Nat.le_of_ble_eq_true rfl) dX2_sortPlain_6 ⟨Nat.zero_le _, Nat.zero_le _⟩ (fun H locs hG => ?_)
  have hz := Option.some.inj hf
  have z0 := (Prod.mk.inj hz).1
  replace hz := (Prod.mk.inj hz).2
  have z1 := hz
  exact x_iret hx hb hr hlk hK hG z0 (by rw [z1]) dX2_sortPlain_9
set_option maxRecDepth 100000 in
set_option maxHeartbeats 4000000 in
theorem c_X2_pickPair (l : Launch) (D : va_G) (κ : Nat → ClassId) (a : Nat → Nat) (sz : Nat) (p1 : Int32) (p2 : Int32) (uh : HS) (ur : RS) (r' : Int32)  (hf : f_X2_pickPair p1 p2 uh ur = some (r')) : Met l yX2_pickPair wsX2_pickPair ({ frames := 1, cells := 0, slots := 0, locals := 21 } : Room) (xPc D κ [.ref (a 13), .int p1, .int p2] (WH κ a uh ++ (WR κ a ur)) sz) (xQi D κ r' (WH κ a uh ++ (WR κ a ur)) (va_A (WH κ a uh ++ (WR κ a ur)) sz)) 0 0 (va_A (WH κ a uh ++ (WR κ a ur)) sz) := by
  refine x_ofW (cc := cX2_pickPair) (maxL := 5) (ret := (some .int)) (Qf := fun A => xQi D κ r' (WH κ a uh ++ (WR κ a ur)) A) (by decide) rfl (Nat.le_of_ble_eq_true rfl) ?_
  intro p e s m below meth c hx hb hr hlk hml hown hts hK A hA H locs hG ls hl
  have hown : s.vm.findClass RX2 = some m.cls := hown
  have hl : lv_has ls 5 [(0, .ref (a 13)), (1, .int p1), (2, .int p2)] := hl
  have iX2 : ∀ w ∈ u_ws RX2 TX2 6, w ∈ wsX2_pickPair := fun _ h => List.mem_cons_of_mem _ (List.mem_append_left _ (List.mem_append_right _ h))
  have k28 := hts (.fieldLink RX2 28 "SpineDesks$Rows" "nextOf" "[I") (List.mem_of_getElem? (i := 1) rfl)
  have L45 : ∀ (rec5 : Int32 → Int32 → Int32 → Int32 → Option (Int32)) (hr5 : ∀ (y1 : Int32) (y2 : Int32) (y3 : Int32) (y4 : Int32), rec5 y1 y2 y3 y4 = some (r') → ∀ (H : Heap) (locs : List Loc) (ls : Array Slot), xG D A s.heap (WH κ a uh ++ (WR κ a ur)) H locs → lv_has ls 5 [(0, .ref (a 13)), (1, .int y1), (2, .int y2), (3, .int y3), (4, .int y4)] → W p l e ({ frames := 1, cells := 0, slots := 0, locals := 21 } : Room) s m (([.ref (a 13), .int p1, .int p2] : List Value).toArray) below meth c H locs 0 0 (MQ below (xQi D κ r' (WH κ a uh ++ (WR κ a ur)) A) (([.ref (a 13), .int p1, .int p2] : List Value).toArray) s 0 0 A) (F0 m 5 ls [])), ∀ (x1 : Int32) (x2 : Int32) (x3 : Int32) (x4 : Int32), f_X2_pickPair_45 uh ur rec5 x1 x2 x3 x4 = some (r') → ∀ (H : Heap) (locs : List Loc) (ls : Array Slot), xG D A s.heap (WH κ a uh ++ (WR κ a ur)) H locs → lv_has ls 5 [(0, .ref (a 13)), (1, .int x1), (2, .int x2), (3, .int x3), (4, .int x4)] → W p l e ({ frames := 1, cells := 0, slots := 0, locals := 21 } : Room) s m (([.ref (a 13), .int p1, .int p2] : List Value).toArray) below meth c H locs 0 0 (MQ below (xQi D κ r' (WH κ a uh ++ (WR κ a ur)) A) (([.ref (a 13), .int p1, .int p2] : List Value).toArray) s 0 0 A) (F0 m 45 ls []) := by
    intro rec5 hr5 x1 x2 x3 x4 hf H locs ls hG hl
    unfold f_X2_pickPair_45 at hf
    obtain ⟨y1, ey1, hf⟩ := bnd_e hf
    refine lv_iinc (v := y1) (lv' := [(4, .int y1), (0, .ref (a 13)), (1, .int x1), (2, .int x2), (3, .int x3)]) hx hb dX2_pickPair_45 hl (k := 4) rfl (by rw [ey1]; rfl) (by decide) rfl (fun ls hl => ?_)
    refine lv_goto (tgt := 5) hx hb dX2_pickPair_48 (by decide) ?_
    exact hr5 x1 x2 x3 y1 hf H locs ls hG (lv_sub hl [1, 2, 3, 4, 0] rfl)
  have L42 : ∀ (rec5 : Int32 → Int32 → Int32 → Int32 → Option (Int32)) (hr5 : ∀ (y1 : Int32) (y2 : Int32) (y3 : Int32) (y4 : Int32), rec5 y1 y2 y3 y4 = some (r') → ∀ (H : Heap) (locs : List Loc) (ls : Array Slot), xG D A s.heap (WH κ a uh ++ (WR κ a ur)) H locs → lv_has ls 5 [(0, .ref (a 13)), (1, .int y1), (2, .int y2), (3, .int y3), (4, .int y4)] → W p l e ({ frames := 1, cells := 0, slots := 0, locals := 21 } : Room) s m (([.ref (a 13), .int p1, .int p2] : List Value).toArray) below meth c H locs 0 0 (MQ below (xQi D κ r' (WH κ a uh ++ (WR κ a ur)) A) (([.ref (a 13), .int p1, .int p2] : List Value).toArray) s 0 0 A) (F0 m 5 ls [])), ∀ (x1 : Int32) (x2 : Int32) (x4 : Int32), f_X2_pickPair_42 uh ur rec5 x1 x2 x4 = some (r') → ∀ (H : Heap) (locs : List Loc) (ls : Array Slot), xG D A s.heap (WH κ a uh ++ (WR κ a ur)) H locs → lv_has ls 5 [(0, .ref (a 13)), (1, .int x1), (2, .int x2), (4, .int x4)] → W p l e ({ frames := 1, cells := 0, slots := 0, locals := 21 } : Room) s m (([.ref (a 13), .int p1, .int p2] : List Value).toArray) below meth c H locs 0 0 (MQ below (xQi D κ r' (WH κ a uh ++ (WR κ a ur)) A) (([.ref (a 13), .int p1, .int p2] : List Value).toArray) s 0 0 A) (F0 m 42 ls []) := by
    intro rec5 hr5 x1 x2 x4 hf H locs ls hG hl
    unfold f_X2_pickPair_42 at hf
    refine lv_iload hx hb dX2_pickPair_42 (lv_at hl 3 rfl) ?_
    refine lv_istore_n (lv' := [(3, .int x4), (0, .ref (a 13)), (1, .int x1), (2, .int x2), (4, .int x4)]) hx hb dX2_pickPair_44 rfl hl (by decide) rfl (fun ls hl => ?_)
    exact L45 rec5 hr5  x1 x2 x4 x4 hf H locs ls hG (lv_sub hl [1, 2, 3, 0, 4] rfl)
  have L5 : ∀ (n : Nat), ∀ (x1 : Int32) (x2 : Int32) (x3 : Int32) (x4 : Int32), f_X2_pickPair_5 uh ur n x1 x2 x3 x4 = some (r') → ∀ (H : Heap) (locs : List Loc) (ls : Array Slot), xG D A s.heap (WH κ a uh ++ (WR κ a ur)) H locs → lv_has ls 5 [(0, .ref (a 13)), (1, .int x1), (2, .int x2), (3, .int x3), (4, .int x4)] → W p l e ({ frames := 1, cells := 0, slots := 0, locals := 21 } : Room) s m (([.ref (a 13), .int p1, .int p2] : List Value).toArray) below meth c H locs 0 0 (MQ below (xQi D κ r' (WH κ a uh ++ (WR κ a ur)) A) (([.ref (a 13), .int p1, .int p2] : List Value).toArray) s 0 0 A) (F0 m 5 ls []) := by
    intro  n
    induction n with
    | zero => intro x1 x2 x3 x4 hf; cases hf
    | succ n ih =>
      intro x1 x2 x3 x4 hf H locs ls hG hl
      replace hf : f_X2_pickPair_B5 uh ur (f_X2_pickPair_5 uh ur n) x1 x2 x3 x4 = some (r') := hf
      unfold f_X2_pickPair_B5 at hf
      refine lv_iload hx hb dX2_pickPair_5 (lv_at hl 4 rfl) ?_
      refine lv_iload_n hx hb dX2_pickPair_7 rfl (lv_at hl 1 rfl) ?_
      refine lv_icmp_ge (tgt := 51) hx hb dX2_pickPair_8 (by decide) (fun c2 => ?_) (fun c2 => ?_)
      · replace hf := if_t c2 hf
        refine lv_iload_n hx hb dX2_pickPair_51 rfl (lv_at hl 3 rfl) ?_
        have z0 := Option.some.inj hf
        exact x_iret hx hb hr hlk hK hG z0 rfl dX2_pickPair_52
      · replace hf := if_f c2 hf
        refine lv_aload_n hx hb dX2_pickPair_11 rfl (lv_at hl 0 rfl) ?_
        refine x_get (C := RX2) (T := TX2) (N := 6) (ci := 2) hx hb hts iX2 hown hK hG 13 rfl rfl 5 (by decide) k28 (v := .ref (a 18)) rfl dX2_pickPair_12 ?_
        refine lv_iload hx hb dX2_pickPair_15 (lv_at hl 4 rfl) ?_
        obtain ⟨v3, ev3, hin, hf⟩ := ck_e hf
        refine x_iald hx hb hK hG 18 rfl ev3 hin dX2_pickPair_17 ?_
        refine lv_iload_n hx hb dX2_pickPair_18 rfl (lv_at hl 2 rfl) ?_
        refine lv_icmp_ge (tgt := 45) hx hb dX2_pickPair_19 (by decide) (fun c4 => ?_) (fun c4 => ?_)
        · replace hf := if_t c4 hf
          exact L45 (f_X2_pickPair_5 uh ur n) ih  x1 x2 x3 x4 hf H locs ls hG (lv_sub hl [0, 1, 2, 3, 4] rfl)
        · replace hf := if_f c4 hf
          refine lv_iload_n hx hb dX2_pickPair_22 rfl (lv_at hl 3 rfl) ?_
          refine lv_iconst (v := (-1)) hx hb dX2_pickPair_23 (by decide) ?_
          refine lv_icmp_eq (tgt := 42) hx hb dX2_pickPair_24 (by decide) (fun c5 => ?_) (fun c5 => ?_)
          · replace hf := if_t c5 hf
            exact L42 (f_X2_pickPair_5 uh ur n) ih  x1 x2 x4 hf H locs ls hG (lv_sub hl [0, 1, 2, 4] rfl)
          · replace hf := if_f c5 hf
            refine lv_aload_n hx hb dX2_pickPair_27 rfl (lv_at hl 0 rfl) ?_
            refine lv_iload hx hb dX2_pickPair_28 (lv_at hl 4 rfl) ?_
            obtain ⟨r6, q7, hf⟩ := cl1_e hf
            refine x_callVl (pre := ([] : va_W)) (wc := WH κ a uh ++ (WR κ a ur)) (wc1 := WH κ a uh ++ (WR κ a ur)) (post := ([] : va_W)) (As := [.int x4]) (rest := []) (w1 := WH κ a uh ++ (WR κ a ur)) ⟨hx, hb, hml, hown, hts⟩ hK hG hA (by simp only [List.append_assoc, List.nil_append, List.append_nil]) (by simp only [List.append_assoc, List.nil_append, List.append_nil]) (c_X2_pairSum l D κ a H.size x4 uh ur r6 q7) (cwV 1 hts gX2_pickPair_X2_pairSum rfl rfl rfl (by decide +kernel) ⟨Nat.le_of_ble_eq_true rfl, Nat.le_of_ble_eq_true rfl⟩) 13 2 rfl rfl rfl rfl hl.1 rfl (Nat.le_of_ble_eq_true rfl) dX2_pickPair_30 ⟨Nat.zero_le _, Nat.zero_le _⟩ (fun H locs hG => ?_)
            refine lv_aload_n hx hb dX2_pickPair_33 rfl (lv_at hl 0 rfl) ?_
            refine lv_iload_n hx hb dX2_pickPair_34 rfl (lv_at hl 3 rfl) ?_
            obtain ⟨r8, q9, hf⟩ := cl1_e hf
            refine x_callVl (pre := ([] : va_W)) (wc := WH κ a uh ++ (WR κ a ur)) (wc1 := WH κ a uh ++ (WR κ a ur)) (post := ([] : va_W)) (As := [.int x3]) (rest := [.long r6]) (w1 := WH κ a uh ++ (WR κ a ur)) ⟨hx, hb, hml, hown, hts⟩ hK hG hA (by simp only [List.append_assoc, List.nil_append, List.append_nil]) (by simp only [List.append_assoc, List.nil_append, List.append_nil]) (c_X2_pairSum l D κ a H.size x3 uh ur r8 q9) (cwV 1 hts gX2_pickPair_X2_pairSum rfl rfl rfl (by decide +kernel) ⟨Nat.le_of_ble_eq_true rfl, Nat.le_of_ble_eq_true rfl⟩) 13 2 rfl rfl rfl rfl hl.1 rfl (Nat.le_of_ble_eq_true rfl) dX2_pickPair_35 ⟨Nat.zero_le _, Nat.zero_le _⟩ (fun H locs hG => ?_)
            refine W.lcmp hx hb dX2_pickPair_38 ?_
            refine lv_if_ge (tgt := 45) hx hb dX2_pickPair_39 (by decide) (fun c10 => ?_) (fun c10 => ?_)
            · rw [lg_cmp_ge] at c10
              replace hf := if_t c10 hf
              exact L45 (f_X2_pickPair_5 uh ur n) ih  x1 x2 x3 x4 hf H locs ls hG (lv_sub hl [0, 1, 2, 3, 4] rfl)
            · rw [lg_cmp_ge] at c10
              replace hf := if_f c10 hf
              exact L42 (f_X2_pickPair_5 uh ur n) ih  x1 x2 x4 hf H locs ls hG (lv_sub hl [0, 1, 2, 4] rfl)
  unfold f_X2_pickPair at hf
  refine lv_iconst (v := (-1)) hx hb dX2_pickPair_0 (by decide) ?_
  refine lv_istore_n (lv' := [(3, .int ((-1))), (0, .ref (a 13)), (1, .int p1), (2, .int p2)]) hx hb dX2_pickPair_1 rfl hl (by decide) rfl (fun ls hl => ?_)
  refine lv_iconst (v := 0) hx hb dX2_pickPair_2 (by decide) ?_
  refine lv_istore (lv' := [(4, .int 0), (3, .int ((-1))), (0, .ref (a 13)), (1, .int p1), (2, .int p2)]) hx hb dX2_pickPair_3 hl (by decide) rfl (fun ls hl => ?_)
  exact L5  FU p1 p2 ((-1)) 0 hf H locs ls hG (lv_sub hl [2, 3, 4, 1, 0] rfl)
set_option maxRecDepth 100000 in
set_option maxHeartbeats 4000000 in
theorem c_X2_pairAt (l : Launch) (D : va_G) (κ : Nat → ClassId) (a : Nat → Nat) (sz : Nat) (p1 : Int32) (p2 : Int32) (p3 : Int32) (p4 : Int32) (uh : HS) (ur : RS) (r' : Int64) (ur' : RS) (hf : f_X2_pairAt p1 p2 p3 p4 uh ur = some (r', ur')) : Met l yX2_pairAt wsX2_pairAt ({ frames := 3, cells := 0, slots := 0, locals := 72 } : Room) (xPc D κ [.ref (a 13), .int p1, .int p2, .int p3, .int p4] (WH κ a uh ++ (WR κ a ur)) sz) (xQl D κ r' (WH κ a uh ++ (WR κ a ur')) (va_A (WH κ a uh ++ (WR κ a ur)) sz)) 0 0 (va_A (WH κ a uh ++ (WR κ a ur)) sz) := by
  refine x_ofW (cc := cX2_pairAt) (maxL := 9) (ret := (some .long)) (Qf := fun A => xQl D κ r' (WH κ a uh ++ (WR κ a ur')) A) (by decide) rfl (Nat.le_of_ble_eq_true rfl) ?_
  intro p e s m below meth c hx hb hr hlk hml hown hts hK A hA H locs hG ls hl
  have hown : s.vm.findClass RX2 = some m.cls := hown
  have hl : lv_has ls 9 [(0, .ref (a 13)), (1, .int p1), (2, .int p2), (3, .int p3), (4, .int p4)] := hl
  have iX2 : ∀ w ∈ u_ws RX2 TX2 6, w ∈ wsX2_pairAt := fun _ h => List.mem_cons_of_mem _ (List.mem_append_left _ (List.mem_append_right _ h))
  have k15 := hts (.fieldLink RX2 15 "SpineDesks$Rows" "one" "[I") (List.mem_of_getElem? (i := 1) rfl)
  have k19 := hts (.fieldLink RX2 19 "SpineDesks$Rows" "two" "[I") (List.mem_of_getElem? (i := 6) rfl)
  have k28 := hts (.fieldLink RX2 28 "SpineDesks$Rows" "nextOf" "[I") (List.mem_of_getElem? (i := 7) rfl)
  have k87 := hts (.constantLong RX2 87 (-9223372036854775808)) (List.mem_of_getElem? (i := 8) rfl)
  have k92 := hts (.methodLink RX2 92 Lib.Math.min.name) (List.mem_of_getElem? (i := 2) rfl)
  have kc92 := hts (.code Lib.Math.min.name Lib.Math.min.code 2 (some .int)) (List.mem_of_getElem? (i := 5) rfl)
  have ki := hts (.initialized "java/lang/Math") (List.mem_of_getElem? (i := 4) rfl)
  have ks92 := hts (.static Lib.Math.min.name) (List.mem_of_getElem? (i := 3) rfl)
  have L87 : ∀ (x4 : Int32) (x7 : Int32) (ur : RS), f_X2_pairAt_87 uh x4 x7 ur = some (r', ur') → ∀ (H : Heap) (locs : List Loc) (ls : Array Slot), xG D A s.heap (WH κ a uh ++ (WR κ a ur)) H locs → lv_has ls 9 [(0, .ref (a 13)), (4, .int x4), (7, .int x7)] → W p l e ({ frames := 3, cells := 0, slots := 0, locals := 72 } : Room) s m (([.ref (a 13), .int p1, .int p2, .int p3, .int p4] : List Value).toArray) below meth c H locs 0 0 (MQ below (xQl D κ r' (WH κ a uh ++ (WR κ a ur')) A) (([.ref (a 13), .int p1, .int p2, .int p3, .int p4] : List Value).toArray) s 0 0 A) (F0 m 87 ls []) := by
    intro  x4 x7 ur hf H locs ls hG hl
    unfold f_X2_pairAt_87 at hf
    refine lv_iload hx hb dX2_pairAt_87 (lv_at hl 2 rfl) ?_
    refine lv_iconst (v := (-1)) hx hb dX2_pairAt_89 (by decide) ?_
    refine lv_icmp_ne (tgt := 97) hx hb dX2_pairAt_90 (by decide) (fun c1 => ?_) (fun c1 => ?_)
    · replace hf := if_f c1 hf
      refine lv_iload hx hb dX2_pairAt_97 (lv_at hl 1 rfl) ?_
      refine lv_if_ne (tgt := 109) hx hb dX2_pairAt_99 (by decide) (fun c2 => ?_) (fun c2 => ?_)
      · replace hf := if_f c2 hf
        refine lv_iload hx hb dX2_pairAt_109 (lv_at hl 1 rfl) ?_
        refine lv_iconst (v := 1) hx hb dX2_pairAt_111 (by decide) ?_
        refine lv_icmp_ne (tgt := 126) hx hb dX2_pairAt_112 (by decide) (fun c3 => ?_) (fun c3 => ?_)
        · replace hf := if_f c3 hf
          refine lv_aload_n hx hb dX2_pairAt_126 rfl (lv_at hl 0 rfl) ?_
          refine x_get (C := RX2) (T := TX2) (N := 6) (ci := 2) hx hb hts iX2 hown hK hG 13 rfl rfl 2 (by decide) k19 (v := .ref (a 15)) rfl dX2_pairAt_127 ?_
          refine lv_aload_n hx hb dX2_pairAt_130 rfl (lv_at hl 0 rfl) ?_
          refine x_get (C := RX2) (T := TX2) (N := 6) (ci := 2) hx hb hts iX2 hown hK hG 13 rfl rfl 5 (by decide) k28 (v := .ref (a 18)) rfl dX2_pairAt_131 ?_
          refine lv_iload hx hb dX2_pairAt_134 (lv_at hl 2 rfl) ?_
          obtain ⟨v4, ev4, hin, hf⟩ := ck_e hf
          refine x_iald hx hb hK hG 18 rfl ev4 hin dX2_pairAt_136 ?_
          obtain ⟨v5, ev5, hin, hf⟩ := ck_e hf
          refine x_iald hx hb hK hG 15 rfl ev5 hin dX2_pairAt_137 ?_
          refine lv_i2l hx hb dX2_pairAt_138 rfl ?_
          have hz := Option.some.inj hf
          have z0 := (Prod.mk.inj hz).1
          replace hz := (Prod.mk.inj hz).2
          have z1 := hz
          exact x_lret hx hb hr hlk hK hG z0 (by rw [z1]) dX2_pairAt_139
        · replace hf := if_t c3 hf
          refine lv_aload_n hx hb dX2_pairAt_115 rfl (lv_at hl 0 rfl) ?_
          refine x_get (C := RX2) (T := TX2) (N := 6) (ci := 2) hx hb hts iX2 hown hK hG 13 rfl rfl 1 (by decide) k15 (v := .ref (a 14)) rfl dX2_pairAt_116 ?_
          refine lv_iload hx hb dX2_pairAt_119 (lv_at hl 2 rfl) ?_
          obtain ⟨v6, ev6, hin, hf⟩ := ck_e hf
          refine x_iald hx hb hK hG 14 rfl ev6 hin dX2_pairAt_121 ?_
          refine lv_i2l hx hb dX2_pairAt_122 rfl ?_
          refine lv_goto (tgt := 139) hx hb dX2_pairAt_123 (by decide) ?_
          have hz := Option.some.inj hf
          have z0 := (Prod.mk.inj hz).1
          replace hz := (Prod.mk.inj hz).2
          have z1 := hz
          exact x_lret hx hb hr hlk hK hG z0 (by rw [z1]) dX2_pairAt_139
      · replace hf := if_t c2 hf
        refine lv_aload_n hx hb dX2_pairAt_102 rfl (lv_at hl 0 rfl) ?_
        refine lv_iload hx hb dX2_pairAt_103 (lv_at hl 2 rfl) ?_
        obtain ⟨r7, q8, hf⟩ := cl1_e hf
        refine x_callVl (pre := ([] : va_W)) (wc := WH κ a uh ++ (WR κ a ur)) (wc1 := WH κ a uh ++ (WR κ a ur)) (post := ([] : va_W)) (As := [.int x7]) (rest := []) (w1 := WH κ a uh ++ (WR κ a ur)) ⟨hx, hb, hml, hown, hts⟩ hK hG hA (by simp only [List.append_assoc, List.nil_append, List.append_nil]) (by simp only [List.append_assoc, List.nil_append, List.append_nil]) (c_X2_pairSum l D κ a H.size x7 uh ur r7 q8) (cwV 1 hts gX2_pairAt_X2_pairSum rfl rfl rfl (by decide +kernel) ⟨Nat.le_of_ble_eq_true rfl, Nat.le_of_ble_eq_true rfl⟩) 13 2 rfl rfl rfl rfl hl.1 rfl (Nat.le_of_ble_eq_true rfl) dX2_pairAt_105 ⟨Nat.zero_le _, Nat.zero_le _⟩ (fun H locs hG => ?_)
        have hz := Option.some.inj hf
        have z0 := (Prod.mk.inj hz).1
        replace hz := (Prod.mk.inj hz).2
        have z1 := hz
        exact x_lret hx hb hr hlk hK hG z0 (by rw [z1]) dX2_pairAt_108
    · replace hf := if_t c1 hf
      refine lv_ldc2 (v := (-9223372036854775808)) hx hb hown k87 dX2_pairAt_93 ?_
      have hz := Option.some.inj hf
      have z0 := (Prod.mk.inj hz).1
      replace hz := (Prod.mk.inj hz).2
      have z1 := hz
      exact x_lret hx hb hr hlk hK hG z0 (by rw [z1]) dX2_pairAt_96
  have L48 : ∀ (n : Nat), ∀ (x3 : Int32) (x4 : Int32) (x5 : Int32) (x6 : Int32) (x7 : Int32) (x8 : Int32) (ur : RS), f_X2_pairAt_48 uh n x3 x4 x5 x6 x7 x8 ur = some (r', ur') → ∀ (H : Heap) (locs : List Loc) (ls : Array Slot), xG D A s.heap (WH κ a uh ++ (WR κ a ur)) H locs → lv_has ls 9 [(0, .ref (a 13)), (3, .int x3), (4, .int x4), (5, .int x5), (6, .int x6), (7, .int x7), (8, .int x8)] → W p l e ({ frames := 3, cells := 0, slots := 0, locals := 72 } : Room) s m (([.ref (a 13), .int p1, .int p2, .int p3, .int p4] : List Value).toArray) below meth c H locs 0 0 (MQ below (xQl D κ r' (WH κ a uh ++ (WR κ a ur')) A) (([.ref (a 13), .int p1, .int p2, .int p3, .int p4] : List Value).toArray) s 0 0 A) (F0 m 48 ls []) := by
    intro  n
    induction n with
    | zero => intro x3 x4 x5 x6 x7 x8 ur hf; cases hf
    | succ n ih =>
      intro x3 x4 x5 x6 x7 x8 ur hf H locs ls hG hl
      replace hf : f_X2_pairAt_B48 uh (f_X2_pairAt_48 uh n) x3 x4 x5 x6 x7 x8 ur = some (r', ur') := hf
      unfold f_X2_pairAt_B48 at hf
      refine lv_iload hx hb dX2_pairAt_48 (lv_at hl 6 rfl) ?_
      refine lv_iload_n hx hb dX2_pairAt_50 rfl (lv_at hl 1 rfl) ?_
      refine lv_icmp_ge (tgt := 87) hx hb dX2_pairAt_51 (by decide) (fun c9 => ?_) (fun c9 => ?_)
      · replace hf := if_t c9 hf
        exact L87   x4 x7 ur hf H locs ls hG (lv_sub hl [0, 2, 5] rfl)
      · replace hf := if_f c9 hf
        refine lv_iload hx hb dX2_pairAt_54 (lv_at hl 5 rfl) ?_
        refine lv_iconst (v := (-1)) hx hb dX2_pairAt_56 (by decide) ?_
        refine lv_icmp_eq (tgt := 87) hx hb dX2_pairAt_57 (by decide) (fun c10 => ?_) (fun c10 => ?_)
        · replace hf := if_t c10 hf
          exact L87   x4 x7 ur hf H locs ls hG (lv_sub hl [0, 2, 5] rfl)
        · replace hf := if_f c10 hf
          refine lv_aload_n hx hb dX2_pairAt_60 rfl (lv_at hl 0 rfl) ?_
          refine x_get (C := RX2) (T := TX2) (N := 6) (ci := 2) hx hb hts iX2 hown hK hG 13 rfl rfl 5 (by decide) k28 (v := .ref (a 18)) rfl dX2_pairAt_61 ?_
          refine lv_iload hx hb dX2_pairAt_64 (lv_at hl 5 rfl) ?_
          refine lv_dup2_11 hx hb dX2_pairAt_66 rfl rfl ?_
          obtain ⟨v11, ev11, hin, hf⟩ := ck_e hf
          refine x_iald hx hb hK hG 18 rfl ev11 hin dX2_pairAt_67 ?_
          refine lv_iconst (v := 1) hx hb dX2_pairAt_68 (by decide) ?_
          refine lv_iadd hx hb dX2_pairAt_69 ?_
          obtain ⟨ur12, eur12, hin, hf⟩ := ck_e hf
          refine x_iast hx hb hK hG 18 rfl (w1 := WH κ a uh ++ (WR κ a ur12)) (by rw [eur12]; rfl) hin dX2_pairAt_70 (fun H locs hG => ?_)
          refine lv_aload_n hx hb dX2_pairAt_71 rfl (lv_at hl 0 rfl) ?_
          refine lv_iload hx hb dX2_pairAt_72 (lv_at hl 3 rfl) ?_
          refine lv_iload hx hb dX2_pairAt_74 (lv_at hl 4 rfl) ?_
          obtain ⟨r13, q14, hf⟩ := cl1_e hf
          refine x_callVi (pre := ([] : va_W)) (wc := WH κ a uh ++ (WR κ a ur12)) (wc1 := WH κ a uh ++ (WR κ a ur12)) (post := ([] : va_W)) (As := [.int x5, .int x6]) (rest := []) (w1 := WH κ a uh ++ (WR κ a ur12)) ⟨hx, hb, hml, hown, hts⟩ hK hG hA (by simp only [List.append_assoc, List.nil_append, List.append_nil]) (by simp only [List.append_assoc, List.nil_append, List.append_nil]) (c_X2_pickPair l D κ a H.size x5 x6 uh ur12 r13 q14) (cwV 2 hts gX2_pairAt_X2_pickPair rfl rfl rfl (by decide +kernel) ⟨Nat.le_of_ble_eq_true rfl, Nat.le_of_ble_eq_true rfl⟩) 13 2 rfl rfl rfl rfl hl.1 rfl (Nat.le_of_ble_eq_true rfl) dX2_pairAt_76 ⟨Nat.zero_le _, Nat.zero_le _⟩ (fun H locs hG => ?_)
          refine lv_istore (lv' := [(7, .int r13), (0, .ref (a 13)), (3, .int x3), (4, .int x4), (5, .int x5), (6, .int x6), (8, .int x8)]) hx hb dX2_pairAt_79 hl (by decide) rfl (fun ls hl => ?_)
          obtain ⟨y15, ey15, hf⟩ := bnd_e hf
          refine lv_iinc (v := y15) (lv' := [(8, .int y15), (7, .int r13), (0, .ref (a 13)), (3, .int x3), (4, .int x4), (5, .int x5), (6, .int x6)]) hx hb dX2_pairAt_81 hl (k := 6) rfl (by rw [ey15]; rfl) (by decide) rfl (fun ls hl => ?_)
          refine lv_goto (tgt := 48) hx hb dX2_pairAt_84 (by decide) ?_
          exact ih x3 x4 x5 x6 r13 y15 ur12 hf H locs ls hG (lv_sub hl [2, 3, 4, 5, 6, 1, 0] rfl)
  unfold f_X2_pairAt at hf
  refine lv_aload_n hx hb dX2_pairAt_0 rfl (lv_at hl 0 rfl) ?_
  refine lv_aload_n hx hb dX2_pairAt_1 rfl (lv_at hl 0 rfl) ?_
  refine x_get (C := RX2) (T := TX2) (N := 6) (ci := 2) hx hb hts iX2 hown hK hG 13 rfl rfl 1 (by decide) k15 (v := .ref (a 14)) rfl dX2_pairAt_2 ?_
  refine lv_iload_n hx hb dX2_pairAt_5 rfl (lv_at hl 1 rfl) ?_
  obtain ⟨r16, ur17, q18, hf⟩ := cl2_e hf
  refine x_callVi (pre := ([] : va_W)) (wc := WH κ a uh ++ (WR κ a ur)) (wc1 := WH κ a uh ++ (WR κ a ur17)) (post := ([] : va_W)) (As := [.ref (a 14), .int p1]) (rest := []) (w1 := WH κ a uh ++ (WR κ a ur17)) ⟨hx, hb, hml, hown, hts⟩ hK hG hA (by simp only [List.append_assoc, List.nil_append, List.append_nil]) (by simp only [List.append_assoc, List.nil_append, List.append_nil]) (c_X2_sortInto1 l D κ a H.size p1 uh ur r16 ur17 q18) (cwV 2 hts gX2_pairAt_X2_sortInto rfl rfl rfl (by decide +kernel) ⟨Nat.le_of_ble_eq_true rfl, Nat.le_of_ble_eq_true rfl⟩) 13 2 rfl rfl rfl rfl hl.1 rfl (Nat.le_of_ble_eq_true rfl) dX2_pairAt_6 ⟨Nat.zero_le _, Nat.zero_le _⟩ (fun H locs hG => ?_)
  refine lv_bipush (v := 40) hx hb dX2_pairAt_9 (by decide) ?_
  refine va_mmin hx hb (hml.trans hl.1.symm) hown k92 ks92 ki kc92 (Nat.le_of_ble_eq_true rfl) (Nat.le_of_ble_eq_true rfl) (Nat.zero_le _) (Nat.zero_le _) dX2_pairAt_11 ?_
  refine lv_topi (fun y19 ey19 => ?_)
  replace hf := bnd_at ey19 hf
  refine lv_istore (lv' := [(5, .int y19), (0, .ref (a 13)), (1, .int p1), (2, .int p2), (3, .int p3), (4, .int p4)]) hx hb dX2_pairAt_14 hl (by decide) rfl (fun ls hl => ?_)
  refine lv_aload_n hx hb dX2_pairAt_16 rfl (lv_at hl 1 rfl) ?_
  refine lv_aload_n hx hb dX2_pairAt_17 rfl (lv_at hl 1 rfl) ?_
  refine x_get (C := RX2) (T := TX2) (N := 6) (ci := 2) hx hb hts iX2 hown hK hG 13 rfl rfl 2 (by decide) k19 (v := .ref (a 15)) rfl dX2_pairAt_18 ?_
  refine lv_iload_n hx hb dX2_pairAt_21 rfl (lv_at hl 3 rfl) ?_
  obtain ⟨r20, ur21, q22, hf⟩ := cl2_e hf
  refine x_callVi (pre := ([] : va_W)) (wc := WH κ a uh ++ (WR κ a ur17)) (wc1 := WH κ a uh ++ (WR κ a ur21)) (post := ([] : va_W)) (As := [.ref (a 15), .int p2]) (rest := []) (w1 := WH κ a uh ++ (WR κ a ur21)) ⟨hx, hb, hml, hown, hts⟩ hK hG hA (by simp only [List.append_assoc, List.nil_append, List.append_nil]) (by simp only [List.append_assoc, List.nil_append, List.append_nil]) (c_X2_sortInto2 l D κ a H.size p2 uh ur17 r20 ur21 q22) (cwV 2 hts gX2_pairAt_X2_sortInto rfl rfl rfl (by decide +kernel) ⟨Nat.le_of_ble_eq_true rfl, Nat.le_of_ble_eq_true rfl⟩) 13 2 rfl rfl rfl rfl hl.1 rfl (Nat.le_of_ble_eq_true rfl) dX2_pairAt_22 ⟨Nat.zero_le _, Nat.zero_le _⟩ (fun H locs hG => ?_)
  refine lv_istore (lv' := [(6, .int r20), (5, .int y19), (0, .ref (a 13)), (1, .int p1), (2, .int p2), (3, .int p3), (4, .int p4)]) hx hb dX2_pairAt_25 hl (by decide) rfl (fun ls hl => ?_)
  refine lv_aload_n hx hb dX2_pairAt_27 rfl (lv_at hl 2 rfl) ?_
  refine x_get (C := RX2) (T := TX2) (N := 6) (ci := 2) hx hb hts iX2 hown hK hG 13 rfl rfl 5 (by decide) k28 (v := .ref (a 18)) rfl dX2_pairAt_28 ?_
  refine lv_iconst (v := 0) hx hb dX2_pairAt_31 (by decide) ?_
  obtain ⟨ur23, q24, hf⟩ := cl1_e hf
  refine x_callSv (pre := WH κ a uh) (wc := WR κ a ur21) (wc1 := WR κ a ur23) (post := ([] : va_W)) (As := [.ref (a 18), .int 0]) (rest := []) (w1 := WH κ a uh ++ (WR κ a ur23)) ⟨hx, hb, hml, hown, hts⟩ hK hG hA (by simp only [List.append_assoc, List.nil_append, List.append_nil]) (by simp only [List.append_assoc, List.nil_append, List.append_nil]) (c_fill_nextOf l D κ a H.size 0 ur21 ur23 q24) (va_cwS 2 hts gX2_pairAt_J7_fill_53178 rfl rfl rfl (by decide +kernel) ⟨Nat.le_of_ble_eq_true rfl, Nat.le_of_ble_eq_true rfl⟩) rfl hl.1 rfl (Nat.le_of_ble_eq_true rfl) dX2_pairAt_32 ⟨Nat.zero_le _, Nat.zero_le _⟩ (fun H locs hG => ?_)
  refine lv_aload_n hx hb dX2_pairAt_35 rfl (lv_at hl 2 rfl) ?_
  refine lv_iload hx hb dX2_pairAt_36 (lv_at hl 1 rfl) ?_
  refine lv_iload hx hb dX2_pairAt_38 (lv_at hl 0 rfl) ?_
  obtain ⟨r25, q26, hf⟩ := cl1_e hf
  refine x_callVi (pre := ([] : va_W)) (wc := WH κ a uh ++ (WR κ a ur23)) (wc1 := WH κ a uh ++ (WR κ a ur23)) (post := ([] : va_W)) (As := [.int y19, .int r20]) (rest := []) (w1 := WH κ a uh ++ (WR κ a ur23)) ⟨hx, hb, hml, hown, hts⟩ hK hG hA (by simp only [List.append_assoc, List.nil_append, List.append_nil]) (by simp only [List.append_assoc, List.nil_append, List.append_nil]) (c_X2_pickPair l D κ a H.size y19 r20 uh ur23 r25 q26) (cwV 2 hts gX2_pairAt_X2_pickPair rfl rfl rfl (by decide +kernel) ⟨Nat.le_of_ble_eq_true rfl, Nat.le_of_ble_eq_true rfl⟩) 13 2 rfl rfl rfl rfl hl.1 rfl (Nat.le_of_ble_eq_true rfl) dX2_pairAt_40 ⟨Nat.zero_le _, Nat.zero_le _⟩ (fun H locs hG => ?_)
  refine lv_istore (lv' := [(7, .int r25), (6, .int r20), (5, .int y19), (0, .ref (a 13)), (1, .int p1), (2, .int p2), (3, .int p3), (4, .int p4)]) hx hb dX2_pairAt_43 hl (by decide) rfl (fun ls hl => ?_)
  refine lv_iconst (v := 0) hx hb dX2_pairAt_45 (by decide) ?_
  refine lv_istore (lv' := [(8, .int 0), (7, .int r25), (6, .int r20), (5, .int y19), (0, .ref (a 13)), (1, .int p1), (2, .int p2), (3, .int p3), (4, .int p4)]) hx hb dX2_pairAt_46 hl (by decide) rfl (fun ls hl => ?_)
  exact L48  FU p3 p4 y19 r20 r25 0 ur23 hf H locs ls hG (lv_sub hl [4, 7, 8, 3, 2, 1, 0] rfl)
set_option maxRecDepth 100000 in
set_option maxHeartbeats 4000000 in
theorem c_X2_splitOff (l : Launch) (D : va_G) (κ : Nat → ClassId) (a : Nat → Nat) (sz : Nat) (p1 : Int32) (p2 : Int32) (p3 : Int32) (uh : HS) (ur : RS) (r' : Int32) (uh' : HS) (ur' : RS) (hf : f_X2_splitOff p1 p2 p3 uh ur = some (r', uh', ur')) : Met l yX2_splitOff wsX2_splitOff ({ frames := 3, cells := 0, slots := 0, locals := 76 } : Room) (xPc D κ [.ref (a 13), .int p1, .int p2, .int p3] (WH κ a uh ++ (WR κ a ur)) sz) (xQi D κ r' (WH κ a uh' ++ (WR κ a ur')) (va_A (WH κ a uh ++ (WR κ a ur)) sz)) 0 0 (va_A (WH κ a uh ++ (WR κ a ur)) sz) := by
  refine x_ofW (cc := cX2_splitOff) (maxL := 9) (ret := (some .int)) (Qf := fun A => xQi D κ r' (WH κ a uh' ++ (WR κ a ur')) A) (by decide) rfl (Nat.le_of_ble_eq_true rfl) ?_
  intro p e s m below meth c hx hb hr hlk hml hown hts hK A hA H locs hG ls hl
  have hown : s.vm.findClass RX2 = some m.cls := hown
  have hl : lv_has ls 9 [(0, .ref (a 13)), (1, .int p1), (2, .int p2), (3, .int p3)] := hl
  have iX0 : ∀ w ∈ u_ws RX0 TX0 17, w ∈ wsX2_splitOff := fun _ h => List.mem_cons_of_mem _ (List.mem_append_right _ h)
  have iX2 : ∀ w ∈ u_ws RX2 TX2 6, w ∈ wsX2_splitOff := fun _ h => List.mem_cons_of_mem _ (List.mem_append_left _ (List.mem_append_right _ h))
  have k15 := hts (.fieldLink RX2 15 "SpineDesks$Rows" "one" "[I") (List.mem_of_getElem? (i := 3) rfl)
  have k19 := hts (.fieldLink RX2 19 "SpineDesks$Rows" "two" "[I") (List.mem_of_getElem? (i := 5) rfl)
  have k22 := hts (.fieldLink RX2 22 "SpineDesks$Rows" "stack" "[I") (List.mem_of_getElem? (i := 7) rfl)
  have k39 := hts (.fieldLink RX2 39 "SpineDesks$Hall" "root" "[I") (List.mem_of_getElem? (i := 2) rfl)
  have k46 := hts (.fieldLink RX2 46 "SpineDesks$Hall" "up" "[I") (List.mem_of_getElem? (i := 6) rfl)
  have k80 := hts (.fieldLink RX2 80 "SpineDesks$Hall" "keyOf" "[J") (List.mem_of_getElem? (i := 4) rfl)
  have k9 := hts (.fieldLink RX2 9 "SpineDesks$Rows" "hall" "LSpineDesks$Hall;") (List.mem_of_getElem? (i := 1) rfl)
  have L194 : ∀ (n : Nat), ∀ (x2 : Int32) (x5 : Int32) (x7 : Int32) (uh : HS) (ur : RS), f_X2_splitOff_194 n x2 x5 x7 uh ur = some (r', uh', ur') → ∀ (H : Heap) (locs : List Loc) (ls : Array Slot), xG D A s.heap (WH κ a uh ++ (WR κ a ur)) H locs → lv_has ls 9 [(0, .ref (a 13)), (2, .int x2), (5, .int x5), (7, .int x7)] → W p l e ({ frames := 3, cells := 0, slots := 0, locals := 76 } : Room) s m (([.ref (a 13), .int p1, .int p2, .int p3] : List Value).toArray) below meth c H locs 0 0 (MQ below (xQi D κ r' (WH κ a uh' ++ (WR κ a ur')) A) (([.ref (a 13), .int p1, .int p2, .int p3] : List Value).toArray) s 0 0 A) (F0 m 194 ls []) := by
    intro  n
    induction n with
    | zero => intro x2 x5 x7 uh ur hf; cases hf
    | succ n ih =>
      intro x2 x5 x7 uh ur hf H locs ls hG hl
      replace hf : f_X2_splitOff_B194 (f_X2_splitOff_194 n) x2 x5 x7 uh ur = some (r', uh', ur') := hf
      unfold f_X2_splitOff_B194 at hf
      refine lv_iload hx hb dX2_splitOff_194 (lv_at hl 3 rfl) ?_
      refine lv_iload hx hb dX2_splitOff_196 (lv_at hl 2 rfl) ?_
      refine lv_icmp_ge (tgt := 222) hx hb dX2_splitOff_198 (by decide) (fun c1 => ?_) (fun c1 => ?_)
      · replace hf := if_t c1 hf
        refine lv_iload hx hb dX2_splitOff_222 (lv_at hl 2 rfl) ?_
        have hz := Option.some.inj hf
        have z0 := (Prod.mk.inj hz).1
        replace hz := (Prod.mk.inj hz).2
        have z1 := (Prod.mk.inj hz).1
        replace hz := (Prod.mk.inj hz).2
        have z2 := hz
        exact x_iret hx hb hr hlk hK hG z0 (by rw [z1, z2]) dX2_splitOff_224
      · replace hf := if_f c1 hf
        refine lv_aload_n hx hb dX2_splitOff_201 rfl (lv_at hl 0 rfl) ?_
        refine x_get (C := RX2) (T := TX2) (N := 6) (ci := 2) hx hb hts iX2 hown hK hG 13 rfl rfl 0 (by decide) k9 (v := .ref (a 0)) rfl dX2_splitOff_202 ?_
        refine lv_aload_n hx hb dX2_splitOff_205 rfl (lv_at hl 0 rfl) ?_
        refine x_get (C := RX2) (T := TX2) (N := 6) (ci := 2) hx hb hts iX2 hown hK hG 13 rfl rfl 2 (by decide) k19 (v := .ref (a 15)) rfl dX2_splitOff_206 ?_
        refine lv_iload hx hb dX2_splitOff_209 (lv_at hl 3 rfl) ?_
        obtain ⟨v2, ev2, hin, hf⟩ := ck_e hf
        refine x_iald hx hb hK hG 15 rfl ev2 hin dX2_splitOff_211 ?_
        refine lv_iload_n hx hb dX2_splitOff_212 rfl (lv_at hl 1 rfl) ?_
        obtain ⟨uh3, q4, hf⟩ := cl1_e hf
        refine x_callVv (pre := ([] : va_W)) (wc := WH κ a uh) (wc1 := WH κ a uh3) (post := WR κ a ur) (As := [.int v2, .int x2]) (rest := []) (w1 := WH κ a uh3 ++ (WR κ a ur)) ⟨hx, hb, hml, hown, hts⟩ hK hG hA (by simp only [List.append_assoc, List.nil_append, List.append_nil]) (by simp only [List.append_assoc, List.nil_append, List.append_nil]) (c_X0_place l D κ a H.size v2 x2 uh uh3 q4) (cwV 2 hts gX2_splitOff_X0_place rfl rfl rfl (by decide +kernel) ⟨Nat.le_of_ble_eq_true rfl, Nat.le_of_ble_eq_true rfl⟩) 0 0 rfl rfl rfl rfl hl.1 rfl (Nat.le_of_ble_eq_true rfl) dX2_splitOff_213 ⟨Nat.zero_le _, Nat.zero_le _⟩ (fun H locs hG => ?_)
        obtain ⟨y5, ey5, hf⟩ := bnd_e hf
        refine lv_iinc (v := y5) (lv' := [(7, .int y5), (0, .ref (a 13)), (2, .int x2), (5, .int x5)]) hx hb dX2_splitOff_216 hl (k := 3) rfl (by rw [ey5]; rfl) (by decide) rfl (fun ls hl => ?_)
        refine lv_goto (tgt := 194) hx hb dX2_splitOff_219 (by decide) ?_
        exact ih x2 x5 y5 uh3 ur hf H locs ls hG (lv_sub hl [1, 2, 3, 0] rfl)
  have L137 : ∀ (n : Nat), ∀ (x1 : Int32) (x2 : Int32) (x5 : Int32) (x6 : Int32) (x7 : Int32) (uh : HS) (ur : RS), f_X2_splitOff_137 n x1 x2 x5 x6 x7 uh ur = some (r', uh', ur') → ∀ (H : Heap) (locs : List Loc) (ls : Array Slot), xG D A s.heap (WH κ a uh ++ (WR κ a ur)) H locs → lv_has ls 9 [(0, .ref (a 13)), (1, .int x1), (2, .int x2), (5, .int x5), (6, .int x6), (7, .int x7)] → W p l e ({ frames := 3, cells := 0, slots := 0, locals := 76 } : Room) s m (([.ref (a 13), .int p1, .int p2, .int p3] : List Value).toArray) below meth c H locs 0 0 (MQ below (xQi D κ r' (WH κ a uh' ++ (WR κ a ur')) A) (([.ref (a 13), .int p1, .int p2, .int p3] : List Value).toArray) s 0 0 A) (F0 m 137 ls []) := by
    intro  n
    induction n with
    | zero => intro x1 x2 x5 x6 x7 uh ur hf; cases hf
    | succ n ih =>
      intro x1 x2 x5 x6 x7 uh ur hf H locs ls hG hl
      replace hf : f_X2_splitOff_B137 (f_X2_splitOff_137 n) x1 x2 x5 x6 x7 uh ur = some (r', uh', ur') := hf
      unfold f_X2_splitOff_B137 at hf
      refine lv_iload hx hb dX2_splitOff_137 (lv_at hl 5 rfl) ?_
      refine lv_iload hx hb dX2_splitOff_139 (lv_at hl 4 rfl) ?_
      refine lv_icmp_ge (tgt := 166) hx hb dX2_splitOff_141 (by decide) (fun c6 => ?_) (fun c6 => ?_)
      · replace hf := if_t c6 hf
        refine lv_aload_n hx hb dX2_splitOff_166 rfl (lv_at hl 0 rfl) ?_
        refine x_get (C := RX2) (T := TX2) (N := 6) (ci := 2) hx hb hts iX2 hown hK hG 13 rfl rfl 0 (by decide) k9 (v := .ref (a 0)) rfl dX2_splitOff_167 ?_
        refine x_get (C := RX0) (T := TX0) (N := 17) (ci := 0) hx hb hts iX0 hown hK hG 0 rfl rfl 5 (by decide) k39 (v := .ref (a 1)) rfl dX2_splitOff_170 ?_
        refine lv_iload_n hx hb dX2_splitOff_173 rfl (lv_at hl 1 rfl) ?_
        refine lv_aload_n hx hb dX2_splitOff_174 rfl (lv_at hl 0 rfl) ?_
        refine lv_iload hx hb dX2_splitOff_175 (lv_at hl 4 rfl) ?_
        obtain ⟨r7, uh8, ur9, q10, hf⟩ := cl3_e hf
        refine x_callVi (pre := ([] : va_W)) (wc := WH κ a uh ++ (WR κ a ur)) (wc1 := WH κ a uh8 ++ (WR κ a ur9)) (post := ([] : va_W)) (As := [.int x6]) (rest := [.int x1, .ref (a 1)]) (w1 := WH κ a uh8 ++ (WR κ a ur9)) ⟨hx, hb, hml, hown, hts⟩ hK hG hA (by simp only [List.append_assoc, List.nil_append, List.append_nil]) (by simp only [List.append_assoc, List.nil_append, List.append_nil]) (c_X2_gatherRow l D κ a H.size x6 uh ur r7 uh8 ur9 q10) (cwV 1 hts gX2_splitOff_X2_gatherRow rfl rfl rfl (by decide +kernel) ⟨Nat.le_of_ble_eq_true rfl, Nat.le_of_ble_eq_true rfl⟩) 13 2 rfl rfl rfl rfl hl.1 rfl (Nat.le_of_ble_eq_true rfl) dX2_splitOff_177 ⟨Nat.zero_le _, Nat.zero_le _⟩ (fun H locs hG => ?_)
        obtain ⟨uh11, euh11, hin, hf⟩ := ck_e hf
        refine x_iast hx hb hK hG 1 rfl (w1 := WH κ a uh11 ++ (WR κ a ur9)) (by rw [euh11]; rfl) hin dX2_splitOff_180 (fun H locs hG => ?_)
        refine lv_aload_n hx hb dX2_splitOff_181 rfl (lv_at hl 0 rfl) ?_
        refine lv_aload_n hx hb dX2_splitOff_182 rfl (lv_at hl 0 rfl) ?_
        refine x_get (C := RX2) (T := TX2) (N := 6) (ci := 2) hx hb hts iX2 hown hK hG 13 rfl rfl 2 (by decide) k19 (v := .ref (a 15)) rfl dX2_splitOff_183 ?_
        refine lv_iload hx hb dX2_splitOff_186 (lv_at hl 3 rfl) ?_
        obtain ⟨ur12, q13, hf⟩ := cl1_e hf
        refine x_callVv (pre := ([] : va_W)) (wc := WH κ a uh11 ++ (WR κ a ur9)) (wc1 := WH κ a uh11 ++ (WR κ a ur12)) (post := ([] : va_W)) (As := [.ref (a 15), .int x5]) (rest := []) (w1 := WH κ a uh11 ++ (WR κ a ur12)) ⟨hx, hb, hml, hown, hts⟩ hK hG hA (by simp only [List.append_assoc, List.nil_append, List.append_nil]) (by simp only [List.append_assoc, List.nil_append, List.append_nil]) (c_X2_sort2 l D κ a H.size x5 uh11 ur9 ur12 q13) (cwV 2 hts gX2_splitOff_X2_sort rfl rfl rfl (by decide +kernel) ⟨Nat.le_of_ble_eq_true rfl, Nat.le_of_ble_eq_true rfl⟩) 13 2 rfl rfl rfl rfl hl.1 rfl (Nat.le_of_ble_eq_true rfl) dX2_splitOff_188 ⟨Nat.zero_le _, Nat.zero_le _⟩ (fun H locs hG => ?_)
        refine lv_iconst (v := 0) hx hb dX2_splitOff_191 (by decide) ?_
        refine lv_istore (lv' := [(7, .int 0), (0, .ref (a 13)), (1, .int x1), (2, .int x2), (5, .int x5), (6, .int x6)]) hx hb dX2_splitOff_192 hl (by decide) rfl (fun ls hl => ?_)
        exact L194  FU x2 x5 0 uh11 ur12 hf H locs ls hG (lv_sub hl [1, 3, 4, 0] rfl)
      · replace hf := if_f c6 hf
        refine lv_aload_n hx hb dX2_splitOff_144 rfl (lv_at hl 0 rfl) ?_
        refine x_get (C := RX2) (T := TX2) (N := 6) (ci := 2) hx hb hts iX2 hown hK hG 13 rfl rfl 0 (by decide) k9 (v := .ref (a 0)) rfl dX2_splitOff_145 ?_
        refine x_get (C := RX0) (T := TX0) (N := 17) (ci := 0) hx hb hts iX0 hown hK hG 0 rfl rfl 12 (by decide) k46 (v := .ref (a 8)) rfl dX2_splitOff_148 ?_
        refine lv_aload_n hx hb dX2_splitOff_151 rfl (lv_at hl 0 rfl) ?_
        refine x_get (C := RX2) (T := TX2) (N := 6) (ci := 2) hx hb hts iX2 hown hK hG 13 rfl rfl 3 (by decide) k22 (v := .ref (a 16)) rfl dX2_splitOff_152 ?_
        refine lv_iload hx hb dX2_splitOff_155 (lv_at hl 5 rfl) ?_
        obtain ⟨v14, ev14, hin, hf⟩ := ck_e hf
        refine x_iald hx hb hK hG 16 rfl ev14 hin dX2_splitOff_157 ?_
        refine lv_iconst (v := (-1)) hx hb dX2_splitOff_158 (by decide) ?_
        obtain ⟨uh15, euh15, hin, hf⟩ := ck_e hf
        refine x_iast hx hb hK hG 8 rfl (w1 := WH κ a uh15 ++ (WR κ a ur)) (by rw [euh15]; rfl) hin dX2_splitOff_159 (fun H locs hG => ?_)
        obtain ⟨y16, ey16, hf⟩ := bnd_e hf
        refine lv_iinc (v := y16) (lv' := [(7, .int y16), (0, .ref (a 13)), (1, .int x1), (2, .int x2), (5, .int x5), (6, .int x6)]) hx hb dX2_splitOff_160 hl (k := 5) rfl (by rw [ey16]; rfl) (by decide) rfl (fun ls hl => ?_)
        refine lv_goto (tgt := 137) hx hb dX2_splitOff_163 (by decide) ?_
        exact ih x1 x2 x5 x6 y16 uh15 ur hf H locs ls hG (lv_sub hl [1, 2, 3, 4, 5, 0] rfl)
  have L121 : ∀ (rec24 : Int32 → Int32 → Int32 → Int32 → Int32 → Int32 → Int32 → HS → RS → Option (Int32 × HS × RS)) (hr24 : ∀ (y1 : Int32) (y2 : Int32) (y3 : Int32) (y4 : Int32) (y5 : Int32) (y6 : Int32) (y7 : Int32) (uh : HS) (ur : RS), rec24 y1 y2 y3 y4 y5 y6 y7 uh ur = some (r', uh', ur') → ∀ (H : Heap) (locs : List Loc) (ls : Array Slot), xG D A s.heap (WH κ a uh ++ (WR κ a ur)) H locs → lv_has ls 9 [(0, .ref (a 13)), (1, .int y1), (2, .int y2), (3, .int y3), (4, .int y4), (5, .int y5), (6, .int y6), (7, .int y7)] → W p l e ({ frames := 3, cells := 0, slots := 0, locals := 76 } : Room) s m (([.ref (a 13), .int p1, .int p2, .int p3] : List Value).toArray) below meth c H locs 0 0 (MQ below (xQi D κ r' (WH κ a uh' ++ (WR κ a ur')) A) (([.ref (a 13), .int p1, .int p2, .int p3] : List Value).toArray) s 0 0 A) (F0 m 24 ls [])), ∀ (x1 : Int32) (x2 : Int32) (x3 : Int32) (x4 : Int32) (x5 : Int32) (x6 : Int32) (x7 : Int32) (uh : HS) (ur : RS), f_X2_splitOff_121 rec24 x1 x2 x3 x4 x5 x6 x7 uh ur = some (r', uh', ur') → ∀ (H : Heap) (locs : List Loc) (ls : Array Slot), xG D A s.heap (WH κ a uh ++ (WR κ a ur)) H locs → lv_has ls 9 [(0, .ref (a 13)), (1, .int x1), (2, .int x2), (3, .int x3), (4, .int x4), (5, .int x5), (6, .int x6), (7, .int x7)] → W p l e ({ frames := 3, cells := 0, slots := 0, locals := 76 } : Room) s m (([.ref (a 13), .int p1, .int p2, .int p3] : List Value).toArray) below meth c H locs 0 0 (MQ below (xQi D κ r' (WH κ a uh' ++ (WR κ a ur')) A) (([.ref (a 13), .int p1, .int p2, .int p3] : List Value).toArray) s 0 0 A) (F0 m 121 ls []) := by
    intro rec24 hr24 x1 x2 x3 x4 x5 x6 x7 uh ur hf H locs ls hG hl
    unfold f_X2_splitOff_121 at hf
    obtain ⟨y17, ey17, hf⟩ := bnd_e hf
    refine lv_iinc (v := y17) (lv' := [(7, .int y17), (0, .ref (a 13)), (1, .int x1), (2, .int x2), (3, .int x3), (4, .int x4), (5, .int x5), (6, .int x6)]) hx hb dX2_splitOff_121 hl (k := 7) rfl (by rw [ey17]; rfl) (by decide) rfl (fun ls hl => ?_)
    refine lv_goto (tgt := 24) hx hb dX2_splitOff_124 (by decide) ?_
    exact hr24 x1 x2 x3 x4 x5 x6 y17 uh ur hf H locs ls hG (lv_sub hl [1, 2, 3, 4, 5, 6, 7, 0] rfl)
  have L109 : ∀ (rec24 : Int32 → Int32 → Int32 → Int32 → Int32 → Int32 → Int32 → HS → RS → Option (Int32 × HS × RS)) (hr24 : ∀ (y1 : Int32) (y2 : Int32) (y3 : Int32) (y4 : Int32) (y5 : Int32) (y6 : Int32) (y7 : Int32) (uh : HS) (ur : RS), rec24 y1 y2 y3 y4 y5 y6 y7 uh ur = some (r', uh', ur') → ∀ (H : Heap) (locs : List Loc) (ls : Array Slot), xG D A s.heap (WH κ a uh ++ (WR κ a ur)) H locs → lv_has ls 9 [(0, .ref (a 13)), (1, .int y1), (2, .int y2), (3, .int y3), (4, .int y4), (5, .int y5), (6, .int y6), (7, .int y7)] → W p l e ({ frames := 3, cells := 0, slots := 0, locals := 76 } : Room) s m (([.ref (a 13), .int p1, .int p2, .int p3] : List Value).toArray) below meth c H locs 0 0 (MQ below (xQi D κ r' (WH κ a uh' ++ (WR κ a ur')) A) (([.ref (a 13), .int p1, .int p2, .int p3] : List Value).toArray) s 0 0 A) (F0 m 24 ls [])), ∀ (x1 : Int32) (x2 : Int32) (x3 : Int32) (x4 : Int32) (x5 : Int32) (x6 : Int32) (x7 : Int32) (x8 : Int32) (uh : HS) (ur : RS), f_X2_splitOff_109 rec24 x1 x2 x3 x4 x5 x6 x7 x8 uh ur = some (r', uh', ur') → ∀ (H : Heap) (locs : List Loc) (ls : Array Slot), xG D A s.heap (WH κ a uh ++ (WR κ a ur)) H locs → lv_has ls 9 [(0, .ref (a 13)), (1, .int x1), (2, .int x2), (3, .int x3), (4, .int x4), (5, .int x5), (6, .int x6), (7, .int x7), (8, .int x8)] → W p l e ({ frames := 3, cells := 0, slots := 0, locals := 76 } : Room) s m (([.ref (a 13), .int p1, .int p2, .int p3] : List Value).toArray) below meth c H locs 0 0 (MQ below (xQi D κ r' (WH κ a uh' ++ (WR κ a ur')) A) (([.ref (a 13), .int p1, .int p2, .int p3] : List Value).toArray) s 0 0 A) (F0 m 109 ls []) := by
    intro rec24 hr24 x1 x2 x3 x4 x5 x6 x7 x8 uh ur hf H locs ls hG hl
    unfold f_X2_splitOff_109 at hf
    refine lv_aload_n hx hb dX2_splitOff_109 rfl (lv_at hl 0 rfl) ?_
    refine x_get (C := RX2) (T := TX2) (N := 6) (ci := 2) hx hb hts iX2 hown hK hG 13 rfl rfl 3 (by decide) k22 (v := .ref (a 16)) rfl dX2_splitOff_110 ?_
    refine lv_iload hx hb dX2_splitOff_113 (lv_at hl 6 rfl) ?_
    obtain ⟨y18, ey18, hf⟩ := bnd_e hf
    refine lv_iinc (v := y18) (lv' := [(6, .int y18), (0, .ref (a 13)), (1, .int x1), (2, .int x2), (3, .int x3), (4, .int x4), (5, .int x5), (7, .int x7), (8, .int x8)]) hx hb dX2_splitOff_115 hl (k := 6) rfl (by rw [ey18]; rfl) (by decide) rfl (fun ls hl => ?_)
    refine lv_iload hx hb dX2_splitOff_118 (lv_at hl 8 rfl) ?_
    obtain ⟨ur19, eur19, hin, hf⟩ := ck_e hf
    refine x_iast hx hb hK hG 16 rfl (w1 := WH κ a uh ++ (WR κ a ur19)) (by rw [eur19]; rfl) hin dX2_splitOff_120 (fun H locs hG => ?_)
    exact L121 rec24 hr24  x1 x2 x3 x4 x5 y18 x7 uh ur19 hf H locs ls hG (lv_sub hl [1, 2, 3, 4, 5, 6, 0, 7] rfl)
  have L24 : ∀ (n : Nat), ∀ (x1 : Int32) (x2 : Int32) (x3 : Int32) (x4 : Int32) (x5 : Int32) (x6 : Int32) (x7 : Int32) (uh : HS) (ur : RS), f_X2_splitOff_24 n x1 x2 x3 x4 x5 x6 x7 uh ur = some (r', uh', ur') → ∀ (H : Heap) (locs : List Loc) (ls : Array Slot), xG D A s.heap (WH κ a uh ++ (WR κ a ur)) H locs → lv_has ls 9 [(0, .ref (a 13)), (1, .int x1), (2, .int x2), (3, .int x3), (4, .int x4), (5, .int x5), (6, .int x6), (7, .int x7)] → W p l e ({ frames := 3, cells := 0, slots := 0, locals := 76 } : Room) s m (([.ref (a 13), .int p1, .int p2, .int p3] : List Value).toArray) below meth c H locs 0 0 (MQ below (xQi D κ r' (WH κ a uh' ++ (WR κ a ur')) A) (([.ref (a 13), .int p1, .int p2, .int p3] : List Value).toArray) s 0 0 A) (F0 m 24 ls []) := by
    intro  n
    induction n with
    | zero => intro x1 x2 x3 x4 x5 x6 x7 uh ur hf; cases hf
    | succ n ih =>
      intro x1 x2 x3 x4 x5 x6 x7 uh ur hf H locs ls hG hl
      replace hf : f_X2_splitOff_B24 (f_X2_splitOff_24 n) x1 x2 x3 x4 x5 x6 x7 uh ur = some (r', uh', ur') := hf
      unfold f_X2_splitOff_B24 at hf
      refine lv_iload hx hb dX2_splitOff_24 (lv_at hl 7 rfl) ?_
      refine lv_iload hx hb dX2_splitOff_26 (lv_at hl 4 rfl) ?_
      refine lv_icmp_ge (tgt := 127) hx hb dX2_splitOff_28 (by decide) (fun c20 => ?_) (fun c20 => ?_)
      · replace hf := if_t c20 hf
        refine lv_iload hx hb dX2_splitOff_127 (lv_at hl 5 rfl) ?_
        refine lv_if_ne (tgt := 134) hx hb dX2_splitOff_129 (by decide) (fun c21 => ?_) (fun c21 => ?_)
        · replace hf := if_f c21 hf
          refine lv_iconst (v := 0) hx hb dX2_splitOff_134 (by decide) ?_
          refine lv_istore (lv' := [(7, .int 0), (0, .ref (a 13)), (1, .int x1), (2, .int x2), (3, .int x3), (4, .int x4), (5, .int x5), (6, .int x6)]) hx hb dX2_splitOff_135 hl (by decide) rfl (fun ls hl => ?_)
          exact L137  FU x1 x2 x5 x6 0 uh ur hf H locs ls hG (lv_sub hl [1, 2, 3, 6, 7, 0] rfl)
        · replace hf := if_t c21 hf
          refine lv_iconst (v := 0) hx hb dX2_splitOff_132 (by decide) ?_
          have hz := Option.some.inj hf
          have z0 := (Prod.mk.inj hz).1
          replace hz := (Prod.mk.inj hz).2
          have z1 := (Prod.mk.inj hz).1
          replace hz := (Prod.mk.inj hz).2
          have z2 := hz
          exact x_iret hx hb hr hlk hK hG z0 (by rw [z1, z2]) dX2_splitOff_133
      · replace hf := if_f c20 hf
        refine lv_aload_n hx hb dX2_splitOff_31 rfl (lv_at hl 0 rfl) ?_
        refine x_get (C := RX2) (T := TX2) (N := 6) (ci := 2) hx hb hts iX2 hown hK hG 13 rfl rfl 1 (by decide) k15 (v := .ref (a 14)) rfl dX2_splitOff_32 ?_
        refine lv_iload hx hb dX2_splitOff_35 (lv_at hl 7 rfl) ?_
        obtain ⟨v22, ev22, hin, hf⟩ := ck_e hf
        refine x_iald hx hb hK hG 14 rfl ev22 hin dX2_splitOff_37 ?_
        refine lv_istore (lv' := [(8, .int v22), (0, .ref (a 13)), (1, .int x1), (2, .int x2), (3, .int x3), (4, .int x4), (5, .int x5), (6, .int x6), (7, .int x7)]) hx hb dX2_splitOff_38 hl (by decide) rfl (fun ls hl => ?_)
        refine lv_aload_n hx hb dX2_splitOff_40 rfl (lv_at hl 1 rfl) ?_
        refine x_get (C := RX2) (T := TX2) (N := 6) (ci := 2) hx hb hts iX2 hown hK hG 13 rfl rfl 0 (by decide) k9 (v := .ref (a 0)) rfl dX2_splitOff_41 ?_
        refine x_get (C := RX0) (T := TX0) (N := 17) (ci := 0) hx hb hts iX0 hown hK hG 0 rfl rfl 6 (by decide) k80 (v := .ref (a 2)) rfl dX2_splitOff_44 ?_
        refine lv_iload hx hb dX2_splitOff_47 (lv_at hl 0 rfl) ?_
        obtain ⟨v23, ev23, hin, hf⟩ := ck_e hf
        refine x_lald hx hb hK hG 2 rfl ev23 hin dX2_splitOff_49 ?_
        refine lv_iload_n hx hb dX2_splitOff_50 rfl (lv_at hl 4 rfl) ?_
        refine lv_i2l hx hb dX2_splitOff_51 rfl ?_
        refine W.lcmp hx hb dX2_splitOff_52 ?_
        refine lv_if_gt (tgt := 71) hx hb dX2_splitOff_53 (by decide) (fun c24 => ?_) (fun c24 => ?_)
        · rw [lg_cmp_gt] at c24
          replace hf := if_t c24 hf
          refine lv_aload_n hx hb dX2_splitOff_71 rfl (lv_at hl 1 rfl) ?_
          refine x_get (C := RX2) (T := TX2) (N := 6) (ci := 2) hx hb hts iX2 hown hK hG 13 rfl rfl 0 (by decide) k9 (v := .ref (a 0)) rfl dX2_splitOff_72 ?_
          refine x_get (C := RX0) (T := TX0) (N := 17) (ci := 0) hx hb hts iX0 hown hK hG 0 rfl rfl 12 (by decide) k46 (v := .ref (a 8)) rfl dX2_splitOff_75 ?_
          refine lv_iload hx hb dX2_splitOff_78 (lv_at hl 0 rfl) ?_
          obtain ⟨v25, ev25, hin, hf⟩ := ck_e hf
          refine x_iald hx hb hK hG 8 rfl ev25 hin dX2_splitOff_80 ?_
          refine lv_iconst (v := (-1)) hx hb dX2_splitOff_81 (by decide) ?_
          refine lv_icmp_eq (tgt := 109) hx hb dX2_splitOff_82 (by decide) (fun c26 => ?_) (fun c26 => ?_)
          · replace hf := if_t c26 hf
            exact L109 (f_X2_splitOff_24 n) ih  x1 x2 x3 x4 x5 x6 x7 v22 uh ur hf H locs ls hG (lv_sub hl [1, 2, 3, 4, 5, 6, 7, 8, 0] rfl)
          · replace hf := if_f c26 hf
            refine lv_aload_n hx hb dX2_splitOff_85 rfl (lv_at hl 1 rfl) ?_
            refine x_get (C := RX2) (T := TX2) (N := 6) (ci := 2) hx hb hts iX2 hown hK hG 13 rfl rfl 0 (by decide) k9 (v := .ref (a 0)) rfl dX2_splitOff_86 ?_
            refine x_get (C := RX0) (T := TX0) (N := 17) (ci := 0) hx hb hts iX0 hown hK hG 0 rfl rfl 6 (by decide) k80 (v := .ref (a 2)) rfl dX2_splitOff_89 ?_
            refine lv_aload_n hx hb dX2_splitOff_92 rfl (lv_at hl 1 rfl) ?_
            refine x_get (C := RX2) (T := TX2) (N := 6) (ci := 2) hx hb hts iX2 hown hK hG 13 rfl rfl 0 (by decide) k9 (v := .ref (a 0)) rfl dX2_splitOff_93 ?_
            refine x_get (C := RX0) (T := TX0) (N := 17) (ci := 0) hx hb hts iX0 hown hK hG 0 rfl rfl 12 (by decide) k46 (v := .ref (a 8)) rfl dX2_splitOff_96 ?_
            refine lv_iload hx hb dX2_splitOff_99 (lv_at hl 0 rfl) ?_
            obtain ⟨v27, ev27, hin, hf⟩ := ck_e hf
            refine x_iald hx hb hK hG 8 rfl ev27 hin dX2_splitOff_101 ?_
            obtain ⟨v28, ev28, hin, hf⟩ := ck_e hf
            refine x_lald hx hb hK hG 2 rfl ev28 hin dX2_splitOff_102 ?_
            refine lv_iload_n hx hb dX2_splitOff_103 rfl (lv_at hl 4 rfl) ?_
            refine lv_i2l hx hb dX2_splitOff_104 rfl ?_
            refine W.lcmp hx hb dX2_splitOff_105 ?_
            refine lv_if_gt (tgt := 121) hx hb dX2_splitOff_106 (by decide) (fun c29 => ?_) (fun c29 => ?_)
            · rw [lg_cmp_gt] at c29
              replace hf := if_t c29 hf
              exact L121 (f_X2_splitOff_24 n) ih  x1 x2 x3 x4 x5 x6 x7 uh ur hf H locs ls hG (lv_sub hl [1, 2, 3, 4, 5, 6, 7, 8] rfl)
            · rw [lg_cmp_gt] at c29
              replace hf := if_f c29 hf
              exact L109 (f_X2_splitOff_24 n) ih  x1 x2 x3 x4 x5 x6 x7 v22 uh ur hf H locs ls hG (lv_sub hl [1, 2, 3, 4, 5, 6, 7, 8, 0] rfl)
        · rw [lg_cmp_gt] at c24
          replace hf := if_f c24 hf
          refine lv_aload_n hx hb dX2_splitOff_56 rfl (lv_at hl 1 rfl) ?_
          refine x_get (C := RX2) (T := TX2) (N := 6) (ci := 2) hx hb hts iX2 hown hK hG 13 rfl rfl 2 (by decide) k19 (v := .ref (a 15)) rfl dX2_splitOff_57 ?_
          refine lv_iload hx hb dX2_splitOff_60 (lv_at hl 6 rfl) ?_
          obtain ⟨y30, ey30, hf⟩ := bnd_e hf
          refine lv_iinc (v := y30) (lv' := [(5, .int y30), (8, .int v22), (0, .ref (a 13)), (1, .int x1), (2, .int x2), (3, .int x3), (4, .int x4), (6, .int x6), (7, .int x7)]) hx hb dX2_splitOff_62 hl (k := 6) rfl (by rw [ey30]; rfl) (by decide) rfl (fun ls hl => ?_)
          refine lv_iload hx hb dX2_splitOff_65 (lv_at hl 1 rfl) ?_
          obtain ⟨ur31, eur31, hin, hf⟩ := ck_e hf
          refine x_iast hx hb hK hG 15 rfl (w1 := WH κ a uh ++ (WR κ a ur31)) (by rw [eur31]; rfl) hin dX2_splitOff_67 (fun H locs hG => ?_)
          refine lv_goto (tgt := 121) hx hb dX2_splitOff_68 (by decide) ?_
          exact L121 (f_X2_splitOff_24 n) ih  x1 x2 x3 x4 y30 x6 x7 uh ur31 hf H locs ls hG (lv_sub hl [2, 3, 4, 5, 6, 0, 7, 8] rfl)
  unfold f_X2_splitOff at hf
  refine lv_aload_n hx hb dX2_splitOff_0 rfl (lv_at hl 0 rfl) ?_
  refine lv_aload_n hx hb dX2_splitOff_1 rfl (lv_at hl 0 rfl) ?_
  refine x_get (C := RX2) (T := TX2) (N := 6) (ci := 2) hx hb hts iX2 hown hK hG 13 rfl rfl 0 (by decide) k9 (v := .ref (a 0)) rfl dX2_splitOff_2 ?_
  refine x_get (C := RX0) (T := TX0) (N := 17) (ci := 0) hx hb hts iX0 hown hK hG 0 rfl rfl 5 (by decide) k39 (v := .ref (a 1)) rfl dX2_splitOff_5 ?_
  refine lv_iload_n hx hb dX2_splitOff_8 rfl (lv_at hl 1 rfl) ?_
  obtain ⟨v32, ev32, hin, hf⟩ := ck_e hf
  refine x_iald hx hb hK hG 1 rfl ev32 hin dX2_splitOff_9 ?_
  obtain ⟨r33, ur34, q35, hf⟩ := cl2_e hf
  refine x_callVi (pre := ([] : va_W)) (wc := WH κ a uh ++ (WR κ a ur)) (wc1 := WH κ a uh ++ (WR κ a ur34)) (post := ([] : va_W)) (As := [.int v32]) (rest := []) (w1 := WH κ a uh ++ (WR κ a ur34)) ⟨hx, hb, hml, hown, hts⟩ hK hG hA (by simp only [List.append_assoc, List.nil_append, List.append_nil]) (by simp only [List.append_assoc, List.nil_append, List.append_nil]) (c_X2_walk l D κ a H.size v32 uh ur r33 ur34 q35) (cwV 1 hts gX2_splitOff_X2_walk rfl rfl rfl (by decide +kernel) ⟨Nat.le_of_ble_eq_true rfl, Nat.le_of_ble_eq_true rfl⟩) 13 2 rfl rfl rfl rfl hl.1 rfl (Nat.le_of_ble_eq_true rfl) dX2_splitOff_10 ⟨Nat.zero_le _, Nat.zero_le _⟩ (fun H locs hG => ?_)
  refine lv_istore (lv' := [(4, .int r33), (0, .ref (a 13)), (1, .int p1), (2, .int p2), (3, .int p3)]) hx hb dX2_splitOff_13 hl (by decide) rfl (fun ls hl => ?_)
  refine lv_iconst (v := 0) hx hb dX2_splitOff_15 (by decide) ?_
  refine lv_istore (lv' := [(5, .int 0), (4, .int r33), (0, .ref (a 13)), (1, .int p1), (2, .int p2), (3, .int p3)]) hx hb dX2_splitOff_16 hl (by decide) rfl (fun ls hl => ?_)
  refine lv_iconst (v := 0) hx hb dX2_splitOff_18 (by decide) ?_
  refine lv_istore (lv' := [(6, .int 0), (5, .int 0), (4, .int r33), (0, .ref (a 13)), (1, .int p1), (2, .int p2), (3, .int p3)]) hx hb dX2_splitOff_19 hl (by decide) rfl (fun ls hl => ?_)
  refine lv_iconst (v := 0) hx hb dX2_splitOff_21 (by decide) ?_
  refine lv_istore (lv' := [(7, .int 0), (6, .int 0), (5, .int 0), (4, .int r33), (0, .ref (a 13)), (1, .int p1), (2, .int p2), (3, .int p3)]) hx hb dX2_splitOff_22 hl (by decide) rfl (fun ls hl => ?_)
  exact L24  FU p1 p2 p3 r33 0 0 0 uh ur34 hf H locs ls hG (lv_sub hl [4, 5, 6, 7, 3, 2, 1, 0] rfl)
set_option maxRecDepth 100000 in
set_option maxHeartbeats 4000000 in
theorem c_X2_greatestKey (l : Launch) (D : va_G) (κ : Nat → ClassId) (a : Nat → Nat) (sz : Nat) (p1 : Int32) (uh : HS) (ur : RS) (r' : Int64) (ur' : RS) (hf : f_X2_greatestKey p1 uh ur = some (r', ur')) : Met l yX2_greatestKey wsX2_greatestKey ({ frames := 4, cells := 0, slots := 0, locals := 93 } : Room) (xPc D κ [.ref (a 13), .int p1] (WH κ a uh ++ (WR κ a ur)) sz) (xQl D κ r' (WH κ a uh ++ (WR κ a ur')) (va_A (WH κ a uh ++ (WR κ a ur)) sz)) 0 0 (va_A (WH κ a uh ++ (WR κ a ur)) sz) := by
  refine x_ofW (cc := cX2_greatestKey) (maxL := 3) (ret := (some .long)) (Qf := fun A => xQl D κ r' (WH κ a uh ++ (WR κ a ur')) A) (by decide) rfl (Nat.le_of_ble_eq_true rfl) ?_
  intro p e s m below meth c hx hb hr hlk hml hown hts hK A hA H locs hG ls hl
  have hown : s.vm.findClass RX2 = some m.cls := hown
  have hl : lv_has ls 3 [(0, .ref (a 13)), (1, .int p1)] := hl
  have iX0 : ∀ w ∈ u_ws RX0 TX0 17, w ∈ wsX2_greatestKey := fun _ h => List.mem_cons_of_mem _ (List.mem_append_right _ h)
  have iX2 : ∀ w ∈ u_ws RX2 TX2 6, w ∈ wsX2_greatestKey := fun _ h => List.mem_cons_of_mem _ (List.mem_append_left _ (List.mem_append_right _ h))
  have k15 := hts (.fieldLink RX2 15 "SpineDesks$Rows" "one" "[I") (List.mem_of_getElem? (i := 3) rfl)
  have k80 := hts (.fieldLink RX2 80 "SpineDesks$Hall" "keyOf" "[J") (List.mem_of_getElem? (i := 2) rfl)
  have k87 := hts (.constantLong RX2 87 (-9223372036854775808)) (List.mem_of_getElem? (i := 4) rfl)
  have k9 := hts (.fieldLink RX2 9 "SpineDesks$Rows" "hall" "LSpineDesks$Hall;") (List.mem_of_getElem? (i := 1) rfl)
  unfold f_X2_greatestKey at hf
  refine lv_aload_n hx hb dX2_greatestKey_0 rfl (lv_at hl 0 rfl) ?_
  refine lv_iload_n hx hb dX2_greatestKey_1 rfl (lv_at hl 1 rfl) ?_
  obtain ⟨r1, ur2, q3, hf⟩ := cl2_e hf
  refine x_callVi (pre := ([] : va_W)) (wc := WH κ a uh ++ (WR κ a ur)) (wc1 := WH κ a uh ++ (WR κ a ur2)) (post := ([] : va_W)) (As := [.int p1]) (rest := []) (w1 := WH κ a uh ++ (WR κ a ur2)) ⟨hx, hb, hml, hown, hts⟩ hK hG hA (by simp only [List.append_assoc, List.nil_append, List.append_nil]) (by simp only [List.append_assoc, List.nil_append, List.append_nil]) (c_X2_sortPlain l D κ a H.size p1 uh ur r1 ur2 q3) (cwV 1 hts gX2_greatestKey_X2_sortPlain rfl rfl rfl (by decide +kernel) ⟨Nat.le_of_ble_eq_true rfl, Nat.le_of_ble_eq_true rfl⟩) 13 2 rfl rfl rfl rfl hl.1 rfl (Nat.le_of_ble_eq_true rfl) dX2_greatestKey_2 ⟨Nat.zero_le _, Nat.zero_le _⟩ (fun H locs hG => ?_)
  refine lv_istore_n (lv' := [(2, .int r1), (0, .ref (a 13)), (1, .int p1)]) hx hb dX2_greatestKey_5 rfl hl (by decide) rfl (fun ls hl => ?_)
  refine lv_iload_n hx hb dX2_greatestKey_6 rfl (lv_at hl 0 rfl) ?_
  refine lv_if_le (tgt := 29) hx hb dX2_greatestKey_7 (by decide) (fun c4 => ?_) (fun c4 => ?_)
  · replace hf := if_t c4 hf
    refine lv_ldc2 (v := (-9223372036854775808)) hx hb hown k87 dX2_greatestKey_29 ?_
    have hz := Option.some.inj hf
    have z0 := (Prod.mk.inj hz).1
    replace hz := (Prod.mk.inj hz).2
    have z1 := hz
    exact x_lret hx hb hr hlk hK hG z0 (by rw [z1]) dX2_greatestKey_32
  · replace hf := if_f c4 hf
    refine lv_aload_n hx hb dX2_greatestKey_10 rfl (lv_at hl 1 rfl) ?_
    refine x_get (C := RX2) (T := TX2) (N := 6) (ci := 2) hx hb hts iX2 hown hK hG 13 rfl rfl 0 (by decide) k9 (v := .ref (a 0)) rfl dX2_greatestKey_11 ?_
    refine x_get (C := RX0) (T := TX0) (N := 17) (ci := 0) hx hb hts iX0 hown hK hG 0 rfl rfl 6 (by decide) k80 (v := .ref (a 2)) rfl dX2_greatestKey_14 ?_
    refine lv_aload_n hx hb dX2_greatestKey_17 rfl (lv_at hl 1 rfl) ?_
    refine x_get (C := RX2) (T := TX2) (N := 6) (ci := 2) hx hb hts iX2 hown hK hG 13 rfl rfl 1 (by decide) k15 (v := .ref (a 14)) rfl dX2_greatestKey_18 ?_
    refine lv_iload_n hx hb dX2_greatestKey_21 rfl (lv_at hl 0 rfl) ?_
    refine lv_iconst (v := 1) hx hb dX2_greatestKey_22 (by decide) ?_
    refine lv_isub hx hb dX2_greatestKey_23 ?_
    obtain ⟨v5, ev5, hin, hf⟩ := ck_e hf
    refine x_iald hx hb hK hG 14 rfl ev5 hin dX2_greatestKey_24 ?_
    obtain ⟨v6, ev6, hin, hf⟩ := ck_e hf
    refine x_lald hx hb hK hG 2 rfl ev6 hin dX2_greatestKey_25 ?_
    refine lv_goto (tgt := 32) hx hb dX2_greatestKey_26 (by decide) ?_
    have hz := Option.some.inj hf
    have z0 := (Prod.mk.inj hz).1
    replace hz := (Prod.mk.inj hz).2
    have z1 := hz
    exact x_lret hx hb hr hlk hK hG z0 (by rw [z1]) dX2_greatestKey_32
set_option maxRecDepth 100000 in
set_option maxHeartbeats 4000000 in
theorem c_X2_greatestGap (l : Launch) (D : va_G) (κ : Nat → ClassId) (a : Nat → Nat) (sz : Nat) (p1 : Int32) (uh : HS) (ur : RS) (r' : Int64) (ur' : RS) (hf : f_X2_greatestGap p1 uh ur = some (r', ur')) : Met l yX2_greatestGap wsX2_greatestGap ({ frames := 4, cells := 0, slots := 0, locals := 93 } : Room) (xPc D κ [.ref (a 13), .int p1] (WH κ a uh ++ (WR κ a ur)) sz) (xQl D κ r' (WH κ a uh ++ (WR κ a ur')) (va_A (WH κ a uh ++ (WR κ a ur)) sz)) 0 0 (va_A (WH κ a uh ++ (WR κ a ur)) sz) := by
  refine x_ofW (cc := cX2_greatestGap) (maxL := 6) (ret := (some .long)) (Qf := fun A => xQl D κ r' (WH κ a uh ++ (WR κ a ur')) A) (by decide) rfl (Nat.le_of_ble_eq_true rfl) ?_
  intro p e s m below meth c hx hb hr hlk hml hown hts hK A hA H locs hG ls hl
  have hown : s.vm.findClass RX2 = some m.cls := hown
  have hl : lv_has ls 6 [(0, .ref (a 13)), (1, .int p1)] := hl
  have iX0 : ∀ w ∈ u_ws RX0 TX0 17, w ∈ wsX2_greatestGap := fun _ h => List.mem_cons_of_mem _ (List.mem_append_right _ h)
  have iX2 : ∀ w ∈ u_ws RX2 TX2 6, w ∈ wsX2_greatestGap := fun _ h => List.mem_cons_of_mem _ (List.mem_append_left _ (List.mem_append_right _ h))
  have k15 := hts (.fieldLink RX2 15 "SpineDesks$Rows" "one" "[I") (List.mem_of_getElem? (i := 4) rfl)
  have k80 := hts (.fieldLink RX2 80 "SpineDesks$Hall" "keyOf" "[J") (List.mem_of_getElem? (i := 3) rfl)
  have k87 := hts (.constantLong RX2 87 (-9223372036854775808)) (List.mem_of_getElem? (i := 1) rfl)
  have k89 := hts (.methodLink RX2 89 Lib.MathLoose.max_long.x) (List.mem_of_getElem? (i := 5) rfl)
  have k9 := hts (.fieldLink RX2 9 "SpineDesks$Rows" "hall" "LSpineDesks$Hall;") (List.mem_of_getElem? (i := 2) rfl)
  have kc89 := hts (.code Lib.MathLoose.max_long.x Lib.MathLoose.max_long.code 4 (some .long)) (List.mem_of_getElem? (i := 8) rfl)
  have ki := hts (.initialized "java/lang/Math") (List.mem_of_getElem? (i := 7) rfl)
  have ks89 := hts (.static Lib.MathLoose.max_long.x) (List.mem_of_getElem? (i := 6) rfl)
  have L13 : ∀ (n : Nat), ∀ (x2 : Int32) (x3 : Int64) (x5 : Int32) (ur : RS), f_X2_greatestGap_13 uh n x2 x3 x5 ur = some (r', ur') → ∀ (H : Heap) (locs : List Loc) (ls : Array Slot), xG D A s.heap (WH κ a uh ++ (WR κ a ur)) H locs → lv_has ls 6 [(0, .ref (a 13)), (2, .int x2), (3, .long x3), (5, .int x5)] → W p l e ({ frames := 4, cells := 0, slots := 0, locals := 93 } : Room) s m (([.ref (a 13), .int p1] : List Value).toArray) below meth c H locs 0 0 (MQ below (xQl D κ r' (WH κ a uh ++ (WR κ a ur')) A) (([.ref (a 13), .int p1] : List Value).toArray) s 0 0 A) (F0 m 13 ls []) := by
    intro  n
    induction n with
    | zero => intro x2 x3 x5 ur hf; cases hf
    | succ n ih =>
      intro x2 x3 x5 ur hf H locs ls hG hl
      replace hf : f_X2_greatestGap_B13 uh (f_X2_greatestGap_13 uh n) x2 x3 x5 ur = some (r', ur') := hf
      unfold f_X2_greatestGap_B13 at hf
      refine lv_iload hx hb dX2_greatestGap_13 (lv_at hl 3 rfl) ?_
      refine lv_iload_n hx hb dX2_greatestGap_15 rfl (lv_at hl 1 rfl) ?_
      refine lv_icmp_ge (tgt := 63) hx hb dX2_greatestGap_16 (by decide) (fun c1 => ?_) (fun c1 => ?_)
      · replace hf := if_t c1 hf
        refine lv_lload_n hx hb dX2_greatestGap_63 rfl (lv_at hl 2 rfl) ?_
        have hz := Option.some.inj hf
        have z0 := (Prod.mk.inj hz).1
        replace hz := (Prod.mk.inj hz).2
        have z1 := hz
        exact x_lret hx hb hr hlk hK hG z0 (by rw [z1]) dX2_greatestGap_64
      · replace hf := if_f c1 hf
        refine lv_lload_n hx hb dX2_greatestGap_19 rfl (lv_at hl 2 rfl) ?_
        refine lv_aload_n hx hb dX2_greatestGap_20 rfl (lv_at hl 0 rfl) ?_
        refine x_get (C := RX2) (T := TX2) (N := 6) (ci := 2) hx hb hts iX2 hown hK hG 13 rfl rfl 0 (by decide) k9 (v := .ref (a 0)) rfl dX2_greatestGap_21 ?_
        refine x_get (C := RX0) (T := TX0) (N := 17) (ci := 0) hx hb hts iX0 hown hK hG 0 rfl rfl 6 (by decide) k80 (v := .ref (a 2)) rfl dX2_greatestGap_24 ?_
        refine lv_aload_n hx hb dX2_greatestGap_27 rfl (lv_at hl 0 rfl) ?_
        refine x_get (C := RX2) (T := TX2) (N := 6) (ci := 2) hx hb hts iX2 hown hK hG 13 rfl rfl 1 (by decide) k15 (v := .ref (a 14)) rfl dX2_greatestGap_28 ?_
        refine lv_iload hx hb dX2_greatestGap_31 (lv_at hl 3 rfl) ?_
        obtain ⟨v2, ev2, hin, hf⟩ := ck_e hf
        refine x_iald hx hb hK hG 14 rfl ev2 hin dX2_greatestGap_33 ?_
        obtain ⟨v3, ev3, hin, hf⟩ := ck_e hf
        refine x_lald hx hb hK hG 2 rfl ev3 hin dX2_greatestGap_34 ?_
        refine lv_aload_n hx hb dX2_greatestGap_35 rfl (lv_at hl 0 rfl) ?_
        refine x_get (C := RX2) (T := TX2) (N := 6) (ci := 2) hx hb hts iX2 hown hK hG 13 rfl rfl 0 (by decide) k9 (v := .ref (a 0)) rfl dX2_greatestGap_36 ?_
        refine x_get (C := RX0) (T := TX0) (N := 17) (ci := 0) hx hb hts iX0 hown hK hG 0 rfl rfl 6 (by decide) k80 (v := .ref (a 2)) rfl dX2_greatestGap_39 ?_
        refine lv_aload_n hx hb dX2_greatestGap_42 rfl (lv_at hl 0 rfl) ?_
        refine x_get (C := RX2) (T := TX2) (N := 6) (ci := 2) hx hb hts iX2 hown hK hG 13 rfl rfl 1 (by decide) k15 (v := .ref (a 14)) rfl dX2_greatestGap_43 ?_
        refine lv_iload hx hb dX2_greatestGap_46 (lv_at hl 3 rfl) ?_
        refine lv_iconst (v := 1) hx hb dX2_greatestGap_48 (by decide) ?_
        refine lv_isub hx hb dX2_greatestGap_49 ?_
        obtain ⟨v4, ev4, hin, hf⟩ := ck_e hf
        refine x_iald hx hb hK hG 14 rfl ev4 hin dX2_greatestGap_50 ?_
        obtain ⟨v5, ev5, hin, hf⟩ := ck_e hf
        refine x_lald hx hb hK hG 2 rfl ev5 hin dX2_greatestGap_51 ?_
        refine lv_lsub hx hb dX2_greatestGap_52 ?_
        refine va_mmax_long hx hb (hml.trans hl.1.symm) hown k89 ks89 ki kc89 (Nat.le_of_ble_eq_true rfl) (Nat.le_of_ble_eq_true rfl) (Nat.zero_le _) (Nat.zero_le _) dX2_greatestGap_53 ?_
        refine lv_topl (fun y6 ey6 => ?_)
        replace hf := bnd_at ey6 hf
        refine lv_lstore_n (lv' := [(3, .long y6), (0, .ref (a 13)), (2, .int x2), (5, .int x5)]) hx hb dX2_greatestGap_56 rfl hl (by decide) rfl (fun ls hl => ?_)
        obtain ⟨y7, ey7, hf⟩ := bnd_e hf
        refine lv_iinc (v := y7) (lv' := [(5, .int y7), (3, .long y6), (0, .ref (a 13)), (2, .int x2)]) hx hb dX2_greatestGap_57 hl (k := 3) rfl (by rw [ey7]; rfl) (by decide) rfl (fun ls hl => ?_)
        refine lv_goto (tgt := 13) hx hb dX2_greatestGap_60 (by decide) ?_
        exact ih x2 y6 y7 ur hf H locs ls hG (lv_sub hl [2, 3, 1, 0] rfl)
  unfold f_X2_greatestGap at hf
  refine lv_aload_n hx hb dX2_greatestGap_0 rfl (lv_at hl 0 rfl) ?_
  refine lv_iload_n hx hb dX2_greatestGap_1 rfl (lv_at hl 1 rfl) ?_
  obtain ⟨r8, ur9, q10, hf⟩ := cl2_e hf
  refine x_callVi (pre := ([] : va_W)) (wc := WH κ a uh ++ (WR κ a ur)) (wc1 := WH κ a uh ++ (WR κ a ur9)) (post := ([] : va_W)) (As := [.int p1]) (rest := []) (w1 := WH κ a uh ++ (WR κ a ur9)) ⟨hx, hb, hml, hown, hts⟩ hK hG hA (by simp only [List.append_assoc, List.nil_append, List.append_nil]) (by simp only [List.append_assoc, List.nil_append, List.append_nil]) (c_X2_sortPlain l D κ a H.size p1 uh ur r8 ur9 q10) (cwV 1 hts gX2_greatestGap_X2_sortPlain rfl rfl rfl (by decide +kernel) ⟨Nat.le_of_ble_eq_true rfl, Nat.le_of_ble_eq_true rfl⟩) 13 2 rfl rfl rfl rfl hl.1 rfl (Nat.le_of_ble_eq_true rfl) dX2_greatestGap_2 ⟨Nat.zero_le _, Nat.zero_le _⟩ (fun H locs hG => ?_)
  refine lv_istore_n (lv' := [(2, .int r8), (0, .ref (a 13)), (1, .int p1)]) hx hb dX2_greatestGap_5 rfl hl (by decide) rfl (fun ls hl => ?_)
  refine lv_ldc2 (v := (-9223372036854775808)) hx hb hown k87 dX2_greatestGap_6 ?_
  refine lv_lstore_n (lv' := [(3, .long ((-9223372036854775808))), (2, .int r8), (0, .ref (a 13)), (1, .int p1)]) hx hb dX2_greatestGap_9 rfl hl (by decide) rfl (fun ls hl => ?_)
  refine lv_iconst (v := 1) hx hb dX2_greatestGap_10 (by decide) ?_
  refine lv_istore (lv' := [(5, .int 1), (3, .long ((-9223372036854775808))), (2, .int r8), (0, .ref (a 13)), (1, .int p1)]) hx hb dX2_greatestGap_11 hl (by decide) rfl (fun ls hl => ?_)
  exact L13  FU r8 ((-9223372036854775808)) 1 ur9 hf H locs ls hG (lv_sub hl [3, 2, 1, 0] rfl)
set_option maxRecDepth 100000 in
set_option maxHeartbeats 4000000 in
theorem c_X2_differentKeys (l : Launch) (D : va_G) (κ : Nat → ClassId) (a : Nat → Nat) (sz : Nat) (p1 : Int32) (uh : HS) (ur : RS) (r' : Int64) (ur' : RS) (hf : f_X2_differentKeys p1 uh ur = some (r', ur')) : Met l yX2_differentKeys wsX2_differentKeys ({ frames := 4, cells := 0, slots := 0, locals := 93 } : Room) (xPc D κ [.ref (a 13), .int p1] (WH κ a uh ++ (WR κ a ur)) sz) (xQl D κ r' (WH κ a uh ++ (WR κ a ur')) (va_A (WH κ a uh ++ (WR κ a ur)) sz)) 0 0 (va_A (WH κ a uh ++ (WR κ a ur)) sz) := by
  refine x_ofW (cc := cX2_differentKeys) (maxL := 5) (ret := (some .long)) (Qf := fun A => xQl D κ r' (WH κ a uh ++ (WR κ a ur')) A) (by decide) rfl (Nat.le_of_ble_eq_true rfl) ?_
  intro p e s m below meth c hx hb hr hlk hml hown hts hK A hA H locs hG ls hl
  have hown : s.vm.findClass RX2 = some m.cls := hown
  have hl : lv_has ls 5 [(0, .ref (a 13)), (1, .int p1)] := hl
  have iX0 : ∀ w ∈ u_ws RX0 TX0 17, w ∈ wsX2_differentKeys := fun _ h => List.mem_cons_of_mem _ (List.mem_append_right _ h)
  have iX2 : ∀ w ∈ u_ws RX2 TX2 6, w ∈ wsX2_differentKeys := fun _ h => List.mem_cons_of_mem _ (List.mem_append_left _ (List.mem_append_right _ h))
  have k15 := hts (.fieldLink RX2 15 "SpineDesks$Rows" "one" "[I") (List.mem_of_getElem? (i := 3) rfl)
  have k80 := hts (.fieldLink RX2 80 "SpineDesks$Hall" "keyOf" "[J") (List.mem_of_getElem? (i := 2) rfl)
  have k9 := hts (.fieldLink RX2 9 "SpineDesks$Rows" "hall" "LSpineDesks$Hall;") (List.mem_of_getElem? (i := 1) rfl)
  have L64 : ∀ (rec11 : Int32 → Int32 → Int32 → RS → Option (Int64 × RS)) (hr11 : ∀ (y2 : Int32) (y3 : Int32) (y4 : Int32) (ur : RS), rec11 y2 y3 y4 ur = some (r', ur') → ∀ (H : Heap) (locs : List Loc) (ls : Array Slot), xG D A s.heap (WH κ a uh ++ (WR κ a ur)) H locs → lv_has ls 5 [(0, .ref (a 13)), (2, .int y2), (3, .int y3), (4, .int y4)] → W p l e ({ frames := 4, cells := 0, slots := 0, locals := 93 } : Room) s m (([.ref (a 13), .int p1] : List Value).toArray) below meth c H locs 0 0 (MQ below (xQl D κ r' (WH κ a uh ++ (WR κ a ur')) A) (([.ref (a 13), .int p1] : List Value).toArray) s 0 0 A) (F0 m 11 ls [])), ∀ (x2 : Int32) (x4 : Int32) (s0 : Int32) (s1 : Int32) (ur : RS), f_X2_differentKeys_64 uh rec11 x2 x4 s0 s1 ur = some (r', ur') → ∀ (H : Heap) (locs : List Loc) (ls : Array Slot), xG D A s.heap (WH κ a uh ++ (WR κ a ur)) H locs → lv_has ls 5 [(0, .ref (a 13)), (2, .int x2), (4, .int x4)] → W p l e ({ frames := 4, cells := 0, slots := 0, locals := 93 } : Room) s m (([.ref (a 13), .int p1] : List Value).toArray) below meth c H locs 0 0 (MQ below (xQl D κ r' (WH κ a uh ++ (WR κ a ur')) A) (([.ref (a 13), .int p1] : List Value).toArray) s 0 0 A) (F0 m 64 ls [.int s1, .int s0]) := by
    intro rec11 hr11 x2 x4 s0 s1 ur hf H locs ls hG hl
    unfold f_X2_differentKeys_64 at hf
    refine lv_iadd hx hb dX2_differentKeys_64 ?_
    refine lv_topi (fun y1 ey1 => ?_)
    replace hf := bnd_at ey1 hf
    refine lv_istore_n (lv' := [(3, .int y1), (0, .ref (a 13)), (2, .int x2), (4, .int x4)]) hx hb dX2_differentKeys_65 rfl hl (by decide) rfl (fun ls hl => ?_)
    obtain ⟨y2, ey2, hf⟩ := bnd_e hf
    refine lv_iinc (v := y2) (lv' := [(4, .int y2), (3, .int y1), (0, .ref (a 13)), (2, .int x2)]) hx hb dX2_differentKeys_66 hl (k := 3) rfl (by rw [ey2]; rfl) (by decide) rfl (fun ls hl => ?_)
    refine lv_goto (tgt := 11) hx hb dX2_differentKeys_69 (by decide) ?_
    exact hr11 x2 y1 y2 ur hf H locs ls hG (lv_sub hl [2, 3, 1, 0] rfl)
  have L59 : ∀ (rec11 : Int32 → Int32 → Int32 → RS → Option (Int64 × RS)) (hr11 : ∀ (y2 : Int32) (y3 : Int32) (y4 : Int32) (ur : RS), rec11 y2 y3 y4 ur = some (r', ur') → ∀ (H : Heap) (locs : List Loc) (ls : Array Slot), xG D A s.heap (WH κ a uh ++ (WR κ a ur)) H locs → lv_has ls 5 [(0, .ref (a 13)), (2, .int y2), (3, .int y3), (4, .int y4)] → W p l e ({ frames := 4, cells := 0, slots := 0, locals := 93 } : Room) s m (([.ref (a 13), .int p1] : List Value).toArray) below meth c H locs 0 0 (MQ below (xQl D κ r' (WH κ a uh ++ (WR κ a ur')) A) (([.ref (a 13), .int p1] : List Value).toArray) s 0 0 A) (F0 m 11 ls [])), ∀ (x2 : Int32) (x4 : Int32) (s0 : Int32) (ur : RS), f_X2_differentKeys_59 uh rec11 x2 x4 s0 ur = some (r', ur') → ∀ (H : Heap) (locs : List Loc) (ls : Array Slot), xG D A s.heap (WH κ a uh ++ (WR κ a ur)) H locs → lv_has ls 5 [(0, .ref (a 13)), (2, .int x2), (4, .int x4)] → W p l e ({ frames := 4, cells := 0, slots := 0, locals := 93 } : Room) s m (([.ref (a 13), .int p1] : List Value).toArray) below meth c H locs 0 0 (MQ below (xQl D κ r' (WH κ a uh ++ (WR κ a ur')) A) (([.ref (a 13), .int p1] : List Value).toArray) s 0 0 A) (F0 m 59 ls [.int s0]) := by
    intro rec11 hr11 x2 x4 s0 ur hf H locs ls hG hl
    unfold f_X2_differentKeys_59 at hf
    refine lv_iconst (v := 1) hx hb dX2_differentKeys_59 (by decide) ?_
    refine lv_goto (tgt := 64) hx hb dX2_differentKeys_60 (by decide) ?_
    exact L64 rec11 hr11  x2 x4 s0 1 ur hf H locs ls hG (lv_sub hl [0, 1, 2] rfl)
  have L11 : ∀ (n : Nat), ∀ (x2 : Int32) (x3 : Int32) (x4 : Int32) (ur : RS), f_X2_differentKeys_11 uh n x2 x3 x4 ur = some (r', ur') → ∀ (H : Heap) (locs : List Loc) (ls : Array Slot), xG D A s.heap (WH κ a uh ++ (WR κ a ur)) H locs → lv_has ls 5 [(0, .ref (a 13)), (2, .int x2), (3, .int x3), (4, .int x4)] → W p l e ({ frames := 4, cells := 0, slots := 0, locals := 93 } : Room) s m (([.ref (a 13), .int p1] : List Value).toArray) below meth c H locs 0 0 (MQ below (xQl D κ r' (WH κ a uh ++ (WR κ a ur')) A) (([.ref (a 13), .int p1] : List Value).toArray) s 0 0 A) (F0 m 11 ls []) := by
    intro  n
    induction n with
    | zero => intro x2 x3 x4 ur hf; cases hf
    | succ n ih =>
      intro x2 x3 x4 ur hf H locs ls hG hl
      replace hf : f_X2_differentKeys_B11 uh (f_X2_differentKeys_11 uh n) x2 x3 x4 ur = some (r', ur') := hf
      unfold f_X2_differentKeys_B11 at hf
      refine lv_iload hx hb dX2_differentKeys_11 (lv_at hl 3 rfl) ?_
      refine lv_iload_n hx hb dX2_differentKeys_13 rfl (lv_at hl 1 rfl) ?_
      refine lv_icmp_ge (tgt := 72) hx hb dX2_differentKeys_14 (by decide) (fun c3 => ?_) (fun c3 => ?_)
      · replace hf := if_t c3 hf
        refine lv_iload_n hx hb dX2_differentKeys_72 rfl (lv_at hl 2 rfl) ?_
        refine lv_i2l hx hb dX2_differentKeys_73 rfl ?_
        have hz := Option.some.inj hf
        have z0 := (Prod.mk.inj hz).1
        replace hz := (Prod.mk.inj hz).2
        have z1 := hz
        exact x_lret hx hb hr hlk hK hG z0 (by rw [z1]) dX2_differentKeys_74
      · replace hf := if_f c3 hf
        refine lv_iload_n hx hb dX2_differentKeys_17 rfl (lv_at hl 2 rfl) ?_
        refine lv_iload hx hb dX2_differentKeys_18 (lv_at hl 3 rfl) ?_
        refine lv_if_eq (tgt := 59) hx hb dX2_differentKeys_20 (by decide) (fun c4 => ?_) (fun c4 => ?_)
        · replace hf := if_t c4 hf
          exact L59 (f_X2_differentKeys_11 uh n) ih  x2 x4 x3 ur hf H locs ls hG (lv_sub hl [0, 1, 3] rfl)
        · replace hf := if_f c4 hf
          refine lv_aload_n hx hb dX2_differentKeys_23 rfl (lv_at hl 0 rfl) ?_
          refine x_get (C := RX2) (T := TX2) (N := 6) (ci := 2) hx hb hts iX2 hown hK hG 13 rfl rfl 0 (by decide) k9 (v := .ref (a 0)) rfl dX2_differentKeys_24 ?_
          refine x_get (C := RX0) (T := TX0) (N := 17) (ci := 0) hx hb hts iX0 hown hK hG 0 rfl rfl 6 (by decide) k80 (v := .ref (a 2)) rfl dX2_differentKeys_27 ?_
          refine lv_aload_n hx hb dX2_differentKeys_30 rfl (lv_at hl 0 rfl) ?_
          refine x_get (C := RX2) (T := TX2) (N := 6) (ci := 2) hx hb hts iX2 hown hK hG 13 rfl rfl 1 (by decide) k15 (v := .ref (a 14)) rfl dX2_differentKeys_31 ?_
          refine lv_iload hx hb dX2_differentKeys_34 (lv_at hl 3 rfl) ?_
          obtain ⟨v5, ev5, hin, hf⟩ := ck_e hf
          refine x_iald hx hb hK hG 14 rfl ev5 hin dX2_differentKeys_36 ?_
          obtain ⟨v6, ev6, hin, hf⟩ := ck_e hf
          refine x_lald hx hb hK hG 2 rfl ev6 hin dX2_differentKeys_37 ?_
          refine lv_aload_n hx hb dX2_differentKeys_38 rfl (lv_at hl 0 rfl) ?_
          refine x_get (C := RX2) (T := TX2) (N := 6) (ci := 2) hx hb hts iX2 hown hK hG 13 rfl rfl 0 (by decide) k9 (v := .ref (a 0)) rfl dX2_differentKeys_39 ?_
          refine x_get (C := RX0) (T := TX0) (N := 17) (ci := 0) hx hb hts iX0 hown hK hG 0 rfl rfl 6 (by decide) k80 (v := .ref (a 2)) rfl dX2_differentKeys_42 ?_
          refine lv_aload_n hx hb dX2_differentKeys_45 rfl (lv_at hl 0 rfl) ?_
          refine x_get (C := RX2) (T := TX2) (N := 6) (ci := 2) hx hb hts iX2 hown hK hG 13 rfl rfl 1 (by decide) k15 (v := .ref (a 14)) rfl dX2_differentKeys_46 ?_
          refine lv_iload hx hb dX2_differentKeys_49 (lv_at hl 3 rfl) ?_
          refine lv_iconst (v := 1) hx hb dX2_differentKeys_51 (by decide) ?_
          refine lv_isub hx hb dX2_differentKeys_52 ?_
          obtain ⟨v7, ev7, hin, hf⟩ := ck_e hf
          refine x_iald hx hb hK hG 14 rfl ev7 hin dX2_differentKeys_53 ?_
          obtain ⟨v8, ev8, hin, hf⟩ := ck_e hf
          refine x_lald hx hb hK hG 2 rfl ev8 hin dX2_differentKeys_54 ?_
          refine W.lcmp hx hb dX2_differentKeys_55 ?_
          refine lv_if_eq (tgt := 63) hx hb dX2_differentKeys_56 (by decide) (fun c9 => ?_) (fun c9 => ?_)
          · rw [lg_cmp_eq] at c9
            replace hf := if_t c9 hf
            refine lv_iconst (v := 0) hx hb dX2_differentKeys_63 (by decide) ?_
            exact L64 (f_X2_differentKeys_11 uh n) ih  x2 x4 x3 0 ur hf H locs ls hG (lv_sub hl [0, 1, 3] rfl)
          · rw [lg_cmp_eq] at c9
            replace hf := if_f c9 hf
            exact L59 (f_X2_differentKeys_11 uh n) ih  x2 x4 x3 ur hf H locs ls hG (lv_sub hl [0, 1, 3] rfl)
  unfold f_X2_differentKeys at hf
  refine lv_aload_n hx hb dX2_differentKeys_0 rfl (lv_at hl 0 rfl) ?_
  refine lv_iload_n hx hb dX2_differentKeys_1 rfl (lv_at hl 1 rfl) ?_
  obtain ⟨r10, ur11, q12, hf⟩ := cl2_e hf
  refine x_callVi (pre := ([] : va_W)) (wc := WH κ a uh ++ (WR κ a ur)) (wc1 := WH κ a uh ++ (WR κ a ur11)) (post := ([] : va_W)) (As := [.int p1]) (rest := []) (w1 := WH κ a uh ++ (WR κ a ur11)) ⟨hx, hb, hml, hown, hts⟩ hK hG hA (by simp only [List.append_assoc, List.nil_append, List.append_nil]) (by simp only [List.append_assoc, List.nil_append, List.append_nil]) (c_X2_sortPlain l D κ a H.size p1 uh ur r10 ur11 q12) (cwV 1 hts gX2_differentKeys_X2_sortPlain rfl rfl rfl (by decide +kernel) ⟨Nat.le_of_ble_eq_true rfl, Nat.le_of_ble_eq_true rfl⟩) 13 2 rfl rfl rfl rfl hl.1 rfl (Nat.le_of_ble_eq_true rfl) dX2_differentKeys_2 ⟨Nat.zero_le _, Nat.zero_le _⟩ (fun H locs hG => ?_)
  refine lv_istore_n (lv' := [(2, .int r10), (0, .ref (a 13)), (1, .int p1)]) hx hb dX2_differentKeys_5 rfl hl (by decide) rfl (fun ls hl => ?_)
  refine lv_iconst (v := 0) hx hb dX2_differentKeys_6 (by decide) ?_
  refine lv_istore_n (lv' := [(3, .int 0), (2, .int r10), (0, .ref (a 13)), (1, .int p1)]) hx hb dX2_differentKeys_7 rfl hl (by decide) rfl (fun ls hl => ?_)
  refine lv_iconst (v := 0) hx hb dX2_differentKeys_8 (by decide) ?_
  refine lv_istore (lv' := [(4, .int 0), (3, .int 0), (2, .int r10), (0, .ref (a 13)), (1, .int p1)]) hx hb dX2_differentKeys_9 hl (by decide) rfl (fun ls hl => ?_)
  exact L11  FU r10 0 0 ur11 hf H locs ls hG (lv_sub hl [3, 2, 1, 0] rfl)
