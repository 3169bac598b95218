set_option maxRecDepth 100000 in
set_option maxHeartbeats 4000000 in
theorem c_X5_copy_row_kept (l : Launch) (D : va_G) (κ : Nat → ClassId) (a : Nat → Nat) (sz : Nat) (p2 : Int32) (p5 : Int32) (uv : MS)  (uv' : MS) (hf : f_X5_copy_row_kept p2 p5 uv = some (uv')) : Met l yX5_copy wsX5_copy ({ frames := 0, cells := 0, slots := 0, locals := 0 } : Room) (xPc D κ [.ref (a 2), .ref (a 3), .int p2, .ref (a 4), .ref (a 5), .int p5] (WM κ a uv) sz) (xQv D κ (WM κ a uv') (va_A (WM κ a uv) sz)) 0 0 (va_A (WM κ a uv) sz) := by
  refine x_ofW (cc := cX5_copy) (maxL := 7) (ret := none) (Qf := fun A => xQv D κ (WM κ a uv') A) (by decide) rfl (Nat.le_of_ble_eq_true rfl) ?_
  intro p e s m below meth c hx hb hr hlk hml hown hts hK A hA H locs hG ls hl
  have hown : s.vm.findClass RX5 = some m.cls := hown
  have hl : lv_has ls 7 [(0, .ref (a 2)), (1, .ref (a 3)), (2, .int p2), (3, .ref (a 4)), (4, .ref (a 5)), (5, .int p5)] := hl
  have L41 : ∀ (n : Nat), ∀ (x2 : Int32) (x5 : Int32) (x6 : Int32) (uv : MS), f_X5_copy_row_kept_41 n x2 x5 x6 uv = some (uv') → ∀ (H : Heap) (locs : List Loc) (ls : Array Slot), xG D A s.heap (WM κ a uv) H locs → lv_has ls 7 [(1, .ref (a 3)), (2, .int x2), (4, .ref (a 5)), (5, .int x5), (6, .int x6)] → W p l e ({ frames := 0, cells := 0, slots := 0, locals := 0 } : Room) s m (([.ref (a 2), .ref (a 3), .int p2, .ref (a 4), .ref (a 5), .int p5] : List Value).toArray) below meth c H locs 0 0 (MQ below (xQv D κ (WM κ a uv') A) (([.ref (a 2), .ref (a 3), .int p2, .ref (a 4), .ref (a 5), .int p5] : List Value).toArray) s 0 0 A) (F0 m 41 ls []) := by
    intro  n
    induction n with
    | zero => intro x2 x5 x6 uv hf; cases hf
    | succ n ih =>
      intro x2 x5 x6 uv hf H locs ls hG hl
      replace hf : f_X5_copy_row_kept_B41 (f_X5_copy_row_kept_41 n) x2 x5 x6 uv = some (uv') := hf
      unfold f_X5_copy_row_kept_B41 at hf
      refine lv_iload hx hb dX5_copy_41 (lv_at hl 4 rfl) ?_
      refine lv_sipush (v := 340) hx hb dX5_copy_43 (by decide) ?_
      refine lv_icmp_ge (tgt := 77) hx hb dX5_copy_46 (by decide) (fun c1 => ?_) (fun c1 => ?_)
      · replace hf := if_t c1 hf
        have z0 := Option.some.inj hf
        exact x_vret hx hb hr hlk hK hG (by rw [z0]) dX5_copy_77
      · replace hf := if_f c1 hf
        refine lv_aload hx hb dX5_copy_49 (lv_at hl 2 rfl) ?_
        refine lv_sipush (v := 340) hx hb dX5_copy_51 (by decide) ?_
        refine lv_iload hx hb dX5_copy_54 (lv_at hl 3 rfl) ?_
        refine lv_imul hx hb dX5_copy_56 ?_
        refine lv_iload hx hb dX5_copy_57 (lv_at hl 4 rfl) ?_
        refine lv_iadd hx hb dX5_copy_59 ?_
        refine lv_aload_n hx hb dX5_copy_60 rfl (lv_at hl 0 rfl) ?_
        refine lv_sipush (v := 340) hx hb dX5_copy_61 (by decide) ?_
        refine lv_iload_n hx hb dX5_copy_64 rfl (lv_at hl 1 rfl) ?_
        refine lv_imul hx hb dX5_copy_65 ?_
        refine lv_iload hx hb dX5_copy_66 (lv_at hl 4 rfl) ?_
        refine lv_iadd hx hb dX5_copy_68 ?_
        obtain ⟨v2, ev2, hin, hf⟩ := ck_e hf
        refine x_lald hx hb hK hG 3 rfl ev2 hin dX5_copy_69 ?_
        obtain ⟨uv3, euv3, hin, hf⟩ := ck_e hf
        refine x_last hx hb hK hG 5 rfl (w1 := WM κ a uv3) (by rw [euv3]; rfl) hin dX5_copy_70 (fun H locs hG => ?_)
        obtain ⟨y4, ey4, hf⟩ := bnd_e hf
        refine lv_iinc (v := y4) (lv' := [(6, .int y4), (1, .ref (a 3)), (2, .int x2), (4, .ref (a 5)), (5, .int x5)]) hx hb dX5_copy_71 hl (k := 4) rfl (by rw [ey4]; rfl) (by decide) rfl (fun ls hl => ?_)
        refine lv_goto (tgt := 41) hx hb dX5_copy_74 (by decide) ?_
        exact ih x2 x5 y4 uv3 hf H locs ls hG (lv_sub hl [1, 2, 3, 4, 0] rfl)
  have L3 : ∀ (n : Nat), ∀ (x2 : Int32) (x5 : Int32) (x6 : Int32) (uv : MS), f_X5_copy_row_kept_3 n x2 x5 x6 uv = some (uv') → ∀ (H : Heap) (locs : List Loc) (ls : Array Slot), xG D A s.heap (WM κ a uv) H locs → lv_has ls 7 [(0, .ref (a 2)), (1, .ref (a 3)), (2, .int x2), (3, .ref (a 4)), (4, .ref (a 5)), (5, .int x5), (6, .int x6)] → W p l e ({ frames := 0, cells := 0, slots := 0, locals := 0 } : Room) s m (([.ref (a 2), .ref (a 3), .int p2, .ref (a 4), .ref (a 5), .int p5] : List Value).toArray) below meth c H locs 0 0 (MQ below (xQv D κ (WM κ a uv') A) (([.ref (a 2), .ref (a 3), .int p2, .ref (a 4), .ref (a 5), .int p5] : List Value).toArray) s 0 0 A) (F0 m 3 ls []) := by
    intro  n
    induction n with
    | zero => intro x2 x5 x6 uv hf; cases hf
    | succ n ih =>
      intro x2 x5 x6 uv hf H locs ls hG hl
      replace hf : f_X5_copy_row_kept_B3 (f_X5_copy_row_kept_3 n) x2 x5 x6 uv = some (uv') := hf
      unfold f_X5_copy_row_kept_B3 at hf
      refine lv_iload hx hb dX5_copy_3 (lv_at hl 6 rfl) ?_
      refine lv_sipush (v := 2250) hx hb dX5_copy_5 (by decide) ?_
      refine lv_icmp_ge (tgt := 38) hx hb dX5_copy_8 (by decide) (fun c5 => ?_) (fun c5 => ?_)
      · replace hf := if_t c5 hf
        refine lv_iconst (v := 0) hx hb dX5_copy_38 (by decide) ?_
        refine lv_istore (lv' := [(6, .int 0), (0, .ref (a 2)), (1, .ref (a 3)), (2, .int x2), (3, .ref (a 4)), (4, .ref (a 5)), (5, .int x5)]) hx hb dX5_copy_39 hl (by decide) rfl (fun ls hl => ?_)
        exact L41  FU x2 x5 0 uv hf H locs ls hG (lv_sub hl [2, 3, 5, 6, 0] rfl)
      · replace hf := if_f c5 hf
        refine lv_aload_n hx hb dX5_copy_11 rfl (lv_at hl 3 rfl) ?_
        refine lv_sipush (v := 2250) hx hb dX5_copy_12 (by decide) ?_
        refine lv_iload hx hb dX5_copy_15 (lv_at hl 5 rfl) ?_
        refine lv_imul hx hb dX5_copy_17 ?_
        refine lv_iload hx hb dX5_copy_18 (lv_at hl 6 rfl) ?_
        refine lv_iadd hx hb dX5_copy_20 ?_
        refine lv_aload_n hx hb dX5_copy_21 rfl (lv_at hl 0 rfl) ?_
        refine lv_sipush (v := 2250) hx hb dX5_copy_22 (by decide) ?_
        refine lv_iload_n hx hb dX5_copy_25 rfl (lv_at hl 2 rfl) ?_
        refine lv_imul hx hb dX5_copy_26 ?_
        refine lv_iload hx hb dX5_copy_27 (lv_at hl 6 rfl) ?_
        refine lv_iadd hx hb dX5_copy_29 ?_
        obtain ⟨v6, ev6, hin, hf⟩ := ck_e hf
        refine x_iald hx hb hK hG 2 rfl ev6 hin dX5_copy_30 ?_
        obtain ⟨uv7, euv7, hin, hf⟩ := ck_e hf
        refine x_iast hx hb hK hG 4 rfl (w1 := WM κ a uv7) (by rw [euv7]; rfl) hin dX5_copy_31 (fun H locs hG => ?_)
        obtain ⟨y8, ey8, hf⟩ := bnd_e hf
        refine lv_iinc (v := y8) (lv' := [(6, .int y8), (0, .ref (a 2)), (1, .ref (a 3)), (2, .int x2), (3, .ref (a 4)), (4, .ref (a 5)), (5, .int x5)]) hx hb dX5_copy_32 hl (k := 6) rfl (by rw [ey8]; rfl) (by decide) rfl (fun ls hl => ?_)
        refine lv_goto (tgt := 3) hx hb dX5_copy_35 (by decide) ?_
        exact ih x2 x5 y8 uv7 hf H locs ls hG (lv_sub hl [1, 2, 3, 4, 5, 6, 0] rfl)
  unfold f_X5_copy_row_kept at hf
  refine lv_iconst (v := 0) hx hb dX5_copy_0 (by decide) ?_
  refine lv_istore (lv' := [(6, .int 0), (0, .ref (a 2)), (1, .ref (a 3)), (2, .int p2), (3, .ref (a 4)), (4, .ref (a 5)), (5, .int p5)]) hx hb dX5_copy_1 hl (by decide) rfl (fun ls hl => ?_)
  exact L3  FU p2 p5 0 uv hf H locs ls hG (lv_sub hl [1, 2, 3, 4, 5, 6, 0] rfl)
set_option maxRecDepth 100000 in
set_option maxHeartbeats 4000000 in
theorem c_X5_copy_kept_row (l : Launch) (D : va_G) (κ : Nat → ClassId) (a : Nat → Nat) (sz : Nat) (p2 : Int32) (p5 : Int32) (uv : MS)  (uv' : MS) (hf : f_X5_copy_kept_row p2 p5 uv = some (uv')) : Met l yX5_copy wsX5_copy ({ frames := 0, cells := 0, slots := 0, locals := 0 } : Room) (xPc D κ [.ref (a 4), .ref (a 5), .int p2, .ref (a 2), .ref (a 3), .int p5] (WM κ a uv) sz) (xQv D κ (WM κ a uv') (va_A (WM κ a uv) sz)) 0 0 (va_A (WM κ a uv) sz) := by
  refine x_ofW (cc := cX5_copy) (maxL := 7) (ret := none) (Qf := fun A => xQv D κ (WM κ a uv') A) (by decide) rfl (Nat.le_of_ble_eq_true rfl) ?_
  intro p e s m below meth c hx hb hr hlk hml hown hts hK A hA H locs hG ls hl
  have hown : s.vm.findClass RX5 = some m.cls := hown
  have hl : lv_has ls 7 [(0, .ref (a 4)), (1, .ref (a 5)), (2, .int p2), (3, .ref (a 2)), (4, .ref (a 3)), (5, .int p5)] := hl
  have L41 : ∀ (n : Nat), ∀ (x2 : Int32) (x5 : Int32) (x6 : Int32) (uv : MS), f_X5_copy_kept_row_41 n x2 x5 x6 uv = some (uv') → ∀ (H : Heap) (locs : List Loc) (ls : Array Slot), xG D A s.heap (WM κ a uv) H locs → lv_has ls 7 [(1, .ref (a 5)), (2, .int x2), (4, .ref (a 3)), (5, .int x5), (6, .int x6)] → W p l e ({ frames := 0, cells := 0, slots := 0, locals := 0 } : Room) s m (([.ref (a 4), .ref (a 5), .int p2, .ref (a 2), .ref (a 3), .int p5] : List Value).toArray) below meth c H locs 0 0 (MQ below (xQv D κ (WM κ a uv') A) (([.ref (a 4), .ref (a 5), .int p2, .ref (a 2), .ref (a 3), .int p5] : List Value).toArray) s 0 0 A) (F0 m 41 ls []) := by
    intro  n
    induction n with
    | zero => intro x2 x5 x6 uv hf; cases hf
    | succ n ih =>
      intro x2 x5 x6 uv hf H locs ls hG hl
      replace hf : f_X5_copy_kept_row_B41 (f_X5_copy_kept_row_41 n) x2 x5 x6 uv = some (uv') := hf
      unfold f_X5_copy_kept_row_B41 at hf
      refine lv_iload hx hb dX5_copy_41 (lv_at hl 4 rfl) ?_
      refine lv_sipush (v := 340) hx hb dX5_copy_43 (by decide) ?_
      refine lv_icmp_ge (tgt := 77) hx hb dX5_copy_46 (by decide) (fun c1 => ?_) (fun c1 => ?_)
      · replace hf := if_t c1 hf
        have z0 := Option.some.inj hf
        exact x_vret hx hb hr hlk hK hG (by rw [z0]) dX5_copy_77
      · replace hf := if_f c1 hf
        refine lv_aload hx hb dX5_copy_49 (lv_at hl 2 rfl) ?_
        refine lv_sipush (v := 340) hx hb dX5_copy_51 (by decide) ?_
        refine lv_iload hx hb dX5_copy_54 (lv_at hl 3 rfl) ?_
        refine lv_imul hx hb dX5_copy_56 ?_
        refine lv_iload hx hb dX5_copy_57 (lv_at hl 4 rfl) ?_
        refine lv_iadd hx hb dX5_copy_59 ?_
        refine lv_aload_n hx hb dX5_copy_60 rfl (lv_at hl 0 rfl) ?_
        refine lv_sipush (v := 340) hx hb dX5_copy_61 (by decide) ?_
        refine lv_iload_n hx hb dX5_copy_64 rfl (lv_at hl 1 rfl) ?_
        refine lv_imul hx hb dX5_copy_65 ?_
        refine lv_iload hx hb dX5_copy_66 (lv_at hl 4 rfl) ?_
        refine lv_iadd hx hb dX5_copy_68 ?_
        obtain ⟨v2, ev2, hin, hf⟩ := ck_e hf
        refine x_lald hx hb hK hG 5 rfl ev2 hin dX5_copy_69 ?_
        obtain ⟨uv3, euv3, hin, hf⟩ := ck_e hf
        refine x_last hx hb hK hG 3 rfl (w1 := WM κ a uv3) (by rw [euv3]; rfl) hin dX5_copy_70 (fun H locs hG => ?_)
        obtain ⟨y4, ey4, hf⟩ := bnd_e hf
        refine lv_iinc (v := y4) (lv' := [(6, .int y4), (1, .ref (a 5)), (2, .int x2), (4, .ref (a 3)), (5, .int x5)]) hx hb dX5_copy_71 hl (k := 4) rfl (by rw [ey4]; rfl) (by decide) rfl (fun ls hl => ?_)
        refine lv_goto (tgt := 41) hx hb dX5_copy_74 (by decide) ?_
        exact ih x2 x5 y4 uv3 hf H locs ls hG (lv_sub hl [1, 2, 3, 4, 0] rfl)
  have L3 : ∀ (n : Nat), ∀ (x2 : Int32) (x5 : Int32) (x6 : Int32) (uv : MS), f_X5_copy_kept_row_3 n x2 x5 x6 uv = some (uv') → ∀ (H : Heap) (locs : List Loc) (ls : Array Slot), xG D A s.heap (WM κ a uv) H locs → lv_has ls 7 [(0, .ref (a 4)), (1, .ref (a 5)), (2, .int x2), (3, .ref (a 2)), (4, .ref (a 3)), (5, .int x5), (6, .int x6)] → W p l e ({ frames := 0, cells := 0, slots := 0, locals := 0 } : Room) s m (([.ref (a 4), .ref (a 5), .int p2, .ref (a 2), .ref (a 3), .int p5] : List Value).toArray) below meth c H locs 0 0 (MQ below (xQv D κ (WM κ a uv') A) (([.ref (a 4), .ref (a 5), .int p2, .ref (a 2), .ref (a 3), .int p5] : List Value).toArray) s 0 0 A) (F0 m 3 ls []) := by
    intro  n
    induction n with
    | zero => intro x2 x5 x6 uv hf; cases hf
    | succ n ih =>
      intro x2 x5 x6 uv hf H locs ls hG hl
      replace hf : f_X5_copy_kept_row_B3 (f_X5_copy_kept_row_3 n) x2 x5 x6 uv = some (uv') := hf
      unfold f_X5_copy_kept_row_B3 at hf
      refine lv_iload hx hb dX5_copy_3 (lv_at hl 6 rfl) ?_
      refine lv_sipush (v := 2250) hx hb dX5_copy_5 (by decide) ?_
      refine lv_icmp_ge (tgt := 38) hx hb dX5_copy_8 (by decide) (fun c5 => ?_) (fun c5 => ?_)
      · replace hf := if_t c5 hf
        refine lv_iconst (v := 0) hx hb dX5_copy_38 (by decide) ?_
        refine lv_istore (lv' := [(6, .int 0), (0, .ref (a 4)), (1, .ref (a 5)), (2, .int x2), (3, .ref (a 2)), (4, .ref (a 3)), (5, .int x5)]) hx hb dX5_copy_39 hl (by decide) rfl (fun ls hl => ?_)
        exact L41  FU x2 x5 0 uv hf H locs ls hG (lv_sub hl [2, 3, 5, 6, 0] rfl)
      · replace hf := if_f c5 hf
        refine lv_aload_n hx hb dX5_copy_11 rfl (lv_at hl 3 rfl) ?_
        refine lv_sipush (v := 2250) hx hb dX5_copy_12 (by decide) ?_
        refine lv_iload hx hb dX5_copy_15 (lv_at hl 5 rfl) ?_
        refine lv_imul hx hb dX5_copy_17 ?_
        refine lv_iload hx hb dX5_copy_18 (lv_at hl 6 rfl) ?_
        refine lv_iadd hx hb dX5_copy_20 ?_
        refine lv_aload_n hx hb dX5_copy_21 rfl (lv_at hl 0 rfl) ?_
        refine lv_sipush (v := 2250) hx hb dX5_copy_22 (by decide) ?_
        refine lv_iload_n hx hb dX5_copy_25 rfl (lv_at hl 2 rfl) ?_
        refine lv_imul hx hb dX5_copy_26 ?_
        refine lv_iload hx hb dX5_copy_27 (lv_at hl 6 rfl) ?_
        refine lv_iadd hx hb dX5_copy_29 ?_
        obtain ⟨v6, ev6, hin, hf⟩ := ck_e hf
        refine x_iald hx hb hK hG 4 rfl ev6 hin dX5_copy_30 ?_
        obtain ⟨uv7, euv7, hin, hf⟩ := ck_e hf
        refine x_iast hx hb hK hG 2 rfl (w1 := WM κ a uv7) (by rw [euv7]; rfl) hin dX5_copy_31 (fun H locs hG => ?_)
        obtain ⟨y8, ey8, hf⟩ := bnd_e hf
        refine lv_iinc (v := y8) (lv' := [(6, .int y8), (0, .ref (a 4)), (1, .ref (a 5)), (2, .int x2), (3, .ref (a 2)), (4, .ref (a 3)), (5, .int x5)]) hx hb dX5_copy_32 hl (k := 6) rfl (by rw [ey8]; rfl) (by decide) rfl (fun ls hl => ?_)
        refine lv_goto (tgt := 3) hx hb dX5_copy_35 (by decide) ?_
        exact ih x2 x5 y8 uv7 hf H locs ls hG (lv_sub hl [1, 2, 3, 4, 5, 6, 0] rfl)
  unfold f_X5_copy_kept_row at hf
  refine lv_iconst (v := 0) hx hb dX5_copy_0 (by decide) ?_
  refine lv_istore (lv' := [(6, .int 0), (0, .ref (a 4)), (1, .ref (a 5)), (2, .int p2), (3, .ref (a 2)), (4, .ref (a 3)), (5, .int p5)]) hx hb dX5_copy_1 hl (by decide) rfl (fun ls hl => ?_)
  exact L3  FU p2 p5 0 uv hf H locs ls hG (lv_sub hl [1, 2, 3, 4, 5, 6, 0] rfl)
set_option maxRecDepth 100000 in
set_option maxHeartbeats 4000000 in
theorem c_X5_copy_row_aside (l : Launch) (D : va_G) (κ : Nat → ClassId) (a : Nat → Nat) (sz : Nat) (p2 : Int32) (p5 : Int32) (uv : MS)  (uv' : MS) (hf : f_X5_copy_row_aside p2 p5 uv = some (uv')) : Met l yX5_copy wsX5_copy ({ frames := 0, cells := 0, slots := 0, locals := 0 } : Room) (xPc D κ [.ref (a 2), .ref (a 3), .int p2, .ref (a 7), .ref (a 8), .int p5] (WM κ a uv) sz) (xQv D κ (WM κ a uv') (va_A (WM κ a uv) sz)) 0 0 (va_A (WM κ a uv) sz) := by
  refine x_ofW (cc := cX5_copy) (maxL := 7) (ret := none) (Qf := fun A => xQv D κ (WM κ a uv') A) (by decide) rfl (Nat.le_of_ble_eq_true rfl) ?_
  intro p e s m below meth c hx hb hr hlk hml hown hts hK A hA H locs hG ls hl
  have hown : s.vm.findClass RX5 = some m.cls := hown
  have hl : lv_has ls 7 [(0, .ref (a 2)), (1, .ref (a 3)), (2, .int p2), (3, .ref (a 7)), (4, .ref (a 8)), (5, .int p5)] := hl
  have L41 : ∀ (n : Nat), ∀ (x2 : Int32) (x5 : Int32) (x6 : Int32) (uv : MS), f_X5_copy_row_aside_41 n x2 x5 x6 uv = some (uv') → ∀ (H : Heap) (locs : List Loc) (ls : Array Slot), xG D A s.heap (WM κ a uv) H locs → lv_has ls 7 [(1, .ref (a 3)), (2, .int x2), (4, .ref (a 8)), (5, .int x5), (6, .int x6)] → W p l e ({ frames := 0, cells := 0, slots := 0, locals := 0 } : Room) s m (([.ref (a 2), .ref (a 3), .int p2, .ref (a 7), .ref (a 8), .int p5] : List Value).toArray) below meth c H locs 0 0 (MQ below (xQv D κ (WM κ a uv') A) (([.ref (a 2), .ref (a 3), .int p2, .ref (a 7), .ref (a 8), .int p5] : List Value).toArray) s 0 0 A) (F0 m 41 ls []) := by
    intro  n
    induction n with
    | zero => intro x2 x5 x6 uv hf; cases hf
    | succ n ih =>
      intro x2 x5 x6 uv hf H locs ls hG hl
      replace hf : f_X5_copy_row_aside_B41 (f_X5_copy_row_aside_41 n) x2 x5 x6 uv = some (uv') := hf
      unfold f_X5_copy_row_aside_B41 at hf
      refine lv_iload hx hb dX5_copy_41 (lv_at hl 4 rfl) ?_
      refine lv_sipush (v := 340) hx hb dX5_copy_43 (by decide) ?_
      refine lv_icmp_ge (tgt := 77) hx hb dX5_copy_46 (by decide) (fun c1 => ?_) (fun c1 => ?_)
      · replace hf := if_t c1 hf
        have z0 := Option.some.inj hf
        exact x_vret hx hb hr hlk hK hG (by rw [z0]) dX5_copy_77
      · replace hf := if_f c1 hf
        refine lv_aload hx hb dX5_copy_49 (lv_at hl 2 rfl) ?_
        refine lv_sipush (v := 340) hx hb dX5_copy_51 (by decide) ?_
        refine lv_iload hx hb dX5_copy_54 (lv_at hl 3 rfl) ?_
        refine lv_imul hx hb dX5_copy_56 ?_
        refine lv_iload hx hb dX5_copy_57 (lv_at hl 4 rfl) ?_
        refine lv_iadd hx hb dX5_copy_59 ?_
        refine lv_aload_n hx hb dX5_copy_60 rfl (lv_at hl 0 rfl) ?_
        refine lv_sipush (v := 340) hx hb dX5_copy_61 (by decide) ?_
        refine lv_iload_n hx hb dX5_copy_64 rfl (lv_at hl 1 rfl) ?_
        refine lv_imul hx hb dX5_copy_65 ?_
        refine lv_iload hx hb dX5_copy_66 (lv_at hl 4 rfl) ?_
        refine lv_iadd hx hb dX5_copy_68 ?_
        obtain ⟨v2, ev2, hin, hf⟩ := ck_e hf
        refine x_lald hx hb hK hG 3 rfl ev2 hin dX5_copy_69 ?_
        obtain ⟨uv3, euv3, hin, hf⟩ := ck_e hf
        refine x_last hx hb hK hG 8 rfl (w1 := WM κ a uv3) (by rw [euv3]; rfl) hin dX5_copy_70 (fun H locs hG => ?_)
        obtain ⟨y4, ey4, hf⟩ := bnd_e hf
        refine lv_iinc (v := y4) (lv' := [(6, .int y4), (1, .ref (a 3)), (2, .int x2), (4, .ref (a 8)), (5, .int x5)]) hx hb dX5_copy_71 hl (k := 4) rfl (by rw [ey4]; rfl) (by decide) rfl (fun ls hl => ?_)
        refine lv_goto (tgt := 41) hx hb dX5_copy_74 (by decide) ?_
        exact ih x2 x5 y4 uv3 hf H locs ls hG (lv_sub hl [1, 2, 3, 4, 0] rfl)
  have L3 : ∀ (n : Nat), ∀ (x2 : Int32) (x5 : Int32) (x6 : Int32) (uv : MS), f_X5_copy_row_aside_3 n x2 x5 x6 uv = some (uv') → ∀ (H : Heap) (locs : List Loc) (ls : Array Slot), xG D A s.heap (WM κ a uv) H locs → lv_has ls 7 [(0, .ref (a 2)), (1, .ref (a 3)), (2, .int x2), (3, .ref (a 7)), (4, .ref (a 8)), (5, .int x5), (6, .int x6)] → W p l e ({ frames := 0, cells := 0, slots := 0, locals := 0 } : Room) s m (([.ref (a 2), .ref (a 3), .int p2, .ref (a 7), .ref (a 8), .int p5] : List Value).toArray) below meth c H locs 0 0 (MQ below (xQv D κ (WM κ a uv') A) (([.ref (a 2), .ref (a 3), .int p2, .ref (a 7), .ref (a 8), .int p5] : List Value).toArray) s 0 0 A) (F0 m 3 ls []) := by
    intro  n
    induction n with
    | zero => intro x2 x5 x6 uv hf; cases hf
    | succ n ih =>
      intro x2 x5 x6 uv hf H locs ls hG hl
      replace hf : f_X5_copy_row_aside_B3 (f_X5_copy_row_aside_3 n) x2 x5 x6 uv = some (uv') := hf
      unfold f_X5_copy_row_aside_B3 at hf
      refine lv_iload hx hb dX5_copy_3 (lv_at hl 6 rfl) ?_
      refine lv_sipush (v := 2250) hx hb dX5_copy_5 (by decide) ?_
      refine lv_icmp_ge (tgt := 38) hx hb dX5_copy_8 (by decide) (fun c5 => ?_) (fun c5 => ?_)
      · replace hf := if_t c5 hf
        refine lv_iconst (v := 0) hx hb dX5_copy_38 (by decide) ?_
        refine lv_istore (lv' := [(6, .int 0), (0, .ref (a 2)), (1, .ref (a 3)), (2, .int x2), (3, .ref (a 7)), (4, .ref (a 8)), (5, .int x5)]) hx hb dX5_copy_39 hl (by decide) rfl (fun ls hl => ?_)
        exact L41  FU x2 x5 0 uv hf H locs ls hG (lv_sub hl [2, 3, 5, 6, 0] rfl)
      · replace hf := if_f c5 hf
        refine lv_aload_n hx hb dX5_copy_11 rfl (lv_at hl 3 rfl) ?_
        refine lv_sipush (v := 2250) hx hb dX5_copy_12 (by decide) ?_
        refine lv_iload hx hb dX5_copy_15 (lv_at hl 5 rfl) ?_
        refine lv_imul hx hb dX5_copy_17 ?_
        refine lv_iload hx hb dX5_copy_18 (lv_at hl 6 rfl) ?_
        refine lv_iadd hx hb dX5_copy_20 ?_
        refine lv_aload_n hx hb dX5_copy_21 rfl (lv_at hl 0 rfl) ?_
        refine lv_sipush (v := 2250) hx hb dX5_copy_22 (by decide) ?_
        refine lv_iload_n hx hb dX5_copy_25 rfl (lv_at hl 2 rfl) ?_
        refine lv_imul hx hb dX5_copy_26 ?_
        refine lv_iload hx hb dX5_copy_27 (lv_at hl 6 rfl) ?_
        refine lv_iadd hx hb dX5_copy_29 ?_
        obtain ⟨v6, ev6, hin, hf⟩ := ck_e hf
        refine x_iald hx hb hK hG 2 rfl ev6 hin dX5_copy_30 ?_
        obtain ⟨uv7, euv7, hin, hf⟩ := ck_e hf
        refine x_iast hx hb hK hG 7 rfl (w1 := WM κ a uv7) (by rw [euv7]; rfl) hin dX5_copy_31 (fun H locs hG => ?_)
        obtain ⟨y8, ey8, hf⟩ := bnd_e hf
        refine lv_iinc (v := y8) (lv' := [(6, .int y8), (0, .ref (a 2)), (1, .ref (a 3)), (2, .int x2), (3, .ref (a 7)), (4, .ref (a 8)), (5, .int x5)]) hx hb dX5_copy_32 hl (k := 6) rfl (by rw [ey8]; rfl) (by decide) rfl (fun ls hl => ?_)
        refine lv_goto (tgt := 3) hx hb dX5_copy_35 (by decide) ?_
        exact ih x2 x5 y8 uv7 hf H locs ls hG (lv_sub hl [1, 2, 3, 4, 5, 6, 0] rfl)
  unfold f_X5_copy_row_aside at hf
  refine lv_iconst (v := 0) hx hb dX5_copy_0 (by decide) ?_
  refine lv_istore (lv' := [(6, .int 0), (0, .ref (a 2)), (1, .ref (a 3)), (2, .int p2), (3, .ref (a 7)), (4, .ref (a 8)), (5, .int p5)]) hx hb dX5_copy_1 hl (by decide) rfl (fun ls hl => ?_)
  exact L3  FU p2 p5 0 uv hf H locs ls hG (lv_sub hl [1, 2, 3, 4, 5, 6, 0] rfl)
set_option maxRecDepth 100000 in
set_option maxHeartbeats 4000000 in
theorem c_X5_copy_aside_row (l : Launch) (D : va_G) (κ : Nat → ClassId) (a : Nat → Nat) (sz : Nat) (p2 : Int32) (p5 : Int32) (uv : MS)  (uv' : MS) (hf : f_X5_copy_aside_row p2 p5 uv = some (uv')) : Met l yX5_copy wsX5_copy ({ frames := 0, cells := 0, slots := 0, locals := 0 } : Room) (xPc D κ [.ref (a 7), .ref (a 8), .int p2, .ref (a 2), .ref (a 3), .int p5] (WM κ a uv) sz) (xQv D κ (WM κ a uv') (va_A (WM κ a uv) sz)) 0 0 (va_A (WM κ a uv) sz) := by
  refine x_ofW (cc := cX5_copy) (maxL := 7) (ret := none) (Qf := fun A => xQv D κ (WM κ a uv') A) (by decide) rfl (Nat.le_of_ble_eq_true rfl) ?_
  intro p e s m below meth c hx hb hr hlk hml hown hts hK A hA H locs hG ls hl
  have hown : s.vm.findClass RX5 = some m.cls := hown
  have hl : lv_has ls 7 [(0, .ref (a 7)), (1, .ref (a 8)), (2, .int p2), (3, .ref (a 2)), (4, .ref (a 3)), (5, .int p5)] := hl
  have L41 : ∀ (n : Nat), ∀ (x2 : Int32) (x5 : Int32) (x6 : Int32) (uv : MS), f_X5_copy_aside_row_41 n x2 x5 x6 uv = some (uv') → ∀ (H : Heap) (locs : List Loc) (ls : Array Slot), xG D A s.heap (WM κ a uv) H locs → lv_has ls 7 [(1, .ref (a 8)), (2, .int x2), (4, .ref (a 3)), (5, .int x5), (6, .int x6)] → W p l e ({ frames := 0, cells := 0, slots := 0, locals := 0 } : Room) s m (([.ref (a 7), .ref (a 8), .int p2, .ref (a 2), .ref (a 3), .int p5] : List Value).toArray) below meth c H locs 0 0 (MQ below (xQv D κ (WM κ a uv') A) (([.ref (a 7), .ref (a 8), .int p2, .ref (a 2), .ref (a 3), .int p5] : List Value).toArray) s 0 0 A) (F0 m 41 ls []) := by
    intro  n
    induction n with
    | zero => intro x2 x5 x6 uv hf; cases hf
    | succ n ih =>
      intro x2 x5 x6 uv hf H locs ls hG hl
      replace hf : f_X5_copy_aside_row_B41 (f_X5_copy_aside_row_41 n) x2 x5 x6 uv = some (uv') := hf
      unfold f_X5_copy_aside_row_B41 at hf
      refine lv_iload hx hb dX5_copy_41 (lv_at hl 4 rfl) ?_
      refine lv_sipush (v := 340) hx hb dX5_copy_43 (by decide) ?_
      refine lv_icmp_ge (tgt := 77) hx hb dX5_copy_46 (by decide) (fun c1 => ?_) (fun c1 => ?_)
      · replace hf := if_t c1 hf
        have z0 := Option.some.inj hf
        exact x_vret hx hb hr hlk hK hG (by rw [z0]) dX5_copy_77
      · replace hf := if_f c1 hf
        refine lv_aload hx hb dX5_copy_49 (lv_at hl 2 rfl) ?_
        refine lv_sipush (v := 340) hx hb dX5_copy_51 (by decide) ?_
        refine lv_iload hx hb dX5_copy_54 (lv_at hl 3 rfl) ?_
        refine lv_imul hx hb dX5_copy_56 ?_
        refine lv_iload hx hb dX5_copy_57 (lv_at hl 4 rfl) ?_
        refine lv_iadd hx hb dX5_copy_59 ?_
        refine lv_aload_n hx hb dX5_copy_60 rfl (lv_at hl 0 rfl) ?_
        refine lv_sipush (v := 340) hx hb dX5_copy_61 (by decide) ?_
        refine lv_iload_n hx hb dX5_copy_64 rfl (lv_at hl 1 rfl) ?_
        refine lv_imul hx hb dX5_copy_65 ?_
        refine lv_iload hx hb dX5_copy_66 (lv_at hl 4 rfl) ?_
        refine lv_iadd hx hb dX5_copy_68 ?_
        obtain ⟨v2, ev2, hin, hf⟩ := ck_e hf
        refine x_lald hx hb hK hG 8 rfl ev2 hin dX5_copy_69 ?_
        obtain ⟨uv3, euv3, hin, hf⟩ := ck_e hf
        refine x_last hx hb hK hG 3 rfl (w1 := WM κ a uv3) (by rw [euv3]; rfl) hin dX5_copy_70 (fun H locs hG => ?_)
        obtain ⟨y4, ey4, hf⟩ := bnd_e hf
        refine lv_iinc (v := y4) (lv' := [(6, .int y4), (1, .ref (a 8)), (2, .int x2), (4, .ref (a 3)), (5, .int x5)]) hx hb dX5_copy_71 hl (k := 4) rfl (by rw [ey4]; rfl) (by decide) rfl (fun ls hl => ?_)
        refine lv_goto (tgt := 41) hx hb dX5_copy_74 (by decide) ?_
        exact ih x2 x5 y4 uv3 hf H locs ls hG (lv_sub hl [1, 2, 3, 4, 0] rfl)
  have L3 : ∀ (n : Nat), ∀ (x2 : Int32) (x5 : Int32) (x6 : Int32) (uv : MS), f_X5_copy_aside_row_3 n x2 x5 x6 uv = some (uv') → ∀ (H : Heap) (locs : List Loc) (ls : Array Slot), xG D A s.heap (WM κ a uv) H locs → lv_has ls 7 [(0, .ref (a 7)), (1, .ref (a 8)), (2, .int x2), (3, .ref (a 2)), (4, .ref (a 3)), (5, .int x5), (6, .int x6)] → W p l e ({ frames := 0, cells := 0, slots := 0, locals := 0 } : Room) s m (([.ref (a 7), .ref (a 8), .int p2, .ref (a 2), .ref (a 3), .int p5] : List Value).toArray) below meth c H locs 0 0 (MQ below (xQv D κ (WM κ a uv') A) (([.ref (a 7), .ref (a 8), .int p2, .ref (a 2), .ref (a 3), .int p5] : List Value).toArray) s 0 0 A) (F0 m 3 ls []) := by
    intro  n
    induction n with
    | zero => intro x2 x5 x6 uv hf; cases hf
    | succ n ih =>
      intro x2 x5 x6 uv hf H locs ls hG hl
      replace hf : f_X5_copy_aside_row_B3 (f_X5_copy_aside_row_3 n) x2 x5 x6 uv = some (uv') := hf
      unfold f_X5_copy_aside_row_B3 at hf
      refine lv_iload hx hb dX5_copy_3 (lv_at hl 6 rfl) ?_
      refine lv_sipush (v := 2250) hx hb dX5_copy_5 (by decide) ?_
      refine lv_icmp_ge (tgt := 38) hx hb dX5_copy_8 (by decide) (fun c5 => ?_) (fun c5 => ?_)
      · replace hf := if_t c5 hf
        refine lv_iconst (v := 0) hx hb dX5_copy_38 (by decide) ?_
        refine lv_istore (lv' := [(6, .int 0), (0, .ref (a 7)), (1, .ref (a 8)), (2, .int x2), (3, .ref (a 2)), (4, .ref (a 3)), (5, .int x5)]) hx hb dX5_copy_39 hl (by decide) rfl (fun ls hl => ?_)
        exact L41  FU x2 x5 0 uv hf H locs ls hG (lv_sub hl [2, 3, 5, 6, 0] rfl)
      · replace hf := if_f c5 hf
        refine lv_aload_n hx hb dX5_copy_11 rfl (lv_at hl 3 rfl) ?_
        refine lv_sipush (v := 2250) hx hb dX5_copy_12 (by decide) ?_
        refine lv_iload hx hb dX5_copy_15 (lv_at hl 5 rfl) ?_
        refine lv_imul hx hb dX5_copy_17 ?_
        refine lv_iload hx hb dX5_copy_18 (lv_at hl 6 rfl) ?_
        refine lv_iadd hx hb dX5_copy_20 ?_
        refine lv_aload_n hx hb dX5_copy_21 rfl (lv_at hl 0 rfl) ?_
        refine lv_sipush (v := 2250) hx hb dX5_copy_22 (by decide) ?_
        refine lv_iload_n hx hb dX5_copy_25 rfl (lv_at hl 2 rfl) ?_
        refine lv_imul hx hb dX5_copy_26 ?_
        refine lv_iload hx hb dX5_copy_27 (lv_at hl 6 rfl) ?_
        refine lv_iadd hx hb dX5_copy_29 ?_
        obtain ⟨v6, ev6, hin, hf⟩ := ck_e hf
        refine x_iald hx hb hK hG 7 rfl ev6 hin dX5_copy_30 ?_
        obtain ⟨uv7, euv7, hin, hf⟩ := ck_e hf
        refine x_iast hx hb hK hG 2 rfl (w1 := WM κ a uv7) (by rw [euv7]; rfl) hin dX5_copy_31 (fun H locs hG => ?_)
        obtain ⟨y8, ey8, hf⟩ := bnd_e hf
        refine lv_iinc (v := y8) (lv' := [(6, .int y8), (0, .ref (a 7)), (1, .ref (a 8)), (2, .int x2), (3, .ref (a 2)), (4, .ref (a 3)), (5, .int x5)]) hx hb dX5_copy_32 hl (k := 6) rfl (by rw [ey8]; rfl) (by decide) rfl (fun ls hl => ?_)
        refine lv_goto (tgt := 3) hx hb dX5_copy_35 (by decide) ?_
        exact ih x2 x5 y8 uv7 hf H locs ls hG (lv_sub hl [1, 2, 3, 4, 5, 6, 0] rfl)
  unfold f_X5_copy_aside_row at hf
  refine lv_iconst (v := 0) hx hb dX5_copy_0 (by decide) ?_
  refine lv_istore (lv' := [(6, .int 0), (0, .ref (a 7)), (1, .ref (a 8)), (2, .int p2), (3, .ref (a 2)), (4, .ref (a 3)), (5, .int p5)]) hx hb dX5_copy_1 hl (by decide) rfl (fun ls hl => ?_)
  exact L3  FU p2 p5 0 uv hf H locs ls hG (lv_sub hl [1, 2, 3, 4, 5, 6, 0] rfl)
set_option maxRecDepth 100000 in
set_option maxHeartbeats 4000000 in
theorem c_X5_thrown (l : Launch) (D : va_G) (κ : Nat → ClassId) (a : Nat → Nat) (sz : Nat)  (uv : MS) (r' : Int32)  (hf : f_X5_thrown uv = some (r')) : Met l yX5_thrown wsX5_thrown ({ frames := 0, cells := 0, slots := 0, locals := 0 } : Room) (xPc D κ [.ref (a 0)] (WM κ a uv) sz) (xQi D κ r' (WM κ a uv) (va_A (WM κ a uv) sz)) 0 0 (va_A (WM κ a uv) sz) := by
  refine x_ofW (cc := cX5_thrown) (maxL := 1) (ret := (some .int)) (Qf := fun A => xQi D κ r' (WM κ a uv) A) (by decide) rfl (Nat.le_of_ble_eq_true rfl) ?_
  intro p e s m below meth c hx hb hr hlk hml hown hts hK A hA H locs hG ls hl
  have hown : s.vm.findClass RX5 = some m.cls := hown
  have hl : lv_has ls 1 [(0, .ref (a 0))] := hl
  have iX5 : ∀ w ∈ u_ws RX5 TX5 27, w ∈ wsX5_thrown := fun _ h => List.mem_cons_of_mem _ (List.mem_append_right _ h)
  have k63 := hts (.fieldLink RX5 63 "SpineDesksModel" "thrown" "I") (List.mem_of_getElem? (i := 1) rfl)
  unfold f_X5_thrown at hf
  refine lv_aload_n hx hb dX5_thrown_0 rfl (lv_at hl 0 rfl) ?_
  refine x_get (C := RX5) (T := TX5) (N := 27) (ci := 5) hx hb hts iX5 hown hK hG 0 rfl rfl 0 (by decide) k63 (v := .int (uv.thrown)) rfl dX5_thrown_1 ?_
  have z0 := Option.some.inj hf
  exact x_iret hx hb hr hlk hK hG z0 rfl dX5_thrown_4
set_option maxRecDepth 100000 in
set_option maxHeartbeats 4000000 in
theorem c_X5_in (l : Launch) (D : va_G) (κ : Nat → ClassId) (a : Nat → Nat) (sz : Nat) (p0 : Int64) (p2 : Int64) (p4 : Int64)  (r' : Int32)  (hf : f_X5_in p0 p2 p4 = some (r')) : Met l yX5_in wsX5_in ({ frames := 0, cells := 0, slots := 0, locals := 0 } : Room) (xPc D κ [.long p0, .long p2, .long p4] (([] : va_W)) sz) (xQi D κ r' (([] : va_W)) (va_A (([] : va_W)) sz)) 0 0 (va_A (([] : va_W)) sz) := by
  refine x_ofW (cc := cX5_in) (maxL := 6) (ret := (some .boolean)) (Qf := fun A => xQi D κ r' (([] : va_W)) A) (by decide) rfl (Nat.le_of_ble_eq_true rfl) ?_
  intro p e s m below meth c hx hb hr hlk hml hown hts hK A hA H locs hG ls hl
  have hown : s.vm.findClass RX5 = some m.cls := hown
  have hl : lv_has ls 6 [(0, .long p0), (2, .long p2), (4, .long p4)] := hl
  unfold f_X5_in at hf
  refine lv_lload_n hx hb dX5_in_0 rfl (lv_at hl 0 rfl) ?_
  refine lv_lload_n hx hb dX5_in_1 rfl (lv_at hl 1 rfl) ?_
  refine W.lcmp hx hb dX5_in_2 ?_
  refine lv_if_lt (tgt := 17) hx hb dX5_in_3 (by decide) (fun c1 => ?_) (fun c1 => ?_)
  · rw [lg_cmp_lt] at c1
    replace hf := if_t c1 hf
    refine lv_iconst (v := 0) hx hb dX5_in_17 (by decide) ?_
    have z0 := Option.some.inj hf
    exact x_zret hx hb hr hlk hK hG (by decide) z0 rfl dX5_in_18
  · rw [lg_cmp_lt] at c1
    replace hf := if_f c1 hf
    refine lv_lload_n hx hb dX5_in_6 rfl (lv_at hl 0 rfl) ?_
    refine lv_lload hx hb dX5_in_7 (lv_at hl 2 rfl) ?_
    refine W.lcmp hx hb dX5_in_9 ?_
    refine lv_if_gt (tgt := 17) hx hb dX5_in_10 (by decide) (fun c2 => ?_) (fun c2 => ?_)
    · rw [lg_cmp_gt] at c2
      replace hf := if_t c2 hf
      refine lv_iconst (v := 0) hx hb dX5_in_17 (by decide) ?_
      have z0 := Option.some.inj hf
      exact x_zret hx hb hr hlk hK hG (by decide) z0 rfl dX5_in_18
    · rw [lg_cmp_gt] at c2
      replace hf := if_f c2 hf
      refine lv_iconst (v := 1) hx hb dX5_in_13 (by decide) ?_
      refine lv_goto (tgt := 18) hx hb dX5_in_14 (by decide) ?_
      have z0 := Option.some.inj hf
      exact x_zret hx hb hr hlk hK hG (by decide) z0 rfl dX5_in_18
set_option maxRecDepth 100000 in
set_option maxHeartbeats 4000000 in
theorem c_X5_refuse (l : Launch) (D : va_G) (κ : Nat → ClassId) (a : Nat → Nat) (sz : Nat) (p1 : Int32) (uv : MS) (r' : Int32) (uv' : MS) (hf : f_X5_refuse p1 uv = some (r', uv')) : Met l yX5_refuse wsX5_refuse ({ frames := 0, cells := 0, slots := 0, locals := 0 } : Room) (xPc D κ [.ref (a 0), .int p1] (WM κ a uv) sz) (xQi D κ r' (WM κ a uv') (va_A (WM κ a uv) sz)) 0 0 (va_A (WM κ a uv) sz) := by
  refine x_ofW (cc := cX5_refuse) (maxL := 2) (ret := (some .int)) (Qf := fun A => xQi D κ r' (WM κ a uv') A) (by decide) rfl (Nat.le_of_ble_eq_true rfl) ?_
  intro p e s m below meth c hx hb hr hlk hml hown hts hK A hA H locs hG ls hl
  have hown : s.vm.findClass RX5 = some m.cls := hown
  have hl : lv_has ls 2 [(0, .ref (a 0)), (1, .int p1)] := hl
  have iX5 : ∀ w ∈ u_ws RX5 TX5 27, w ∈ wsX5_refuse := fun _ h => List.mem_cons_of_mem _ (List.mem_append_right _ h)
  have k7 := hts (.fieldLink RX5 7 "SpineDesksModel" "refusals" "[I") (List.mem_of_getElem? (i := 1) rfl)
  unfold f_X5_refuse at hf
  refine lv_aload_n hx hb dX5_refuse_0 rfl (lv_at hl 0 rfl) ?_
  refine x_get (C := RX5) (T := TX5) (N := 27) (ci := 5) hx hb hts iX5 hown hK hG 0 rfl rfl 1 (by decide) k7 (v := .ref (a 1)) rfl dX5_refuse_1 ?_
  refine lv_iload_n hx hb dX5_refuse_4 rfl (lv_at hl 1 rfl) ?_
  refine lv_ineg hx hb dX5_refuse_5 ?_
  refine lv_dup2_11 hx hb dX5_refuse_6 rfl rfl ?_
  obtain ⟨v1, ev1, hin, hf⟩ := ck_e hf
  refine x_iald hx hb hK hG 1 rfl ev1 hin dX5_refuse_7 ?_
  refine lv_iconst (v := 1) hx hb dX5_refuse_8 (by decide) ?_
  refine lv_iadd hx hb dX5_refuse_9 ?_
  obtain ⟨uv2, euv2, hin, hf⟩ := ck_e hf
  refine x_iast hx hb hK hG 1 rfl (w1 := WM κ a uv2) (by rw [euv2]; rfl) hin dX5_refuse_10 (fun H locs hG => ?_)
  refine lv_iload_n hx hb dX5_refuse_11 rfl (lv_at hl 1 rfl) ?_
  have hz := Option.some.inj hf
  have z0 := (Prod.mk.inj hz).1
  replace hz := (Prod.mk.inj hz).2
  have z1 := hz
  exact x_iret hx hb hr hlk hK hG z0 (by rw [z1]) dX5_refuse_12
set_option maxRecDepth 100000 in
set_option maxHeartbeats 4000000 in
theorem c_X5_think (l : Launch) (D : va_G) (κ : Nat → ClassId) (a : Nat → Nat) (sz : Nat)  (uv : MS)  (uv' : MS) (hf : f_X5_think uv = some (uv')) : Met l yX5_think wsX5_think ({ frames := 1, cells := 0, slots := 0, locals := 26 } : Room) (xPc D κ [.ref (a 0)] (WM κ a uv) sz) (xQv D κ (WM κ a uv') (va_A (WM κ a uv) sz)) 0 0 (va_A (WM κ a uv) sz) := by
  refine x_ofW (cc := cX5_think) (maxL := 1) (ret := none) (Qf := fun A => xQv D κ (WM κ a uv') A) (by decide) rfl (Nat.le_of_ble_eq_true rfl) ?_
  intro p e s m below meth c hx hb hr hlk hml hown hts hK A hA H locs hG ls hl
  have hown : s.vm.findClass RX5 = some m.cls := hown
  have hl : lv_has ls 1 [(0, .ref (a 0))] := hl
  have iX5 : ∀ w ∈ u_ws RX5 TX5 27, w ∈ wsX5_think := fun _ h => List.mem_cons_of_mem _ (List.mem_append_right _ h)
  have k13 := hts (.fieldLink RX5 13 "SpineDesksModel" "row" "[I") (List.mem_of_getElem? (i := 1) rfl)
  have k16 := hts (.fieldLink RX5 16 "SpineDesksModel" "keys" "[J") (List.mem_of_getElem? (i := 2) rfl)
  have k30 := hts (.fieldLink RX5 30 "SpineDesksModel" "aside" "[I") (List.mem_of_getElem? (i := 3) rfl)
  have k33 := hts (.fieldLink RX5 33 "SpineDesksModel" "asideKeys" "[J") (List.mem_of_getElem? (i := 4) rfl)
  have k71 := hts (.fieldLink RX5 71 "SpineDesksModel" "steps" "I") (List.mem_of_getElem? (i := 5) rfl)
  have k74 := hts (.fieldLink RX5 74 "SpineDesksModel" "stepsAside" "I") (List.mem_of_getElem? (i := 6) rfl)
  unfold f_X5_think at hf
  refine lv_aload_n hx hb dX5_think_0 rfl (lv_at hl 0 rfl) ?_
  refine x_get (C := RX5) (T := TX5) (N := 27) (ci := 5) hx hb hts iX5 hown hK hG 0 rfl rfl 2 (by decide) k13 (v := .ref (a 2)) rfl dX5_think_1 ?_
  refine lv_aload_n hx hb dX5_think_4 rfl (lv_at hl 0 rfl) ?_
  refine x_get (C := RX5) (T := TX5) (N := 27) (ci := 5) hx hb hts iX5 hown hK hG 0 rfl rfl 3 (by decide) k16 (v := .ref (a 3)) rfl dX5_think_5 ?_
  refine lv_iconst (v := 0) hx hb dX5_think_8 (by decide) ?_
  refine lv_aload_n hx hb dX5_think_9 rfl (lv_at hl 0 rfl) ?_
  refine x_get (C := RX5) (T := TX5) (N := 27) (ci := 5) hx hb hts iX5 hown hK hG 0 rfl rfl 7 (by decide) k30 (v := .ref (a 7)) rfl dX5_think_10 ?_
  refine lv_aload_n hx hb dX5_think_13 rfl (lv_at hl 0 rfl) ?_
  refine x_get (C := RX5) (T := TX5) (N := 27) (ci := 5) hx hb hts iX5 hown hK hG 0 rfl rfl 8 (by decide) k33 (v := .ref (a 8)) rfl dX5_think_14 ?_
  refine lv_iconst (v := 0) hx hb dX5_think_17 (by decide) ?_
  obtain ⟨uv1, q2, hf⟩ := cl1_e hf
  refine x_callSv (pre := ([] : va_W)) (wc := WM κ a uv) (wc1 := WM κ a uv1) (post := ([] : va_W)) (As := [.ref (a 2), .ref (a 3), .int 0, .ref (a 7), .ref (a 8), .int 0]) (rest := []) (w1 := WM κ a uv1) ⟨hx, hb, hml, hown, hts⟩ hK hG hA (by simp only [List.append_assoc, List.nil_append, List.append_nil]) (by simp only [List.append_assoc, List.nil_append, List.append_nil]) (c_X5_copy_row_aside l D κ a H.size 0 0 uv uv1 q2) (va_cwS 6 hts gX5_think_X5_copy rfl rfl rfl (by decide +kernel) ⟨Nat.le_of_ble_eq_true rfl, Nat.le_of_ble_eq_true rfl⟩) rfl hl.1 rfl (Nat.le_of_ble_eq_true rfl) dX5_think_18 ⟨Nat.zero_le _, Nat.zero_le _⟩ (fun H locs hG => ?_)
  refine lv_aload_n hx hb dX5_think_21 rfl (lv_at hl 0 rfl) ?_
  refine lv_aload_n hx hb dX5_think_22 rfl (lv_at hl 0 rfl) ?_
  refine x_get (C := RX5) (T := TX5) (N := 27) (ci := 5) hx hb hts iX5 hown hK hG 0 rfl rfl 9 (by decide) k71 (v := .int (uv1.steps)) rfl dX5_think_23 ?_
  obtain ⟨uv3, euv3, hf⟩ := bnd_e hf
  refine x_put (C := RX5) (T := TX5) (N := 27) (ci := 5) hx hb hts iX5 tyX5 tyX5_ok nmX5 hown hK hG 0 rfl rfl 10 (by decide) k74 rfl (ty := .int) (v := .int (uv1.steps)) rfl rfl rfl (Nat.le_of_ble_eq_true rfl) (w1 := WM κ a uv3) (by rw [euv3]; rfl) dX5_think_26 (fun H locs hG => ?_)
  have z0 := Option.some.inj hf
  exact x_vret hx hb hr hlk hK hG (by rw [z0]) dX5_think_29
set_option maxRecDepth 100000 in
set_option maxHeartbeats 4000000 in
theorem c_X5_endThought (l : Launch) (D : va_G) (κ : Nat → ClassId) (a : Nat → Nat) (sz : Nat)  (uv : MS)  (uv' : MS) (hf : f_X5_endThought uv = some (uv')) : Met l yX5_endThought wsX5_endThought ({ frames := 1, cells := 0, slots := 0, locals := 26 } : Room) (xPc D κ [.ref (a 0)] (WM κ a uv) sz) (xQv D κ (WM κ a uv') (va_A (WM κ a uv) sz)) 0 0 (va_A (WM κ a uv) sz) := by
  refine x_ofW (cc := cX5_endThought) (maxL := 1) (ret := none) (Qf := fun A => xQv D κ (WM κ a uv') A) (by decide) rfl (Nat.le_of_ble_eq_true rfl) ?_
  intro p e s m below meth c hx hb hr hlk hml hown hts hK A hA H locs hG ls hl
  have hown : s.vm.findClass RX5 = some m.cls := hown
  have hl : lv_has ls 1 [(0, .ref (a 0))] := hl
  have iX5 : ∀ w ∈ u_ws RX5 TX5 27, w ∈ wsX5_endThought := fun _ h => List.mem_cons_of_mem _ (List.mem_append_right _ h)
  have k13 := hts (.fieldLink RX5 13 "SpineDesksModel" "row" "[I") (List.mem_of_getElem? (i := 3) rfl)
  have k16 := hts (.fieldLink RX5 16 "SpineDesksModel" "keys" "[J") (List.mem_of_getElem? (i := 4) rfl)
  have k30 := hts (.fieldLink RX5 30 "SpineDesksModel" "aside" "[I") (List.mem_of_getElem? (i := 1) rfl)
  have k33 := hts (.fieldLink RX5 33 "SpineDesksModel" "asideKeys" "[J") (List.mem_of_getElem? (i := 2) rfl)
  have k71 := hts (.fieldLink RX5 71 "SpineDesksModel" "steps" "I") (List.mem_of_getElem? (i := 6) rfl)
  have k74 := hts (.fieldLink RX5 74 "SpineDesksModel" "stepsAside" "I") (List.mem_of_getElem? (i := 5) rfl)
  unfold f_X5_endThought at hf
  refine lv_aload_n hx hb dX5_endThought_0 rfl (lv_at hl 0 rfl) ?_
  refine x_get (C := RX5) (T := TX5) (N := 27) (ci := 5) hx hb hts iX5 hown hK hG 0 rfl rfl 7 (by decide) k30 (v := .ref (a 7)) rfl dX5_endThought_1 ?_
  refine lv_aload_n hx hb dX5_endThought_4 rfl (lv_at hl 0 rfl) ?_
  refine x_get (C := RX5) (T := TX5) (N := 27) (ci := 5) hx hb hts iX5 hown hK hG 0 rfl rfl 8 (by decide) k33 (v := .ref (a 8)) rfl dX5_endThought_5 ?_
  refine lv_iconst (v := 0) hx hb dX5_endThought_8 (by decide) ?_
  refine lv_aload_n hx hb dX5_endThought_9 rfl (lv_at hl 0 rfl) ?_
  refine x_get (C := RX5) (T := TX5) (N := 27) (ci := 5) hx hb hts iX5 hown hK hG 0 rfl rfl 2 (by decide) k13 (v := .ref (a 2)) rfl dX5_endThought_10 ?_
  refine lv_aload_n hx hb dX5_endThought_13 rfl (lv_at hl 0 rfl) ?_
  refine x_get (C := RX5) (T := TX5) (N := 27) (ci := 5) hx hb hts iX5 hown hK hG 0 rfl rfl 3 (by decide) k16 (v := .ref (a 3)) rfl dX5_endThought_14 ?_
  refine lv_iconst (v := 0) hx hb dX5_endThought_17 (by decide) ?_
  obtain ⟨uv1, q2, hf⟩ := cl1_e hf
  refine x_callSv (pre := ([] : va_W)) (wc := WM κ a uv) (wc1 := WM κ a uv1) (post := ([] : va_W)) (As := [.ref (a 7), .ref (a 8), .int 0, .ref (a 2), .ref (a 3), .int 0]) (rest := []) (w1 := WM κ a uv1) ⟨hx, hb, hml, hown, hts⟩ hK hG hA (by simp only [List.append_assoc, List.nil_append, List.append_nil]) (by simp only [List.append_assoc, List.nil_append, List.append_nil]) (c_X5_copy_aside_row l D κ a H.size 0 0 uv uv1 q2) (va_cwS 6 hts gX5_endThought_X5_copy rfl rfl rfl (by decide +kernel) ⟨Nat.le_of_ble_eq_true rfl, Nat.le_of_ble_eq_true rfl⟩) rfl hl.1 rfl (Nat.le_of_ble_eq_true rfl) dX5_endThought_18 ⟨Nat.zero_le _, Nat.zero_le _⟩ (fun H locs hG => ?_)
  refine lv_aload_n hx hb dX5_endThought_21 rfl (lv_at hl 0 rfl) ?_
  refine lv_aload_n hx hb dX5_endThought_22 rfl (lv_at hl 0 rfl) ?_
  refine x_get (C := RX5) (T := TX5) (N := 27) (ci := 5) hx hb hts iX5 hown hK hG 0 rfl rfl 10 (by decide) k74 (v := .int (uv1.stepsAside)) rfl dX5_endThought_23 ?_
  obtain ⟨uv3, euv3, hf⟩ := bnd_e hf
  refine x_put (C := RX5) (T := TX5) (N := 27) (ci := 5) hx hb hts iX5 tyX5 tyX5_ok nmX5 hown hK hG 0 rfl rfl 9 (by decide) k71 rfl (ty := .int) (v := .int (uv1.stepsAside)) rfl rfl rfl (Nat.le_of_ble_eq_true rfl) (w1 := WM κ a uv3) (by rw [euv3]; rfl) dX5_endThought_26 (fun H locs hG => ?_)
  have z0 := Option.some.inj hf
  exact x_vret hx hb hr hlk hK hG (by rw [z0]) dX5_endThought_29
set_option maxRecDepth 100000 in
set_option maxHeartbeats 4000000 in
theorem c_X5_keep (l : Launch) (D : va_G) (κ : Nat → ClassId) (a : Nat → Nat) (sz : Nat) (p1 : Int32) (uv : MS) (r' : Int32) (uv' : MS) (hf : f_X5_keep p1 uv = some (r', uv')) : Met l yX5_keep wsX5_keep ({ frames := 1, cells := 0, slots := 0, locals := 26 } : Room) (xPc D κ [.ref (a 0), .int p1] (WM κ a uv) sz) (xQi D κ r' (WM κ a uv') (va_A (WM κ a uv) sz)) 0 0 (va_A (WM κ a uv) sz) := by
  refine x_ofW (cc := cX5_keep) (maxL := 2) (ret := (some .boolean)) (Qf := fun A => xQi D κ r' (WM κ a uv') A) (by decide) rfl (Nat.le_of_ble_eq_true rfl) ?_
  intro p e s m below meth c hx hb hr hlk hml hown hts hK A hA H locs hG ls hl
  have hown : s.vm.findClass RX5 = some m.cls := hown
  have hl : lv_has ls 2 [(0, .ref (a 0)), (1, .int p1)] := hl
  have iX5 : ∀ w ∈ u_ws RX5 TX5 27, w ∈ wsX5_keep := fun _ h => List.mem_cons_of_mem _ (List.mem_append_right _ h)
  have k13 := hts (.fieldLink RX5 13 "SpineDesksModel" "row" "[I") (List.mem_of_getElem? (i := 2) rfl)
  have k16 := hts (.fieldLink RX5 16 "SpineDesksModel" "keys" "[J") (List.mem_of_getElem? (i := 3) rfl)
  have k20 := hts (.fieldLink RX5 20 "SpineDesksModel" "kept" "[I") (List.mem_of_getElem? (i := 4) rfl)
  have k23 := hts (.fieldLink RX5 23 "SpineDesksModel" "keptKeys" "[J") (List.mem_of_getElem? (i := 5) rfl)
  have k26 := hts (.fieldLink RX5 26 "SpineDesksModel" "isKept" "[Z") (List.mem_of_getElem? (i := 6) rfl)
  have k63 := hts (.fieldLink RX5 63 "SpineDesksModel" "thrown" "I") (List.mem_of_getElem? (i := 1) rfl)
  unfold f_X5_keep at hf
  refine lv_aload_n hx hb dX5_keep_0 rfl (lv_at hl 0 rfl) ?_
  refine lv_iconst (v := 0) hx hb dX5_keep_1 (by decide) ?_
  obtain ⟨uv1, euv1, hf⟩ := bnd_e hf
  refine x_put (C := RX5) (T := TX5) (N := 27) (ci := 5) hx hb hts iX5 tyX5 tyX5_ok nmX5 hown hK hG 0 rfl rfl 0 (by decide) k63 rfl (ty := .int) (v := .int 0) rfl rfl rfl (Nat.le_of_ble_eq_true rfl) (w1 := WM κ a uv1) (by rw [euv1]; rfl) dX5_keep_2 (fun H locs hG => ?_)
  refine lv_iload_n hx hb dX5_keep_5 rfl (lv_at hl 1 rfl) ?_
  refine lv_i2l hx hb dX5_keep_6 rfl ?_
  refine lv_lconst (v := 0) hx hb dX5_keep_7 (by decide) ?_
  refine lv_lconst (v := 1) hx hb dX5_keep_8 (by decide) ?_
  obtain ⟨r2, q3, hf⟩ := cl1_e hf
  refine x_callSi (pre := ([] : va_W)) (wc := ([] : va_W)) (wc1 := ([] : va_W)) (post := WM κ a uv1) (As := [.long (p1.toInt64), .long 0, .long 1]) (rest := []) (w1 := WM κ a uv1) ⟨hx, hb, hml, hown, hts⟩ hK hG hA (by simp only [List.append_assoc, List.nil_append, List.append_nil]) (by simp only [List.append_assoc, List.nil_append, List.append_nil]) (c_X5_in l D κ a H.size (p1.toInt64) 0 1 r2 q3) (va_cwS 3 hts gX5_keep_X5_in rfl rfl rfl (by decide +kernel) ⟨Nat.le_of_ble_eq_true rfl, Nat.le_of_ble_eq_true rfl⟩) rfl hl.1 rfl (Nat.le_of_ble_eq_true rfl) dX5_keep_9 ⟨Nat.zero_le _, Nat.zero_le _⟩ (fun H locs hG => ?_)
  refine lv_if_ne (tgt := 17) hx hb dX5_keep_12 (by decide) (fun c4 => ?_) (fun c4 => ?_)
  · replace hf := if_f c4 hf
    refine lv_aload_n hx hb dX5_keep_17 rfl (lv_at hl 0 rfl) ?_
    refine x_get (C := RX5) (T := TX5) (N := 27) (ci := 5) hx hb hts iX5 hown hK hG 0 rfl rfl 2 (by decide) k13 (v := .ref (a 2)) rfl dX5_keep_18 ?_
    refine lv_aload_n hx hb dX5_keep_21 rfl (lv_at hl 0 rfl) ?_
    refine x_get (C := RX5) (T := TX5) (N := 27) (ci := 5) hx hb hts iX5 hown hK hG 0 rfl rfl 3 (by decide) k16 (v := .ref (a 3)) rfl dX5_keep_22 ?_
    refine lv_iconst (v := 0) hx hb dX5_keep_25 (by decide) ?_
    refine lv_aload_n hx hb dX5_keep_26 rfl (lv_at hl 0 rfl) ?_
    refine x_get (C := RX5) (T := TX5) (N := 27) (ci := 5) hx hb hts iX5 hown hK hG 0 rfl rfl 4 (by decide) k20 (v := .ref (a 4)) rfl dX5_keep_27 ?_
    refine lv_aload_n hx hb dX5_keep_30 rfl (lv_at hl 0 rfl) ?_
    refine x_get (C := RX5) (T := TX5) (N := 27) (ci := 5) hx hb hts iX5 hown hK hG 0 rfl rfl 5 (by decide) k23 (v := .ref (a 5)) rfl dX5_keep_31 ?_
    refine lv_iload_n hx hb dX5_keep_34 rfl (lv_at hl 1 rfl) ?_
    obtain ⟨uv5, q6, hf⟩ := cl1_e hf
    refine x_callSv (pre := ([] : va_W)) (wc := WM κ a uv1) (wc1 := WM κ a uv5) (post := ([] : va_W)) (As := [.ref (a 2), .ref (a 3), .int 0, .ref (a 4), .ref (a 5), .int p1]) (rest := []) (w1 := WM κ a uv5) ⟨hx, hb, hml, hown, hts⟩ hK hG hA (by simp only [List.append_assoc, List.nil_append, List.append_nil]) (by simp only [List.append_assoc, List.nil_append, List.append_nil]) (c_X5_copy_row_kept l D κ a H.size 0 p1 uv1 uv5 q6) (va_cwS 6 hts gX5_keep_X5_copy rfl rfl rfl (by decide +kernel) ⟨Nat.le_of_ble_eq_true rfl, Nat.le_of_ble_eq_true rfl⟩) rfl hl.1 rfl (Nat.le_of_ble_eq_true rfl) dX5_keep_35 ⟨Nat.zero_le _, Nat.zero_le _⟩ (fun H locs hG => ?_)
    refine lv_aload_n hx hb dX5_keep_38 rfl (lv_at hl 0 rfl) ?_
    refine x_get (C := RX5) (T := TX5) (N := 27) (ci := 5) hx hb hts iX5 hown hK hG 0 rfl rfl 6 (by decide) k26 (v := .ref (a 6)) rfl dX5_keep_39 ?_
    refine lv_iload_n hx hb dX5_keep_42 rfl (lv_at hl 1 rfl) ?_
    refine lv_iconst (v := 1) hx hb dX5_keep_43 (by decide) ?_
    obtain ⟨uv7, euv7, hin, hf⟩ := ck_e hf
    refine x_zast hx hb hK hG 6 rfl (by decide) (w1 := WM κ a uv7) (by rw [euv7]; rfl) hin dX5_keep_44 (fun H locs hG => ?_)
    refine lv_iconst (v := 1) hx hb dX5_keep_45 (by decide) ?_
    have hz := Option.some.inj hf
    have z0 := (Prod.mk.inj hz).1
    replace hz := (Prod.mk.inj hz).2
    have z1 := hz
    exact x_zret hx hb hr hlk hK hG (by decide) z0 (by rw [z1]) dX5_keep_46
  · replace hf := if_t c4 hf
    refine lv_iconst (v := 0) hx hb dX5_keep_15 (by decide) ?_
    have hz := Option.some.inj hf
    have z0 := (Prod.mk.inj hz).1
    replace hz := (Prod.mk.inj hz).2
    have z1 := hz
    exact x_zret hx hb hr hlk hK hG (by decide) z0 (by rw [z1]) dX5_keep_16
set_option maxRecDepth 100000 in
set_option maxHeartbeats 4000000 in
theorem c_X5_again (l : Launch) (D : va_G) (κ : Nat → ClassId) (a : Nat → Nat) (sz : Nat) (p1 : Int32) (uv : MS) (r' : Int32) (uv' : MS) (hf : f_X5_again p1 uv = some (r', uv')) : Met l yX5_again wsX5_again ({ frames := 1, cells := 0, slots := 0, locals := 26 } : Room) (xPc D κ [.ref (a 0), .int p1] (WM κ a uv) sz) (xQi D κ r' (WM κ a uv') (va_A (WM κ a uv) sz)) 0 0 (va_A (WM κ a uv) sz) := by
  refine x_ofW (cc := cX5_again) (maxL := 2) (ret := (some .boolean)) (Qf := fun A => xQi D κ r' (WM κ a uv') A) (by decide) rfl (Nat.le_of_ble_eq_true rfl) ?_
  intro p e s m below meth c hx hb hr hlk hml hown hts hK A hA H locs hG ls hl
  have hown : s.vm.findClass RX5 = some m.cls := hown
  have hl : lv_has ls 2 [(0, .ref (a 0)), (1, .int p1)] := hl
  have iX5 : ∀ w ∈ u_ws RX5 TX5 27, w ∈ wsX5_again := fun _ h => List.mem_cons_of_mem _ (List.mem_append_right _ h)
  have k13 := hts (.fieldLink RX5 13 "SpineDesksModel" "row" "[I") (List.mem_of_getElem? (i := 5) rfl)
  have k16 := hts (.fieldLink RX5 16 "SpineDesksModel" "keys" "[J") (List.mem_of_getElem? (i := 6) rfl)
  have k20 := hts (.fieldLink RX5 20 "SpineDesksModel" "kept" "[I") (List.mem_of_getElem? (i := 3) rfl)
  have k23 := hts (.fieldLink RX5 23 "SpineDesksModel" "keptKeys" "[J") (List.mem_of_getElem? (i := 4) rfl)
  have k26 := hts (.fieldLink RX5 26 "SpineDesksModel" "isKept" "[Z") (List.mem_of_getElem? (i := 2) rfl)
  have k63 := hts (.fieldLink RX5 63 "SpineDesksModel" "thrown" "I") (List.mem_of_getElem? (i := 1) rfl)
  unfold f_X5_again at hf
  refine lv_aload_n hx hb dX5_again_0 rfl (lv_at hl 0 rfl) ?_
  refine lv_iconst (v := 0) hx hb dX5_again_1 (by decide) ?_
  obtain ⟨uv1, euv1, hf⟩ := bnd_e hf
  refine x_put (C := RX5) (T := TX5) (N := 27) (ci := 5) hx hb hts iX5 tyX5 tyX5_ok nmX5 hown hK hG 0 rfl rfl 0 (by decide) k63 rfl (ty := .int) (v := .int 0) rfl rfl rfl (Nat.le_of_ble_eq_true rfl) (w1 := WM κ a uv1) (by rw [euv1]; rfl) dX5_again_2 (fun H locs hG => ?_)
  refine lv_iload_n hx hb dX5_again_5 rfl (lv_at hl 1 rfl) ?_
  refine lv_i2l hx hb dX5_again_6 rfl ?_
  refine lv_lconst (v := 0) hx hb dX5_again_7 (by decide) ?_
  refine lv_lconst (v := 1) hx hb dX5_again_8 (by decide) ?_
  obtain ⟨r2, q3, hf⟩ := cl1_e hf
  refine x_callSi (pre := ([] : va_W)) (wc := ([] : va_W)) (wc1 := ([] : va_W)) (post := WM κ a uv1) (As := [.long (p1.toInt64), .long 0, .long 1]) (rest := []) (w1 := WM κ a uv1) ⟨hx, hb, hml, hown, hts⟩ hK hG hA (by simp only [List.append_assoc, List.nil_append, List.append_nil]) (by simp only [List.append_assoc, List.nil_append, List.append_nil]) (c_X5_in l D κ a H.size (p1.toInt64) 0 1 r2 q3) (va_cwS 3 hts gX5_again_X5_in rfl rfl rfl (by decide +kernel) ⟨Nat.le_of_ble_eq_true rfl, Nat.le_of_ble_eq_true rfl⟩) rfl hl.1 rfl (Nat.le_of_ble_eq_true rfl) dX5_again_9 ⟨Nat.zero_le _, Nat.zero_le _⟩ (fun H locs hG => ?_)
  refine lv_if_eq (tgt := 24) hx hb dX5_again_12 (by decide) (fun c4 => ?_) (fun c4 => ?_)
  · replace hf := if_t c4 hf
    refine lv_iconst (v := 0) hx hb dX5_again_24 (by decide) ?_
    have hz := Option.some.inj hf
    have z0 := (Prod.mk.inj hz).1
    replace hz := (Prod.mk.inj hz).2
    have z1 := hz
    exact x_zret hx hb hr hlk hK hG (by decide) z0 (by rw [z1]) dX5_again_25
  · replace hf := if_f c4 hf
    refine lv_aload_n hx hb dX5_again_15 rfl (lv_at hl 0 rfl) ?_
    refine x_get (C := RX5) (T := TX5) (N := 27) (ci := 5) hx hb hts iX5 hown hK hG 0 rfl rfl 6 (by decide) k26 (v := .ref (a 6)) rfl dX5_again_16 ?_
    refine lv_iload_n hx hb dX5_again_19 rfl (lv_at hl 1 rfl) ?_
    obtain ⟨v5, ev5, hin, hf⟩ := ck_e hf
    refine x_zald hx hb hK hG 6 rfl ev5 hin dX5_again_20 ?_
    refine lv_if_ne (tgt := 26) hx hb dX5_again_21 (by decide) (fun c6 => ?_) (fun c6 => ?_)
    · replace hf := if_f c6 hf
      refine lv_aload_n hx hb dX5_again_26 rfl (lv_at hl 0 rfl) ?_
      refine x_get (C := RX5) (T := TX5) (N := 27) (ci := 5) hx hb hts iX5 hown hK hG 0 rfl rfl 4 (by decide) k20 (v := .ref (a 4)) rfl dX5_again_27 ?_
      refine lv_aload_n hx hb dX5_again_30 rfl (lv_at hl 0 rfl) ?_
      refine x_get (C := RX5) (T := TX5) (N := 27) (ci := 5) hx hb hts iX5 hown hK hG 0 rfl rfl 5 (by decide) k23 (v := .ref (a 5)) rfl dX5_again_31 ?_
      refine lv_iload_n hx hb dX5_again_34 rfl (lv_at hl 1 rfl) ?_
      refine lv_aload_n hx hb dX5_again_35 rfl (lv_at hl 0 rfl) ?_
      refine x_get (C := RX5) (T := TX5) (N := 27) (ci := 5) hx hb hts iX5 hown hK hG 0 rfl rfl 2 (by decide) k13 (v := .ref (a 2)) rfl dX5_again_36 ?_
      refine lv_aload_n hx hb dX5_again_39 rfl (lv_at hl 0 rfl) ?_
      refine x_get (C := RX5) (T := TX5) (N := 27) (ci := 5) hx hb hts iX5 hown hK hG 0 rfl rfl 3 (by decide) k16 (v := .ref (a 3)) rfl dX5_again_40 ?_
      refine lv_iconst (v := 0) hx hb dX5_again_43 (by decide) ?_
      obtain ⟨uv7, q8, hf⟩ := cl1_e hf
      refine x_callSv (pre := ([] : va_W)) (wc := WM κ a uv1) (wc1 := WM κ a uv7) (post := ([] : va_W)) (As := [.ref (a 4), .ref (a 5), .int p1, .ref (a 2), .ref (a 3), .int 0]) (rest := []) (w1 := WM κ a uv7) ⟨hx, hb, hml, hown, hts⟩ hK hG hA (by simp only [List.append_assoc, List.nil_append, List.append_nil]) (by simp only [List.append_assoc, List.nil_append, List.append_nil]) (c_X5_copy_kept_row l D κ a H.size p1 0 uv1 uv7 q8) (va_cwS 6 hts gX5_again_X5_copy rfl rfl rfl (by decide +kernel) ⟨Nat.le_of_ble_eq_true rfl, Nat.le_of_ble_eq_true rfl⟩) rfl hl.1 rfl (Nat.le_of_ble_eq_true rfl) dX5_again_44 ⟨Nat.zero_le _, Nat.zero_le _⟩ (fun H locs hG => ?_)
      refine lv_iconst (v := 1) hx hb dX5_again_47 (by decide) ?_
      have hz := Option.some.inj hf
      have z0 := (Prod.mk.inj hz).1
      replace hz := (Prod.mk.inj hz).2
      have z1 := hz
      exact x_zret hx hb hr hlk hK hG (by decide) z0 (by rw [z1]) dX5_again_48
    · replace hf := if_t c6 hf
      refine lv_iconst (v := 0) hx hb dX5_again_24 (by decide) ?_
      have hz := Option.some.inj hf
      have z0 := (Prod.mk.inj hz).1
      replace hz := (Prod.mk.inj hz).2
      have z1 := hz
      exact x_zret hx hb hr hlk hK hG (by decide) z0 (by rw [z1]) dX5_again_25
set_option maxRecDepth 100000 in
set_option maxHeartbeats 4000000 in
theorem c_X5_at (l : Launch) (D : va_G) (κ : Nat → ClassId) (a : Nat → Nat) (sz : Nat) (p0 : Int32)  (r' : Int32)  (hf : f_X5_at p0 = some (r')) : Met l yX5_at wsX5_at ({ frames := 0, cells := 0, slots := 0, locals := 0 } : Room) (xPc D κ [.int p0] (([] : va_W)) sz) (xQi D κ r' (([] : va_W)) (va_A (([] : va_W)) sz)) 0 0 (va_A (([] : va_W)) sz) := by
  refine x_ofW (cc := cX5_at) (maxL := 1) (ret := (some .int)) (Qf := fun A => xQi D κ r' (([] : va_W)) A) (by decide) rfl (Nat.le_of_ble_eq_true rfl) ?_
  intro p e s m below meth c hx hb hr hlk hml hown hts hK A hA H locs hG ls hl
  have hown : s.vm.findClass RX5 = some m.cls := hown
  have hl : lv_has ls 1 [(0, .int p0)] := hl
  unfold f_X5_at at hf
  refine lv_sipush (v := 150) hx hb dX5_at_0 (by decide) ?_
  refine lv_bipush (v := 7) hx hb dX5_at_3 (by decide) ?_
  refine lv_iload_n hx hb dX5_at_5 rfl (lv_at hl 0 rfl) ?_
  refine lv_imul hx hb dX5_at_6 ?_
  refine lv_iadd hx hb dX5_at_7 ?_
  have z0 := Option.some.inj hf
  exact x_iret hx hb hr hlk hK hG z0 rfl dX5_at_8
set_option maxRecDepth 100000 in
set_option maxHeartbeats 4000000 in
theorem c_X5_isDesk (l : Launch) (D : va_G) (κ : Nat → ClassId) (a : Nat → Nat) (sz : Nat) (p0 : Int32)  (r' : Int32)  (hf : f_X5_isDesk p0 = some (r')) : Met l yX5_isDesk wsX5_isDesk ({ frames := 1, cells := 0, slots := 0, locals := 25 } : Room) (xPc D κ [.int p0] (([] : va_W)) sz) (xQi D κ r' (([] : va_W)) (va_A (([] : va_W)) sz)) 0 0 (va_A (([] : va_W)) sz) := by
  refine x_ofW (cc := cX5_isDesk) (maxL := 1) (ret := (some .boolean)) (Qf := fun A => xQi D κ r' (([] : va_W)) A) (by decide) rfl (Nat.le_of_ble_eq_true rfl) ?_
  intro p e s m below meth c hx hb hr hlk hml hown hts hK A hA H locs hG ls hl
  have hown : s.vm.findClass RX5 = some m.cls := hown
  have hl : lv_has ls 1 [(0, .int p0)] := hl
  have k81 := hts (.constantLong RX5 81 (5)) (List.mem_of_getElem? (i := 1) rfl)
  unfold f_X5_isDesk at hf
  refine lv_iload_n hx hb dX5_isDesk_0 rfl (lv_at hl 0 rfl) ?_
  refine lv_i2l hx hb dX5_isDesk_1 rfl ?_
  refine lv_lconst (v := 0) hx hb dX5_isDesk_2 (by decide) ?_
  refine lv_ldc2 (v := 5) hx hb hown k81 dX5_isDesk_3 ?_
  obtain ⟨r1, q2, hf⟩ := cl1_e hf
  refine x_callSi (pre := ([] : va_W)) (wc := ([] : va_W)) (wc1 := ([] : va_W)) (post := ([] : va_W)) (As := [.long (p0.toInt64), .long 0, .long 5]) (rest := []) (w1 := ([] : va_W)) ⟨hx, hb, hml, hown, hts⟩ hK hG hA (by simp only [List.append_assoc, List.nil_append, List.append_nil]) (by simp only [List.append_assoc, List.nil_append, List.append_nil]) (c_X5_in l D κ a H.size (p0.toInt64) 0 5 r1 q2) (va_cwS 3 hts gX5_isDesk_X5_in rfl rfl rfl (by decide +kernel) ⟨Nat.le_of_ble_eq_true rfl, Nat.le_of_ble_eq_true rfl⟩) rfl hl.1 rfl (Nat.le_of_ble_eq_true rfl) dX5_isDesk_6 ⟨Nat.zero_le _, Nat.zero_le _⟩ (fun H locs hG => ?_)
  obtain ⟨hbo, hf⟩ := ckb_e hf
  have z0 := Option.some.inj hf
  exact x_zret hx hb hr hlk hK hG (x_nb hbo) z0 rfl dX5_isDesk_9
set_option maxRecDepth 100000 in
set_option maxHeartbeats 4000000 in
theorem c_X5_isItem (l : Launch) (D : va_G) (κ : Nat → ClassId) (a : Nat → Nat) (sz : Nat) (p1 : Int32) (uv : MS) (r' : Int32)  (hf : f_X5_isItem p1 uv = some (r')) : Met l yX5_isItem wsX5_isItem ({ frames := 1, cells := 0, slots := 0, locals := 25 } : Room) (xPc D κ [.ref (a 0), .int p1] (WM κ a uv) sz) (xQi D κ r' (WM κ a uv) (va_A (WM κ a uv) sz)) 0 0 (va_A (WM κ a uv) sz) := by
  refine x_ofW (cc := cX5_isItem) (maxL := 2) (ret := (some .boolean)) (Qf := fun A => xQi D κ r' (WM κ a uv) A) (by decide) rfl (Nat.le_of_ble_eq_true rfl) ?_
  intro p e s m below meth c hx hb hr hlk hml hown hts hK A hA H locs hG ls hl
  have hown : s.vm.findClass RX5 = some m.cls := hown
  have hl : lv_has ls 2 [(0, .ref (a 0)), (1, .int p1)] := hl
  have iX5 : ∀ w ∈ u_ws RX5 TX5 27, w ∈ wsX5_isItem := fun _ h => List.mem_cons_of_mem _ (List.mem_append_right _ h)
  have k13 := hts (.fieldLink RX5 13 "SpineDesksModel" "row" "[I") (List.mem_of_getElem? (i := 1) rfl)
  unfold f_X5_isItem at hf
  refine lv_iload_n hx hb dX5_isItem_0 rfl (lv_at hl 1 rfl) ?_
  refine lv_i2l hx hb dX5_isItem_1 rfl ?_
  refine lv_lconst (v := 0) hx hb dX5_isItem_2 (by decide) ?_
  refine lv_aload_n hx hb dX5_isItem_3 rfl (lv_at hl 0 rfl) ?_
  refine x_get (C := RX5) (T := TX5) (N := 27) (ci := 5) hx hb hts iX5 hown hK hG 0 rfl rfl 2 (by decide) k13 (v := .ref (a 2)) rfl dX5_isItem_4 ?_
  refine lv_iconst (v := 0) hx hb dX5_isItem_7 (by decide) ?_
  obtain ⟨v1, ev1, hin, hf⟩ := ck_e hf
  refine x_iald hx hb hK hG 2 rfl ev1 hin dX5_isItem_8 ?_
  refine lv_i2l hx hb dX5_isItem_9 rfl ?_
  refine lv_lconst (v := 1) hx hb dX5_isItem_10 (by decide) ?_
  refine lv_lsub hx hb dX5_isItem_11 ?_
  obtain ⟨r2, q3, hf⟩ := cl1_e hf
  refine x_callSi (pre := ([] : va_W)) (wc := ([] : va_W)) (wc1 := ([] : va_W)) (post := WM κ a uv) (As := [.long (p1.toInt64), .long 0, .long ((v1.toInt64) - 1)]) (rest := []) (w1 := WM κ a uv) ⟨hx, hb, hml, hown, hts⟩ hK hG hA (by simp only [List.append_assoc, List.nil_append, List.append_nil]) (by simp only [List.append_assoc, List.nil_append, List.append_nil]) (c_X5_in l D κ a H.size (p1.toInt64) 0 ((v1.toInt64) - 1) r2 q3) (va_cwS 3 hts gX5_isItem_X5_in rfl rfl rfl (by decide +kernel) ⟨Nat.le_of_ble_eq_true rfl, Nat.le_of_ble_eq_true rfl⟩) rfl hl.1 rfl (Nat.le_of_ble_eq_true rfl) dX5_isItem_12 ⟨Nat.zero_le _, Nat.zero_le _⟩ (fun H locs hG => ?_)
  refine lv_if_eq (tgt := 37) hx hb dX5_isItem_15 (by decide) (fun c4 => ?_) (fun c4 => ?_)
  · replace hf := if_t c4 hf
    refine lv_iconst (v := 0) hx hb dX5_isItem_37 (by decide) ?_
    have z0 := Option.some.inj hf
    exact x_zret hx hb hr hlk hK hG (by decide) z0 rfl dX5_isItem_38
  · replace hf := if_f c4 hf
    refine lv_aload_n hx hb dX5_isItem_18 rfl (lv_at hl 0 rfl) ?_
    refine x_get (C := RX5) (T := TX5) (N := 27) (ci := 5) hx hb hts iX5 hown hK hG 0 rfl rfl 2 (by decide) k13 (v := .ref (a 2)) rfl dX5_isItem_19 ?_
    refine lv_iload_n hx hb dX5_isItem_22 rfl (lv_at hl 1 rfl) ?_
    obtain ⟨r5, q6, hf⟩ := cl1_e hf
    refine x_callSi (pre := ([] : va_W)) (wc := ([] : va_W)) (wc1 := ([] : va_W)) (post := WM κ a uv) (As := [.int p1]) (rest := [.ref (a 2)]) (w1 := WM κ a uv) ⟨hx, hb, hml, hown, hts⟩ hK hG hA (by simp only [List.append_assoc, List.nil_append, List.append_nil]) (by simp only [List.append_assoc, List.nil_append, List.append_nil]) (c_X5_at l D κ a H.size p1 r5 q6) (va_cwS 1 hts gX5_isItem_X5_at rfl rfl rfl (by decide +kernel) ⟨Nat.le_of_ble_eq_true rfl, Nat.le_of_ble_eq_true rfl⟩) rfl hl.1 rfl (Nat.le_of_ble_eq_true rfl) dX5_isItem_23 ⟨Nat.zero_le _, Nat.zero_le _⟩ (fun H locs hG => ?_)
    refine lv_iconst (v := 1) hx hb dX5_isItem_26 (by decide) ?_
    refine lv_iadd hx hb dX5_isItem_27 ?_
    obtain ⟨v7, ev7, hin, hf⟩ := ck_e hf
    refine x_iald hx hb hK hG 2 rfl ev7 hin dX5_isItem_28 ?_
    refine lv_iconst (v := (-1)) hx hb dX5_isItem_29 (by decide) ?_
    refine lv_icmp_eq (tgt := 37) hx hb dX5_isItem_30 (by decide) (fun c8 => ?_) (fun c8 => ?_)
    · replace hf := if_t c8 hf
      refine lv_iconst (v := 0) hx hb dX5_isItem_37 (by decide) ?_
      have z0 := Option.some.inj hf
      exact x_zret hx hb hr hlk hK hG (by decide) z0 rfl dX5_isItem_38
    · replace hf := if_f c8 hf
      refine lv_iconst (v := 1) hx hb dX5_isItem_33 (by decide) ?_
      refine lv_goto (tgt := 38) hx hb dX5_isItem_34 (by decide) ?_
      have z0 := Option.some.inj hf
      exact x_zret hx hb hr hlk hK hG (by decide) z0 rfl dX5_isItem_38
set_option maxRecDepth 100000 in
set_option maxHeartbeats 4000000 in
theorem c_X5_left (l : Launch) (D : va_G) (κ : Nat → ClassId) (a : Nat → Nat) (sz : Nat) (p1 : Int32) (uv : MS) (r' : Int32)  (hf : f_X5_left p1 uv = some (r')) : Met l yX5_left wsX5_left ({ frames := 1, cells := 0, slots := 0, locals := 20 } : Room) (xPc D κ [.ref (a 0), .int p1] (WM κ a uv) sz) (xQi D κ r' (WM κ a uv) (va_A (WM κ a uv) sz)) 0 0 (va_A (WM κ a uv) sz) := by
  refine x_ofW (cc := cX5_left) (maxL := 2) (ret := (some .int)) (Qf := fun A => xQi D κ r' (WM κ a uv) A) (by decide) rfl (Nat.le_of_ble_eq_true rfl) ?_
  intro p e s m below meth c hx hb hr hlk hml hown hts hK A hA H locs hG ls hl
  have hown : s.vm.findClass RX5 = some m.cls := hown
  have hl : lv_has ls 2 [(0, .ref (a 0)), (1, .int p1)] := hl
  have iX5 : ∀ w ∈ u_ws RX5 TX5 27, w ∈ wsX5_left := fun _ h => List.mem_cons_of_mem _ (List.mem_append_right _ h)
  have k13 := hts (.fieldLink RX5 13 "SpineDesksModel" "row" "[I") (List.mem_of_getElem? (i := 1) rfl)
  unfold f_X5_left at hf
  refine lv_aload_n hx hb dX5_left_0 rfl (lv_at hl 0 rfl) ?_
  refine x_get (C := RX5) (T := TX5) (N := 27) (ci := 5) hx hb hts iX5 hown hK hG 0 rfl rfl 2 (by decide) k13 (v := .ref (a 2)) rfl dX5_left_1 ?_
  refine lv_iload_n hx hb dX5_left_4 rfl (lv_at hl 1 rfl) ?_
  obtain ⟨r1, q2, hf⟩ := cl1_e hf
  refine x_callSi (pre := ([] : va_W)) (wc := ([] : va_W)) (wc1 := ([] : va_W)) (post := WM κ a uv) (As := [.int p1]) (rest := [.ref (a 2)]) (w1 := WM κ a uv) ⟨hx, hb, hml, hown, hts⟩ hK hG hA (by simp only [List.append_assoc, List.nil_append, List.append_nil]) (by simp only [List.append_assoc, List.nil_append, List.append_nil]) (c_X5_at l D κ a H.size p1 r1 q2) (va_cwS 1 hts gX5_left_X5_at rfl rfl rfl (by decide +kernel) ⟨Nat.le_of_ble_eq_true rfl, Nat.le_of_ble_eq_true rfl⟩) rfl hl.1 rfl (Nat.le_of_ble_eq_true rfl) dX5_left_5 ⟨Nat.zero_le _, Nat.zero_le _⟩ (fun H locs hG => ?_)
  refine lv_iconst (v := 3) hx hb dX5_left_8 (by decide) ?_
  refine lv_iadd hx hb dX5_left_9 ?_
  obtain ⟨v3, ev3, hin, hf⟩ := ck_e hf
  refine x_iald hx hb hK hG 2 rfl ev3 hin dX5_left_10 ?_
  have z0 := Option.some.inj hf
  exact x_iret hx hb hr hlk hK hG z0 rfl dX5_left_11
set_option maxRecDepth 100000 in
set_option maxHeartbeats 4000000 in
theorem c_X5_right (l : Launch) (D : va_G) (κ : Nat → ClassId) (a : Nat → Nat) (sz : Nat) (p1 : Int32) (uv : MS) (r' : Int32)  (hf : f_X5_right p1 uv = some (r')) : Met l yX5_right wsX5_right ({ frames := 1, cells := 0, slots := 0, locals := 20 } : Room) (xPc D κ [.ref (a 0), .int p1] (WM κ a uv) sz) (xQi D κ r' (WM κ a uv) (va_A (WM κ a uv) sz)) 0 0 (va_A (WM κ a uv) sz) := by
  refine x_ofW (cc := cX5_right) (maxL := 2) (ret := (some .int)) (Qf := fun A => xQi D κ r' (WM κ a uv) A) (by decide) rfl (Nat.le_of_ble_eq_true rfl) ?_
  intro p e s m below meth c hx hb hr hlk hml hown hts hK A hA H locs hG ls hl
  have hown : s.vm.findClass RX5 = some m.cls := hown
  have hl : lv_has ls 2 [(0, .ref (a 0)), (1, .int p1)] := hl
  have iX5 : ∀ w ∈ u_ws RX5 TX5 27, w ∈ wsX5_right := fun _ h => List.mem_cons_of_mem _ (List.mem_append_right _ h)
  have k13 := hts (.fieldLink RX5 13 "SpineDesksModel" "row" "[I") (List.mem_of_getElem? (i := 1) rfl)
  unfold f_X5_right at hf
  refine lv_aload_n hx hb dX5_right_0 rfl (lv_at hl 0 rfl) ?_
  refine x_get (C := RX5) (T := TX5) (N := 27) (ci := 5) hx hb hts iX5 hown hK hG 0 rfl rfl 2 (by decide) k13 (v := .ref (a 2)) rfl dX5_right_1 ?_
  refine lv_iload_n hx hb dX5_right_4 rfl (lv_at hl 1 rfl) ?_
  obtain ⟨r1, q2, hf⟩ := cl1_e hf
  refine x_callSi (pre := ([] : va_W)) (wc := ([] : va_W)) (wc1 := ([] : va_W)) (post := WM κ a uv) (As := [.int p1]) (rest := [.ref (a 2)]) (w1 := WM κ a uv) ⟨hx, hb, hml, hown, hts⟩ hK hG hA (by simp only [List.append_assoc, List.nil_append, List.append_nil]) (by simp only [List.append_assoc, List.nil_append, List.append_nil]) (c_X5_at l D κ a H.size p1 r1 q2) (va_cwS 1 hts gX5_right_X5_at rfl rfl rfl (by decide +kernel) ⟨Nat.le_of_ble_eq_true rfl, Nat.le_of_ble_eq_true rfl⟩) rfl hl.1 rfl (Nat.le_of_ble_eq_true rfl) dX5_right_5 ⟨Nat.zero_le _, Nat.zero_le _⟩ (fun H locs hG => ?_)
  refine lv_iconst (v := 4) hx hb dX5_right_8 (by decide) ?_
  refine lv_iadd hx hb dX5_right_9 ?_
  obtain ⟨v3, ev3, hin, hf⟩ := ck_e hf
  refine x_iald hx hb hK hG 2 rfl ev3 hin dX5_right_10 ?_
  have z0 := Option.some.inj hf
  exact x_iret hx hb hr hlk hK hG z0 rfl dX5_right_11
set_option maxRecDepth 100000 in
set_option maxHeartbeats 4000000 in
theorem c_X5_rank (l : Launch) (D : va_G) (κ : Nat → ClassId) (a : Nat → Nat) (sz : Nat) (p1 : Int32) (uv : MS) (r' : Int32)  (hf : f_X5_rank p1 uv = some (r')) : Met l yX5_rank wsX5_rank ({ frames := 1, cells := 0, slots := 0, locals := 20 } : Room) (xPc D κ [.ref (a 0), .int p1] (WM κ a uv) sz) (xQi D κ r' (WM κ a uv) (va_A (WM κ a uv) sz)) 0 0 (va_A (WM κ a uv) sz) := by
  refine x_ofW (cc := cX5_rank) (maxL := 2) (ret := (some .int)) (Qf := fun A => xQi D κ r' (WM κ a uv) A) (by decide) rfl (Nat.le_of_ble_eq_true rfl) ?_
  intro p e s m below meth c hx hb hr hlk hml hown hts hK A hA H locs hG ls hl
  have hown : s.vm.findClass RX5 = some m.cls := hown
  have hl : lv_has ls 2 [(0, .ref (a 0)), (1, .int p1)] := hl
  have iX5 : ∀ w ∈ u_ws RX5 TX5 27, w ∈ wsX5_rank := fun _ h => List.mem_cons_of_mem _ (List.mem_append_right _ h)
  have k13 := hts (.fieldLink RX5 13 "SpineDesksModel" "row" "[I") (List.mem_of_getElem? (i := 1) rfl)
  unfold f_X5_rank at hf
  refine lv_iload_n hx hb dX5_rank_0 rfl (lv_at hl 1 rfl) ?_
  refine lv_iconst (v := (-1)) hx hb dX5_rank_1 (by decide) ?_
  refine lv_icmp_ne (tgt := 9) hx hb dX5_rank_2 (by decide) (fun c1 => ?_) (fun c1 => ?_)
  · replace hf := if_f c1 hf
    refine lv_aload_n hx hb dX5_rank_9 rfl (lv_at hl 0 rfl) ?_
    refine x_get (C := RX5) (T := TX5) (N := 27) (ci := 5) hx hb hts iX5 hown hK hG 0 rfl rfl 2 (by decide) k13 (v := .ref (a 2)) rfl dX5_rank_10 ?_
    refine lv_iload_n hx hb dX5_rank_13 rfl (lv_at hl 1 rfl) ?_
    obtain ⟨r2, q3, hf⟩ := cl1_e hf
    refine x_callSi (pre := ([] : va_W)) (wc := ([] : va_W)) (wc1 := ([] : va_W)) (post := WM κ a uv) (As := [.int p1]) (rest := [.ref (a 2)]) (w1 := WM κ a uv) ⟨hx, hb, hml, hown, hts⟩ hK hG hA (by simp only [List.append_assoc, List.nil_append, List.append_nil]) (by simp only [List.append_assoc, List.nil_append, List.append_nil]) (c_X5_at l D κ a H.size p1 r2 q3) (va_cwS 1 hts gX5_rank_X5_at rfl rfl rfl (by decide +kernel) ⟨Nat.le_of_ble_eq_true rfl, Nat.le_of_ble_eq_true rfl⟩) rfl hl.1 rfl (Nat.le_of_ble_eq_true rfl) dX5_rank_14 ⟨Nat.zero_le _, Nat.zero_le _⟩ (fun H locs hG => ?_)
    refine lv_bipush (v := 6) hx hb dX5_rank_17 (by decide) ?_
    refine lv_iadd hx hb dX5_rank_19 ?_
    obtain ⟨v4, ev4, hin, hf⟩ := ck_e hf
    refine x_iald hx hb hK hG 2 rfl ev4 hin dX5_rank_20 ?_
    have z0 := Option.some.inj hf
    exact x_iret hx hb hr hlk hK hG z0 rfl dX5_rank_21
  · replace hf := if_t c1 hf
    refine lv_iconst (v := 0) hx hb dX5_rank_5 (by decide) ?_
    refine lv_goto (tgt := 21) hx hb dX5_rank_6 (by decide) ?_
    have z0 := Option.some.inj hf
    exact x_iret hx hb hr hlk hK hG z0 rfl dX5_rank_21
set_option maxRecDepth 100000 in
set_option maxHeartbeats 4000000 in
theorem c_X5_isLess (l : Launch) (D : va_G) (κ : Nat → ClassId) (a : Nat → Nat) (sz : Nat) (p1 : Int32) (p2 : Int32) (uv : MS) (r' : Int32)  (hf : f_X5_isLess p1 p2 uv = some (r')) : Met l yX5_isLess wsX5_isLess ({ frames := 0, cells := 0, slots := 0, locals := 0 } : Room) (xPc D κ [.ref (a 0), .int p1, .int p2] (WM κ a uv) sz) (xQi D κ r' (WM κ a uv) (va_A (WM κ a uv) sz)) 0 0 (va_A (WM κ a uv) sz) := by
  refine x_ofW (cc := cX5_isLess) (maxL := 3) (ret := (some .boolean)) (Qf := fun A => xQi D κ r' (WM κ a uv) A) (by decide) rfl (Nat.le_of_ble_eq_true rfl) ?_
  intro p e s m below meth c hx hb hr hlk hml hown hts hK A hA H locs hG ls hl
  have hown : s.vm.findClass RX5 = some m.cls := hown
  have hl : lv_has ls 3 [(0, .ref (a 0)), (1, .int p1), (2, .int p2)] := hl
  have iX5 : ∀ w ∈ u_ws RX5 TX5 27, w ∈ wsX5_isLess := fun _ h => List.mem_cons_of_mem _ (List.mem_append_right _ h)
  have k16 := hts (.fieldLink RX5 16 "SpineDesksModel" "keys" "[J") (List.mem_of_getElem? (i := 1) rfl)
  unfold f_X5_isLess at hf
  refine lv_aload_n hx hb dX5_isLess_0 rfl (lv_at hl 0 rfl) ?_
  refine x_get (C := RX5) (T := TX5) (N := 27) (ci := 5) hx hb hts iX5 hown hK hG 0 rfl rfl 3 (by decide) k16 (v := .ref (a 3)) rfl dX5_isLess_1 ?_
  refine lv_iload_n hx hb dX5_isLess_4 rfl (lv_at hl 1 rfl) ?_
  obtain ⟨v1, ev1, hin, hf⟩ := ck_e hf
  refine x_lald hx hb hK hG 3 rfl ev1 hin dX5_isLess_5 ?_
  refine lv_aload_n hx hb dX5_isLess_6 rfl (lv_at hl 0 rfl) ?_
  refine x_get (C := RX5) (T := TX5) (N := 27) (ci := 5) hx hb hts iX5 hown hK hG 0 rfl rfl 3 (by decide) k16 (v := .ref (a 3)) rfl dX5_isLess_7 ?_
  refine lv_iload_n hx hb dX5_isLess_10 rfl (lv_at hl 2 rfl) ?_
  obtain ⟨v2, ev2, hin, hf⟩ := ck_e hf
  refine x_lald hx hb hK hG 3 rfl ev2 hin dX5_isLess_11 ?_
  refine W.lcmp hx hb dX5_isLess_12 ?_
  refine lv_if_lt (tgt := 37) hx hb dX5_isLess_13 (by decide) (fun c3 => ?_) (fun c3 => ?_)
  · rw [lg_cmp_lt] at c3
    replace hf := if_t c3 hf
    refine lv_iconst (v := 1) hx hb dX5_isLess_37 (by decide) ?_
    refine lv_goto (tgt := 42) hx hb dX5_isLess_38 (by decide) ?_
    have z0 := Option.some.inj hf
    exact x_zret hx hb hr hlk hK hG (by decide) z0 rfl dX5_isLess_42
  · rw [lg_cmp_lt] at c3
    replace hf := if_f c3 hf
    refine lv_aload_n hx hb dX5_isLess_16 rfl (lv_at hl 0 rfl) ?_
    refine x_get (C := RX5) (T := TX5) (N := 27) (ci := 5) hx hb hts iX5 hown hK hG 0 rfl rfl 3 (by decide) k16 (v := .ref (a 3)) rfl dX5_isLess_17 ?_
    refine lv_iload_n hx hb dX5_isLess_20 rfl (lv_at hl 1 rfl) ?_
    obtain ⟨v4, ev4, hin, hf⟩ := ck_e hf
    refine x_lald hx hb hK hG 3 rfl ev4 hin dX5_isLess_21 ?_
    refine lv_aload_n hx hb dX5_isLess_22 rfl (lv_at hl 0 rfl) ?_
    refine x_get (C := RX5) (T := TX5) (N := 27) (ci := 5) hx hb hts iX5 hown hK hG 0 rfl rfl 3 (by decide) k16 (v := .ref (a 3)) rfl dX5_isLess_23 ?_
    refine lv_iload_n hx hb dX5_isLess_26 rfl (lv_at hl 2 rfl) ?_
    obtain ⟨v5, ev5, hin, hf⟩ := ck_e hf
    refine x_lald hx hb hK hG 3 rfl ev5 hin dX5_isLess_27 ?_
    refine W.lcmp hx hb dX5_isLess_28 ?_
    refine lv_if_ne (tgt := 41) hx hb dX5_isLess_29 (by decide) (fun c6 => ?_) (fun c6 => ?_)
    · rw [lg_cmp_eq] at c6
      replace hf := if_f c6 hf
      refine lv_iconst (v := 0) hx hb dX5_isLess_41 (by decide) ?_
      have z0 := Option.some.inj hf
      exact x_zret hx hb hr hlk hK hG (by decide) z0 rfl dX5_isLess_42
    · rw [lg_cmp_eq] at c6
      replace hf := if_t c6 hf
      refine lv_iload_n hx hb dX5_isLess_32 rfl (lv_at hl 1 rfl) ?_
      refine lv_iload_n hx hb dX5_isLess_33 rfl (lv_at hl 2 rfl) ?_
      refine lv_icmp_ge (tgt := 41) hx hb dX5_isLess_34 (by decide) (fun c7 => ?_) (fun c7 => ?_)
      · replace hf := if_t c7 hf
        refine lv_iconst (v := 0) hx hb dX5_isLess_41 (by decide) ?_
        have z0 := Option.some.inj hf
        exact x_zret hx hb hr hlk hK hG (by decide) z0 rfl dX5_isLess_42
      · replace hf := if_f c7 hf
        refine lv_iconst (v := 1) hx hb dX5_isLess_37 (by decide) ?_
        refine lv_goto (tgt := 42) hx hb dX5_isLess_38 (by decide) ?_
        have z0 := Option.some.inj hf
        exact x_zret hx hb hr hlk hK hG (by decide) z0 rfl dX5_isLess_42
set_option maxRecDepth 100000 in
set_option maxHeartbeats 4000000 in
theorem c_X5_setAbove (l : Launch) (D : va_G) (κ : Nat → ClassId) (a : Nat → Nat) (sz : Nat) (p1 : Int32) (p2 : Int32) (uv : MS)  (uv' : MS) (hf : f_X5_setAbove p1 p2 uv = some (uv')) : Met l yX5_setAbove wsX5_setAbove ({ frames := 1, cells := 0, slots := 0, locals := 20 } : Room) (xPc D κ [.ref (a 0), .int p1, .int p2] (WM κ a uv) sz) (xQv D κ (WM κ a uv') (va_A (WM κ a uv) sz)) 0 0 (va_A (WM κ a uv) sz) := by
  refine x_ofW (cc := cX5_setAbove) (maxL := 3) (ret := none) (Qf := fun A => xQv D κ (WM κ a uv') A) (by decide) rfl (Nat.le_of_ble_eq_true rfl) ?_
  intro p e s m below meth c hx hb hr hlk hml hown hts hK A hA H locs hG ls hl
  have hown : s.vm.findClass RX5 = some m.cls := hown
  have hl : lv_has ls 3 [(0, .ref (a 0)), (1, .int p1), (2, .int p2)] := hl
  have iX5 : ∀ w ∈ u_ws RX5 TX5 27, w ∈ wsX5_setAbove := fun _ h => List.mem_cons_of_mem _ (List.mem_append_right _ h)
  have k13 := hts (.fieldLink RX5 13 "SpineDesksModel" "row" "[I") (List.mem_of_getElem? (i := 1) rfl)
  unfold f_X5_setAbove at hf
  refine lv_iload_n hx hb dX5_setAbove_0 rfl (lv_at hl 1 rfl) ?_
  refine lv_iconst (v := (-1)) hx hb dX5_setAbove_1 (by decide) ?_
  refine lv_icmp_eq (tgt := 17) hx hb dX5_setAbove_2 (by decide) (fun c1 => ?_) (fun c1 => ?_)
  · replace hf := if_t c1 hf
    have z0 := Option.some.inj hf
    exact x_vret hx hb hr hlk hK hG (by rw [z0]) dX5_setAbove_17
  · replace hf := if_f c1 hf
    refine lv_aload_n hx hb dX5_setAbove_5 rfl (lv_at hl 0 rfl) ?_
    refine x_get (C := RX5) (T := TX5) (N := 27) (ci := 5) hx hb hts iX5 hown hK hG 0 rfl rfl 2 (by decide) k13 (v := .ref (a 2)) rfl dX5_setAbove_6 ?_
    refine lv_iload_n hx hb dX5_setAbove_9 rfl (lv_at hl 1 rfl) ?_
    obtain ⟨r2, q3, hf⟩ := cl1_e hf
    refine x_callSi (pre := ([] : va_W)) (wc := ([] : va_W)) (wc1 := ([] : va_W)) (post := WM κ a uv) (As := [.int p1]) (rest := [.ref (a 2)]) (w1 := WM κ a uv) ⟨hx, hb, hml, hown, hts⟩ hK hG hA (by simp only [List.append_assoc, List.nil_append, List.append_nil]) (by simp only [List.append_assoc, List.nil_append, List.append_nil]) (c_X5_at l D κ a H.size p1 r2 q3) (va_cwS 1 hts gX5_setAbove_X5_at rfl rfl rfl (by decide +kernel) ⟨Nat.le_of_ble_eq_true rfl, Nat.le_of_ble_eq_true rfl⟩) rfl hl.1 rfl (Nat.le_of_ble_eq_true rfl) dX5_setAbove_10 ⟨Nat.zero_le _, Nat.zero_le _⟩ (fun H locs hG => ?_)
    refine lv_iconst (v := 5) hx hb dX5_setAbove_13 (by decide) ?_
    refine lv_iadd hx hb dX5_setAbove_14 ?_
    refine lv_iload_n hx hb dX5_setAbove_15 rfl (lv_at hl 2 rfl) ?_
    obtain ⟨uv4, euv4, hin, hf⟩ := ck_e hf
    refine x_iast hx hb hK hG 2 rfl (w1 := WM κ a uv4) (by rw [euv4]; rfl) hin dX5_setAbove_16 (fun H locs hG => ?_)
    have z0 := Option.some.inj hf
    exact x_vret hx hb hr hlk hK hG (by rw [z0]) dX5_setAbove_17
set_option maxRecDepth 100000 in
set_option maxHeartbeats 4000000 in
theorem c_X5_settle (l : Launch) (D : va_G) (κ : Nat → ClassId) (a : Nat → Nat) (sz : Nat) (p1 : Int32) (uv : MS)  (uv' : MS) (hf : f_X5_settle p1 uv = some (uv')) : Met l yX5_settle wsX5_settle ({ frames := 2, cells := 0, slots := 0, locals := 41 } : Room) (xPc D κ [.ref (a 0), .int p1] (WM κ a uv) sz) (xQv D κ (WM κ a uv') (va_A (WM κ a uv) sz)) 0 0 (va_A (WM κ a uv) sz) := by
  refine x_ofW (cc := cX5_settle) (maxL := 4) (ret := none) (Qf := fun A => xQv D κ (WM κ a uv') A) (by decide) rfl (Nat.le_of_ble_eq_true rfl) ?_
  intro p e s m below meth c hx hb hr hlk hml hown hts hK A hA H locs hG ls hl
  have hown : s.vm.findClass RX5 = some m.cls := hown
  have hl : lv_has ls 4 [(0, .ref (a 0)), (1, .int p1)] := hl
  have iX5 : ∀ w ∈ u_ws RX5 TX5 27, w ∈ wsX5_settle := fun _ h => List.mem_cons_of_mem _ (List.mem_append_right _ h)
  have k13 := hts (.fieldLink RX5 13 "SpineDesksModel" "row" "[I") (List.mem_of_getElem? (i := 1) rfl)
  have L66 : ∀ (x2 : Int32) (uv : MS), f_X5_settle_66 x2 uv = some (uv') → ∀ (H : Heap) (locs : List Loc) (ls : Array Slot), xG D A s.heap (WM κ a uv) H locs → lv_has ls 4 [(0, .ref (a 0)), (2, .int x2)] → W p l e ({ frames := 2, cells := 0, slots := 0, locals := 41 } : Room) s m (([.ref (a 0), .int p1] : List Value).toArray) below meth c H locs 0 0 (MQ below (xQv D κ (WM κ a uv') A) (([.ref (a 0), .int p1] : List Value).toArray) s 0 0 A) (F0 m 66 ls []) := by
    intro  x2 uv hf H locs ls hG hl
    unfold f_X5_settle_66 at hf
    refine lv_aload_n hx hb dX5_settle_66 rfl (lv_at hl 0 rfl) ?_
    refine x_get (C := RX5) (T := TX5) (N := 27) (ci := 5) hx hb hts iX5 hown hK hG 0 rfl rfl 2 (by decide) k13 (v := .ref (a 2)) rfl dX5_settle_67 ?_
    refine lv_iload_n hx hb dX5_settle_70 rfl (lv_at hl 1 rfl) ?_
    refine lv_bipush (v := 6) hx hb dX5_settle_71 (by decide) ?_
    refine lv_iadd hx hb dX5_settle_73 ?_
    refine lv_aload_n hx hb dX5_settle_74 rfl (lv_at hl 0 rfl) ?_
    refine lv_aload_n hx hb dX5_settle_75 rfl (lv_at hl 0 rfl) ?_
    refine x_get (C := RX5) (T := TX5) (N := 27) (ci := 5) hx hb hts iX5 hown hK hG 0 rfl rfl 2 (by decide) k13 (v := .ref (a 2)) rfl dX5_settle_76 ?_
    refine lv_iload_n hx hb dX5_settle_79 rfl (lv_at hl 1 rfl) ?_
    refine lv_iconst (v := 4) hx hb dX5_settle_80 (by decide) ?_
    refine lv_iadd hx hb dX5_settle_81 ?_
    obtain ⟨v1, ev1, hin, hf⟩ := ck_e hf
    refine x_iald hx hb hK hG 2 rfl ev1 hin dX5_settle_82 ?_
    obtain ⟨r2, q3, hf⟩ := cl1_e hf
    refine x_callVi (pre := ([] : va_W)) (wc := WM κ a uv) (wc1 := WM κ a uv) (post := ([] : va_W)) (As := [.int v1]) (rest := [.int (x2 + 6), .ref (a 2)]) (w1 := WM κ a uv) ⟨hx, hb, hml, hown, hts⟩ hK hG hA (by simp only [List.append_assoc, List.nil_append, List.append_nil]) (by simp only [List.append_assoc, List.nil_append, List.append_nil]) (c_X5_rank l D κ a H.size v1 uv r2 q3) (cwV 1 hts gX5_settle_X5_rank rfl rfl rfl (by decide +kernel) ⟨Nat.le_of_ble_eq_true rfl, Nat.le_of_ble_eq_true rfl⟩) 0 5 rfl rfl rfl rfl hl.1 rfl (Nat.le_of_ble_eq_true rfl) dX5_settle_83 ⟨Nat.zero_le _, Nat.zero_le _⟩ (fun H locs hG => ?_)
    refine lv_iconst (v := 1) hx hb dX5_settle_86 (by decide) ?_
    refine lv_iadd hx hb dX5_settle_87 ?_
    obtain ⟨uv4, euv4, hin, hf⟩ := ck_e hf
    refine x_iast hx hb hK hG 2 rfl (w1 := WM κ a uv4) (by rw [euv4]; rfl) hin dX5_settle_88 (fun H locs hG => ?_)
    have z0 := Option.some.inj hf
    exact x_vret hx hb hr hlk hK hG (by rw [z0]) dX5_settle_89
  unfold f_X5_settle at hf
  refine lv_iload_n hx hb dX5_settle_0 rfl (lv_at hl 1 rfl) ?_
  obtain ⟨r5, q6, hf⟩ := cl1_e hf
  refine x_callSi (pre := ([] : va_W)) (wc := ([] : va_W)) (wc1 := ([] : va_W)) (post := WM κ a uv) (As := [.int p1]) (rest := []) (w1 := WM κ a uv) ⟨hx, hb, hml, hown, hts⟩ hK hG hA (by simp only [List.append_assoc, List.nil_append, List.append_nil]) (by simp only [List.append_assoc, List.nil_append, List.append_nil]) (c_X5_at l D κ a H.size p1 r5 q6) (va_cwS 1 hts gX5_settle_X5_at rfl rfl rfl (by decide +kernel) ⟨Nat.le_of_ble_eq_true rfl, Nat.le_of_ble_eq_true rfl⟩) rfl hl.1 rfl (Nat.le_of_ble_eq_true rfl) dX5_settle_1 ⟨Nat.zero_le _, Nat.zero_le _⟩ (fun H locs hG => ?_)
  refine lv_istore_n (lv' := [(2, .int r5), (0, .ref (a 0)), (1, .int p1)]) hx hb dX5_settle_4 rfl hl (by decide) rfl (fun ls hl => ?_)
  refine lv_aload_n hx hb dX5_settle_5 rfl (lv_at hl 1 rfl) ?_
  refine lv_aload_n hx hb dX5_settle_6 rfl (lv_at hl 1 rfl) ?_
  refine x_get (C := RX5) (T := TX5) (N := 27) (ci := 5) hx hb hts iX5 hown hK hG 0 rfl rfl 2 (by decide) k13 (v := .ref (a 2)) rfl dX5_settle_7 ?_
  refine lv_iload_n hx hb dX5_settle_10 rfl (lv_at hl 0 rfl) ?_
  refine lv_iconst (v := 3) hx hb dX5_settle_11 (by decide) ?_
  refine lv_iadd hx hb dX5_settle_12 ?_
  obtain ⟨v7, ev7, hin, hf⟩ := ck_e hf
  refine x_iald hx hb hK hG 2 rfl ev7 hin dX5_settle_13 ?_
  obtain ⟨r8, q9, hf⟩ := cl1_e hf
  refine x_callVi (pre := ([] : va_W)) (wc := WM κ a uv) (wc1 := WM κ a uv) (post := ([] : va_W)) (As := [.int v7]) (rest := []) (w1 := WM κ a uv) ⟨hx, hb, hml, hown, hts⟩ hK hG hA (by simp only [List.append_assoc, List.nil_append, List.append_nil]) (by simp only [List.append_assoc, List.nil_append, List.append_nil]) (c_X5_rank l D κ a H.size v7 uv r8 q9) (cwV 1 hts gX5_settle_X5_rank rfl rfl rfl (by decide +kernel) ⟨Nat.le_of_ble_eq_true rfl, Nat.le_of_ble_eq_true rfl⟩) 0 5 rfl rfl rfl rfl hl.1 rfl (Nat.le_of_ble_eq_true rfl) dX5_settle_14 ⟨Nat.zero_le _, Nat.zero_le _⟩ (fun H locs hG => ?_)
  refine lv_aload_n hx hb dX5_settle_17 rfl (lv_at hl 1 rfl) ?_
  refine lv_aload_n hx hb dX5_settle_18 rfl (lv_at hl 1 rfl) ?_
  refine x_get (C := RX5) (T := TX5) (N := 27) (ci := 5) hx hb hts iX5 hown hK hG 0 rfl rfl 2 (by decide) k13 (v := .ref (a 2)) rfl dX5_settle_19 ?_
  refine lv_iload_n hx hb dX5_settle_22 rfl (lv_at hl 0 rfl) ?_
  refine lv_iconst (v := 4) hx hb dX5_settle_23 (by decide) ?_
  refine lv_iadd hx hb dX5_settle_24 ?_
  obtain ⟨v10, ev10, hin, hf⟩ := ck_e hf
  refine x_iald hx hb hK hG 2 rfl ev10 hin dX5_settle_25 ?_
  obtain ⟨r11, q12, hf⟩ := cl1_e hf
  refine x_callVi (pre := ([] : va_W)) (wc := WM κ a uv) (wc1 := WM κ a uv) (post := ([] : va_W)) (As := [.int v10]) (rest := [.int r8]) (w1 := WM κ a uv) ⟨hx, hb, hml, hown, hts⟩ hK hG hA (by simp only [List.append_assoc, List.nil_append, List.append_nil]) (by simp only [List.append_assoc, List.nil_append, List.append_nil]) (c_X5_rank l D κ a H.size v10 uv r11 q12) (cwV 1 hts gX5_settle_X5_rank rfl rfl rfl (by decide +kernel) ⟨Nat.le_of_ble_eq_true rfl, Nat.le_of_ble_eq_true rfl⟩) 0 5 rfl rfl rfl rfl hl.1 rfl (Nat.le_of_ble_eq_true rfl) dX5_settle_26 ⟨Nat.zero_le _, Nat.zero_le _⟩ (fun H locs hG => ?_)
  refine lv_icmp_ge (tgt := 66) hx hb dX5_settle_29 (by decide) (fun c13 => ?_) (fun c13 => ?_)
  · replace hf := if_t c13 hf
    exact L66   r5 uv hf H locs ls hG (lv_sub hl [1, 0] rfl)
  · replace hf := if_f c13 hf
    refine lv_aload_n hx hb dX5_settle_32 rfl (lv_at hl 1 rfl) ?_
    refine x_get (C := RX5) (T := TX5) (N := 27) (ci := 5) hx hb hts iX5 hown hK hG 0 rfl rfl 2 (by decide) k13 (v := .ref (a 2)) rfl dX5_settle_33 ?_
    refine lv_iload_n hx hb dX5_settle_36 rfl (lv_at hl 0 rfl) ?_
    refine lv_iconst (v := 3) hx hb dX5_settle_37 (by decide) ?_
    refine lv_iadd hx hb dX5_settle_38 ?_
    obtain ⟨v14, ev14, hin, hf⟩ := ck_e hf
    refine x_iald hx hb hK hG 2 rfl ev14 hin dX5_settle_39 ?_
    refine lv_istore_n (lv' := [(3, .int v14), (2, .int r5), (0, .ref (a 0)), (1, .int p1)]) hx hb dX5_settle_40 rfl hl (by decide) rfl (fun ls hl => ?_)
    refine lv_aload_n hx hb dX5_settle_41 rfl (lv_at hl 2 rfl) ?_
    refine x_get (C := RX5) (T := TX5) (N := 27) (ci := 5) hx hb hts iX5 hown hK hG 0 rfl rfl 2 (by decide) k13 (v := .ref (a 2)) rfl dX5_settle_42 ?_
    refine lv_iload_n hx hb dX5_settle_45 rfl (lv_at hl 1 rfl) ?_
    refine lv_iconst (v := 3) hx hb dX5_settle_46 (by decide) ?_
    refine lv_iadd hx hb dX5_settle_47 ?_
    refine lv_aload_n hx hb dX5_settle_48 rfl (lv_at hl 2 rfl) ?_
    refine x_get (C := RX5) (T := TX5) (N := 27) (ci := 5) hx hb hts iX5 hown hK hG 0 rfl rfl 2 (by decide) k13 (v := .ref (a 2)) rfl dX5_settle_49 ?_
    refine lv_iload_n hx hb dX5_settle_52 rfl (lv_at hl 1 rfl) ?_
    refine lv_iconst (v := 4) hx hb dX5_settle_53 (by decide) ?_
    refine lv_iadd hx hb dX5_settle_54 ?_
    obtain ⟨v15, ev15, hin, hf⟩ := ck_e hf
    refine x_iald hx hb hK hG 2 rfl ev15 hin dX5_settle_55 ?_
    obtain ⟨uv16, euv16, hin, hf⟩ := ck_e hf
    refine x_iast hx hb hK hG 2 rfl (w1 := WM κ a uv16) (by rw [euv16]; rfl) hin dX5_settle_56 (fun H locs hG => ?_)
    refine lv_aload_n hx hb dX5_settle_57 rfl (lv_at hl 2 rfl) ?_
    refine x_get (C := RX5) (T := TX5) (N := 27) (ci := 5) hx hb hts iX5 hown hK hG 0 rfl rfl 2 (by decide) k13 (v := .ref (a 2)) rfl dX5_settle_58 ?_
    refine lv_iload_n hx hb dX5_settle_61 rfl (lv_at hl 1 rfl) ?_
    refine lv_iconst (v := 4) hx hb dX5_settle_62 (by decide) ?_
    refine lv_iadd hx hb dX5_settle_63 ?_
    refine lv_iload_n hx hb dX5_settle_64 rfl (lv_at hl 0 rfl) ?_
    obtain ⟨uv17, euv17, hin, hf⟩ := ck_e hf
    refine x_iast hx hb hK hG 2 rfl (w1 := WM κ a uv17) (by rw [euv17]; rfl) hin dX5_settle_65 (fun H locs hG => ?_)
    exact L66   r5 uv17 hf H locs ls hG (lv_sub hl [2, 1] rfl)
set_option maxRecDepth 100000 in
set_option maxHeartbeats 4000000 in
theorem c_X5_meldTrees (l : Launch) (D : va_G) (κ : Nat → ClassId) (a : Nat → Nat) (sz : Nat) (p1 : Int32) (p2 : Int32) (uv : MS) (r' : Int32) (uv' : MS) (hf : f_X5_meldTrees p1 p2 uv = some (r', uv')) : Met l yX5_meldTrees wsX5_meldTrees ({ frames := 3, cells := 0, slots := 0, locals := 64 } : Room) (xPc D κ [.ref (a 0), .int p1, .int p2] (WM κ a uv) sz) (xQi D κ r' (WM κ a uv') (va_A (WM κ a uv) sz)) 0 0 (va_A (WM κ a uv) sz) := by
  refine x_ofW (cc := cX5_meldTrees) (maxL := 9) (ret := (some .int)) (Qf := fun A => xQi D κ r' (WM κ a uv') A) (by decide) rfl (Nat.le_of_ble_eq_true rfl) ?_
  intro p e s m below meth c hx hb hr hlk hml hown hts hK A hA H locs hG ls hl
  have hown : s.vm.findClass RX5 = some m.cls := hown
  have hl : lv_has ls 9 [(0, .ref (a 0)), (1, .int p1), (2, .int p2)] := hl
  have iX5 : ∀ w ∈ u_ws RX5 TX5 27, w ∈ wsX5_meldTrees := fun _ h => List.mem_cons_of_mem _ (List.mem_append_right _ h)
  have k13 := hts (.fieldLink RX5 13 "SpineDesksModel" "row" "[I") (List.mem_of_getElem? (i := 3) rfl)
  have k36 := hts (.fieldLink RX5 36 "SpineDesksModel" "way" "[I") (List.mem_of_getElem? (i := 1) rfl)
  have k71 := hts (.fieldLink RX5 71 "SpineDesksModel" "steps" "I") (List.mem_of_getElem? (i := 2) rfl)
  have L107 : ∀ (n : Nat), ∀ (x6 : Int32) (x7 : Int32) (uv : MS), f_X5_meldTrees_107 n x6 x7 uv = some (r', uv') → ∀ (H : Heap) (locs : List Loc) (ls : Array Slot), xG D A s.heap (WM κ a uv) H locs → lv_has ls 9 [(0, .ref (a 0)), (6, .int x6), (7, .int x7)] → W p l e ({ frames := 3, cells := 0, slots := 0, locals := 64 } : Room) s m (([.ref (a 0), .int p1, .int p2] : List Value).toArray) below meth c H locs 0 0 (MQ below (xQi D κ r' (WM κ a uv') A) (([.ref (a 0), .int p1, .int p2] : List Value).toArray) s 0 0 A) (F0 m 107 ls []) := by
    intro  n
    induction n with
    | zero => intro x6 x7 uv hf; cases hf
    | succ n ih =>
      intro x6 x7 uv hf H locs ls hG hl
      replace hf : f_X5_meldTrees_B107 (f_X5_meldTrees_107 n) x6 x7 uv = some (r', uv') := hf
      unfold f_X5_meldTrees_B107 at hf
      refine lv_iload hx hb dX5_meldTrees_107 (lv_at hl 2 rfl) ?_
      refine lv_if_lt (tgt := 159) hx hb dX5_meldTrees_109 (by decide) (fun c1 => ?_) (fun c1 => ?_)
      · replace hf := if_t c1 hf
        refine lv_aload_n hx hb dX5_meldTrees_159 rfl (lv_at hl 0 rfl) ?_
        refine lv_iload hx hb dX5_meldTrees_160 (lv_at hl 1 rfl) ?_
        refine lv_iconst (v := (-1)) hx hb dX5_meldTrees_162 (by decide) ?_
        obtain ⟨uv2, q3, hf⟩ := cl1_e hf
        refine x_callVv (pre := ([] : va_W)) (wc := WM κ a uv) (wc1 := WM κ a uv2) (post := ([] : va_W)) (As := [.int x6, .int ((-1))]) (rest := []) (w1 := WM κ a uv2) ⟨hx, hb, hml, hown, hts⟩ hK hG hA (by simp only [List.append_assoc, List.nil_append, List.append_nil]) (by simp only [List.append_assoc, List.nil_append, List.append_nil]) (c_X5_setAbove l D κ a H.size x6 ((-1)) uv uv2 q3) (cwV 2 hts gX5_meldTrees_X5_setAbove rfl rfl rfl (by decide +kernel) ⟨Nat.le_of_ble_eq_true rfl, Nat.le_of_ble_eq_true rfl⟩) 0 5 rfl rfl rfl rfl hl.1 rfl (Nat.le_of_ble_eq_true rfl) dX5_meldTrees_163 ⟨Nat.zero_le _, Nat.zero_le _⟩ (fun H locs hG => ?_)
        refine lv_iload hx hb dX5_meldTrees_166 (lv_at hl 1 rfl) ?_
        have hz := Option.some.inj hf
        have z0 := (Prod.mk.inj hz).1
        replace hz := (Prod.mk.inj hz).2
        have z1 := hz
        exact x_iret hx hb hr hlk hK hG z0 (by rw [z1]) dX5_meldTrees_168
      · replace hf := if_f c1 hf
        refine lv_aload_n hx hb dX5_meldTrees_112 rfl (lv_at hl 0 rfl) ?_
        refine x_get (C := RX5) (T := TX5) (N := 27) (ci := 5) hx hb hts iX5 hown hK hG 0 rfl rfl 11 (by decide) k36 (v := .ref (a 9)) rfl dX5_meldTrees_113 ?_
        refine lv_iload hx hb dX5_meldTrees_116 (lv_at hl 2 rfl) ?_
        obtain ⟨v4, ev4, hin, hf⟩ := ck_e hf
        refine x_iald hx hb hK hG 9 rfl ev4 hin dX5_meldTrees_118 ?_
        refine lv_istore (lv' := [(8, .int v4), (0, .ref (a 0)), (6, .int x6), (7, .int x7)]) hx hb dX5_meldTrees_119 hl (by decide) rfl (fun ls hl => ?_)
        refine lv_aload_n hx hb dX5_meldTrees_121 rfl (lv_at hl 1 rfl) ?_
        refine x_get (C := RX5) (T := TX5) (N := 27) (ci := 5) hx hb hts iX5 hown hK hG 0 rfl rfl 2 (by decide) k13 (v := .ref (a 2)) rfl dX5_meldTrees_122 ?_
        refine lv_iload hx hb dX5_meldTrees_125 (lv_at hl 0 rfl) ?_
        obtain ⟨r5, q6, hf⟩ := cl1_e hf
        refine x_callSi (pre := ([] : va_W)) (wc := ([] : va_W)) (wc1 := ([] : va_W)) (post := WM κ a uv) (As := [.int v4]) (rest := [.ref (a 2)]) (w1 := WM κ a uv) ⟨hx, hb, hml, hown, hts⟩ hK hG hA (by simp only [List.append_assoc, List.nil_append, List.append_nil]) (by simp only [List.append_assoc, List.nil_append, List.append_nil]) (c_X5_at l D κ a H.size v4 r5 q6) (va_cwS 1 hts gX5_meldTrees_X5_at rfl rfl rfl (by decide +kernel) ⟨Nat.le_of_ble_eq_true rfl, Nat.le_of_ble_eq_true rfl⟩) rfl hl.1 rfl (Nat.le_of_ble_eq_true rfl) dX5_meldTrees_127 ⟨Nat.zero_le _, Nat.zero_le _⟩ (fun H locs hG => ?_)
        refine lv_iconst (v := 4) hx hb dX5_meldTrees_130 (by decide) ?_
        refine lv_iadd hx hb dX5_meldTrees_131 ?_
        refine lv_iload hx hb dX5_meldTrees_132 (lv_at hl 2 rfl) ?_
        obtain ⟨uv7, euv7, hin, hf⟩ := ck_e hf
        refine x_iast hx hb hK hG 2 rfl (w1 := WM κ a uv7) (by rw [euv7]; rfl) hin dX5_meldTrees_134 (fun H locs hG => ?_)
        refine lv_aload_n hx hb dX5_meldTrees_135 rfl (lv_at hl 1 rfl) ?_
        refine lv_iload hx hb dX5_meldTrees_136 (lv_at hl 2 rfl) ?_
        refine lv_iload hx hb dX5_meldTrees_138 (lv_at hl 0 rfl) ?_
        obtain ⟨uv8, q9, hf⟩ := cl1_e hf
        refine x_callVv (pre := ([] : va_W)) (wc := WM κ a uv7) (wc1 := WM κ a uv8) (post := ([] : va_W)) (As := [.int x6, .int v4]) (rest := []) (w1 := WM κ a uv8) ⟨hx, hb, hml, hown, hts⟩ hK hG hA (by simp only [List.append_assoc, List.nil_append, List.append_nil]) (by simp only [List.append_assoc, List.nil_append, List.append_nil]) (c_X5_setAbove l D κ a H.size x6 v4 uv7 uv8 q9) (cwV 2 hts gX5_meldTrees_X5_setAbove rfl rfl rfl (by decide +kernel) ⟨Nat.le_of_ble_eq_true rfl, Nat.le_of_ble_eq_true rfl⟩) 0 5 rfl rfl rfl rfl hl.1 rfl (Nat.le_of_ble_eq_true rfl) dX5_meldTrees_140 ⟨Nat.zero_le _, Nat.zero_le _⟩ (fun H locs hG => ?_)
        refine lv_aload_n hx hb dX5_meldTrees_143 rfl (lv_at hl 1 rfl) ?_
        refine lv_iload hx hb dX5_meldTrees_144 (lv_at hl 0 rfl) ?_
        obtain ⟨uv10, q11, hf⟩ := cl1_e hf
        refine x_callVv (pre := ([] : va_W)) (wc := WM κ a uv8) (wc1 := WM κ a uv10) (post := ([] : va_W)) (As := [.int v4]) (rest := []) (w1 := WM κ a uv10) ⟨hx, hb, hml, hown, hts⟩ hK hG hA (by simp only [List.append_assoc, List.nil_append, List.append_nil]) (by simp only [List.append_assoc, List.nil_append, List.append_nil]) (c_X5_settle l D κ a H.size v4 uv8 uv10 q11) (cwV 1 hts gX5_meldTrees_X5_settle rfl rfl rfl (by decide +kernel) ⟨Nat.le_of_ble_eq_true rfl, Nat.le_of_ble_eq_true rfl⟩) 0 5 rfl rfl rfl rfl hl.1 rfl (Nat.le_of_ble_eq_true rfl) dX5_meldTrees_146 ⟨Nat.zero_le _, Nat.zero_le _⟩ (fun H locs hG => ?_)
        refine lv_iload hx hb dX5_meldTrees_149 (lv_at hl 0 rfl) ?_
        refine lv_istore (lv' := [(6, .int v4), (8, .int v4), (0, .ref (a 0)), (7, .int x7)]) hx hb dX5_meldTrees_151 hl (by decide) rfl (fun ls hl => ?_)
        obtain ⟨y12, ey12, hf⟩ := bnd_e hf
        refine lv_iinc (v := y12) (lv' := [(7, .int y12), (6, .int v4), (8, .int v4), (0, .ref (a 0))]) hx hb dX5_meldTrees_153 hl (k := 3) rfl (by rw [ey12]; rfl) (by decide) rfl (fun ls hl => ?_)
        refine lv_goto (tgt := 107) hx hb dX5_meldTrees_156 (by decide) ?_
        exact ih v4 y12 uv10 hf H locs ls hG (lv_sub hl [3, 1, 0] rfl)
  have L99 : ∀ (x5 : Int32) (s0 : Int32) (uv : MS), f_X5_meldTrees_99 x5 s0 uv = some (r', uv') → ∀ (H : Heap) (locs : List Loc) (ls : Array Slot), xG D A s.heap (WM κ a uv) H locs → lv_has ls 9 [(0, .ref (a 0)), (5, .int x5)] → W p l e ({ frames := 3, cells := 0, slots := 0, locals := 64 } : Room) s m (([.ref (a 0), .int p1, .int p2] : List Value).toArray) below meth c H locs 0 0 (MQ below (xQi D κ r' (WM κ a uv') A) (([.ref (a 0), .int p1, .int p2] : List Value).toArray) s 0 0 A) (F0 m 99 ls [.int s0]) := by
    intro  x5 s0 uv hf H locs ls hG hl
    unfold f_X5_meldTrees_99 at hf
    refine lv_istore (lv' := [(6, .int s0), (0, .ref (a 0)), (5, .int x5)]) hx hb dX5_meldTrees_99 hl (by decide) rfl (fun ls hl => ?_)
    refine lv_iload hx hb dX5_meldTrees_101 (lv_at hl 2 rfl) ?_
    refine lv_iconst (v := 1) hx hb dX5_meldTrees_103 (by decide) ?_
    refine lv_isub hx hb dX5_meldTrees_104 ?_
    refine lv_topi (fun y13 ey13 => ?_)
    replace hf := bnd_at ey13 hf
    refine lv_istore (lv' := [(7, .int y13), (6, .int s0), (0, .ref (a 0)), (5, .int x5)]) hx hb dX5_meldTrees_105 hl (by decide) rfl (fun ls hl => ?_)
    exact L107  FU s0 y13 uv hf H locs ls hG (lv_sub hl [2, 1, 0] rfl)
  have L77 : ∀ (x3 : Int32) (x4 : Int32) (x5 : Int32) (uv : MS), f_X5_meldTrees_77 x3 x4 x5 uv = some (r', uv') → ∀ (H : Heap) (locs : List Loc) (ls : Array Slot), xG D A s.heap (WM κ a uv) H locs → lv_has ls 9 [(0, .ref (a 0)), (3, .int x3), (4, .int x4), (5, .int x5)] → W p l e ({ frames := 3, cells := 0, slots := 0, locals := 64 } : Room) s m (([.ref (a 0), .int p1, .int p2] : List Value).toArray) below meth c H locs 0 0 (MQ below (xQi D κ r' (WM κ a uv') A) (([.ref (a 0), .int p1, .int p2] : List Value).toArray) s 0 0 A) (F0 m 77 ls []) := by
    intro  x3 x4 x5 uv hf H locs ls hG hl
    unfold f_X5_meldTrees_77 at hf
    refine lv_aload_n hx hb dX5_meldTrees_77 rfl (lv_at hl 0 rfl) ?_
    refine lv_dup hx hb dX5_meldTrees_78 rfl ?_
    refine x_get (C := RX5) (T := TX5) (N := 27) (ci := 5) hx hb hts iX5 hown hK hG 0 rfl rfl 9 (by decide) k71 (v := .int (uv.steps)) rfl dX5_meldTrees_79 ?_
    refine lv_iload hx hb dX5_meldTrees_82 (lv_at hl 3 rfl) ?_
    refine lv_iadd hx hb dX5_meldTrees_84 ?_
    obtain ⟨uv14, euv14, hf⟩ := bnd_e hf
    refine x_put (C := RX5) (T := TX5) (N := 27) (ci := 5) hx hb hts iX5 tyX5 tyX5_ok nmX5 hown hK hG 0 rfl rfl 9 (by decide) k71 rfl (ty := .int) (v := .int ((uv.steps) + x5)) rfl rfl rfl (Nat.le_of_ble_eq_true rfl) (w1 := WM κ a uv14) (by rw [euv14]; rfl) dX5_meldTrees_85 (fun H locs hG => ?_)
    refine lv_iload_n hx hb dX5_meldTrees_88 rfl (lv_at hl 1 rfl) ?_
    refine lv_iconst (v := (-1)) hx hb dX5_meldTrees_89 (by decide) ?_
    refine lv_icmp_ne (tgt := 98) hx hb dX5_meldTrees_90 (by decide) (fun c15 => ?_) (fun c15 => ?_)
    · replace hf := if_f c15 hf
      refine lv_iload_n hx hb dX5_meldTrees_98 rfl (lv_at hl 1 rfl) ?_
      exact L99   x5 x3 uv14 hf H locs ls hG (lv_sub hl [0, 3] rfl)
    · replace hf := if_t c15 hf
      refine lv_iload hx hb dX5_meldTrees_93 (lv_at hl 2 rfl) ?_
      refine lv_goto (tgt := 99) hx hb dX5_meldTrees_95 (by decide) ?_
      exact L99   x5 x4 uv14 hf H locs ls hG (lv_sub hl [0, 3] rfl)
  have L49 : ∀ (rec8 : Int32 → Int32 → Int32 → MS → Option (Int32 × MS)) (hr8 : ∀ (y3 : Int32) (y4 : Int32) (y5 : Int32) (uv : MS), rec8 y3 y4 y5 uv = some (r', uv') → ∀ (H : Heap) (locs : List Loc) (ls : Array Slot), xG D A s.heap (WM κ a uv) H locs → lv_has ls 9 [(0, .ref (a 0)), (3, .int y3), (4, .int y4), (5, .int y5)] → W p l e ({ frames := 3, cells := 0, slots := 0, locals := 64 } : Room) s m (([.ref (a 0), .int p1, .int p2] : List Value).toArray) below meth c H locs 0 0 (MQ below (xQi D κ r' (WM κ a uv') A) (([.ref (a 0), .int p1, .int p2] : List Value).toArray) s 0 0 A) (F0 m 8 ls [])), ∀ (x5 : Int32) (x6 : Int32) (s0 : Int32) (uv : MS), f_X5_meldTrees_49 rec8 x5 x6 s0 uv = some (r', uv') → ∀ (H : Heap) (locs : List Loc) (ls : Array Slot), xG D A s.heap (WM κ a uv) H locs → lv_has ls 9 [(0, .ref (a 0)), (5, .int x5), (6, .int x6)] → W p l e ({ frames := 3, cells := 0, slots := 0, locals := 64 } : Room) s m (([.ref (a 0), .int p1, .int p2] : List Value).toArray) below meth c H locs 0 0 (MQ below (xQi D κ r' (WM κ a uv') A) (([.ref (a 0), .int p1, .int p2] : List Value).toArray) s 0 0 A) (F0 m 49 ls [.int s0]) := by
    intro rec8 hr8 x5 x6 s0 uv hf H locs ls hG hl
    unfold f_X5_meldTrees_49 at hf
    refine lv_istore (lv' := [(7, .int s0), (0, .ref (a 0)), (5, .int x5), (6, .int x6)]) hx hb dX5_meldTrees_49 hl (by decide) rfl (fun ls hl => ?_)
    refine lv_aload_n hx hb dX5_meldTrees_51 rfl (lv_at hl 1 rfl) ?_
    refine x_get (C := RX5) (T := TX5) (N := 27) (ci := 5) hx hb hts iX5 hown hK hG 0 rfl rfl 11 (by decide) k36 (v := .ref (a 9)) rfl dX5_meldTrees_52 ?_
    refine lv_iload hx hb dX5_meldTrees_55 (lv_at hl 2 rfl) ?_
    refine lv_iload hx hb dX5_meldTrees_57 (lv_at hl 3 rfl) ?_
    obtain ⟨uv16, euv16, hin, hf⟩ := ck_e hf
    refine x_iast hx hb hK hG 9 rfl (w1 := WM κ a uv16) (by rw [euv16]; rfl) hin dX5_meldTrees_59 (fun H locs hG => ?_)
    obtain ⟨y17, ey17, hf⟩ := bnd_e hf
    refine lv_iinc (v := y17) (lv' := [(5, .int y17), (7, .int s0), (0, .ref (a 0)), (6, .int x6)]) hx hb dX5_meldTrees_60 hl (k := 2) rfl (by rw [ey17]; rfl) (by decide) rfl (fun ls hl => ?_)
    refine lv_aload_n hx hb dX5_meldTrees_63 rfl (lv_at hl 2 rfl) ?_
    refine lv_iload hx hb dX5_meldTrees_64 (lv_at hl 3 rfl) ?_
    obtain ⟨r18, q19, hf⟩ := cl1_e hf
    refine x_callVi (pre := ([] : va_W)) (wc := WM κ a uv16) (wc1 := WM κ a uv16) (post := ([] : va_W)) (As := [.int x6]) (rest := []) (w1 := WM κ a uv16) ⟨hx, hb, hml, hown, hts⟩ hK hG hA (by simp only [List.append_assoc, List.nil_append, List.append_nil]) (by simp only [List.append_assoc, List.nil_append, List.append_nil]) (c_X5_right l D κ a H.size x6 uv16 r18 q19) (cwV 1 hts gX5_meldTrees_X5_right rfl rfl rfl (by decide +kernel) ⟨Nat.le_of_ble_eq_true rfl, Nat.le_of_ble_eq_true rfl⟩) 0 5 rfl rfl rfl rfl hl.1 rfl (Nat.le_of_ble_eq_true rfl) dX5_meldTrees_66 ⟨Nat.zero_le _, Nat.zero_le _⟩ (fun H locs hG => ?_)
    refine lv_istore_n (lv' := [(3, .int r18), (5, .int y17), (7, .int s0), (0, .ref (a 0)), (6, .int x6)]) hx hb dX5_meldTrees_69 rfl hl (by decide) rfl (fun ls hl => ?_)
    refine lv_iload hx hb dX5_meldTrees_70 (lv_at hl 2 rfl) ?_
    refine lv_istore (lv' := [(4, .int s0), (3, .int r18), (5, .int y17), (7, .int s0), (0, .ref (a 0)), (6, .int x6)]) hx hb dX5_meldTrees_72 hl (by decide) rfl (fun ls hl => ?_)
    refine lv_goto (tgt := 8) hx hb dX5_meldTrees_74 (by decide) ?_
    exact hr8 r18 s0 y17 uv16 hf H locs ls hG (lv_sub hl [4, 1, 0, 2] rfl)
  have L35 : ∀ (rec8 : Int32 → Int32 → Int32 → MS → Option (Int32 × MS)) (hr8 : ∀ (y3 : Int32) (y4 : Int32) (y5 : Int32) (uv : MS), rec8 y3 y4 y5 uv = some (r', uv') → ∀ (H : Heap) (locs : List Loc) (ls : Array Slot), xG D A s.heap (WM κ a uv) H locs → lv_has ls 9 [(0, .ref (a 0)), (3, .int y3), (4, .int y4), (5, .int y5)] → W p l e ({ frames := 3, cells := 0, slots := 0, locals := 64 } : Room) s m (([.ref (a 0), .int p1, .int p2] : List Value).toArray) below meth c H locs 0 0 (MQ below (xQi D κ r' (WM κ a uv') A) (([.ref (a 0), .int p1, .int p2] : List Value).toArray) s 0 0 A) (F0 m 8 ls [])), ∀ (x3 : Int32) (x4 : Int32) (x5 : Int32) (s0 : Int32) (uv : MS), f_X5_meldTrees_35 rec8 x3 x4 x5 s0 uv = some (r', uv') → ∀ (H : Heap) (locs : List Loc) (ls : Array Slot), xG D A s.heap (WM κ a uv) H locs → lv_has ls 9 [(0, .ref (a 0)), (3, .int x3), (4, .int x4), (5, .int x5)] → W p l e ({ frames := 3, cells := 0, slots := 0, locals := 64 } : Room) s m (([.ref (a 0), .int p1, .int p2] : List Value).toArray) below meth c H locs 0 0 (MQ below (xQi D κ r' (WM κ a uv') A) (([.ref (a 0), .int p1, .int p2] : List Value).toArray) s 0 0 A) (F0 m 35 ls [.int s0]) := by
    intro rec8 hr8 x3 x4 x5 s0 uv hf H locs ls hG hl
    unfold f_X5_meldTrees_35 at hf
    refine lv_istore (lv' := [(6, .int s0), (0, .ref (a 0)), (3, .int x3), (4, .int x4), (5, .int x5)]) hx hb dX5_meldTrees_35 hl (by decide) rfl (fun ls hl => ?_)
    refine lv_iload hx hb dX5_meldTrees_37 (lv_at hl 0 rfl) ?_
    refine lv_iload_n hx hb dX5_meldTrees_39 rfl (lv_at hl 2 rfl) ?_
    refine lv_icmp_ne (tgt := 48) hx hb dX5_meldTrees_40 (by decide) (fun c20 => ?_) (fun c20 => ?_)
    · replace hf := if_f c20 hf
      refine lv_iload_n hx hb dX5_meldTrees_48 rfl (lv_at hl 2 rfl) ?_
      exact L49 rec8 hr8  x5 s0 x3 uv hf H locs ls hG (lv_sub hl [1, 4, 0] rfl)
    · replace hf := if_t c20 hf
      refine lv_iload hx hb dX5_meldTrees_43 (lv_at hl 3 rfl) ?_
      refine lv_goto (tgt := 49) hx hb dX5_meldTrees_45 (by decide) ?_
      exact L49 rec8 hr8  x5 s0 x4 uv hf H locs ls hG (lv_sub hl [1, 4, 0] rfl)
  have L8 : ∀ (n : Nat), ∀ (x3 : Int32) (x4 : Int32) (x5 : Int32) (uv : MS), f_X5_meldTrees_8 n x3 x4 x5 uv = some (r', uv') → ∀ (H : Heap) (locs : List Loc) (ls : Array Slot), xG D A s.heap (WM κ a uv) H locs → lv_has ls 9 [(0, .ref (a 0)), (3, .int x3), (4, .int x4), (5, .int x5)] → W p l e ({ frames := 3, cells := 0, slots := 0, locals := 64 } : Room) s m (([.ref (a 0), .int p1, .int p2] : List Value).toArray) below meth c H locs 0 0 (MQ below (xQi D κ r' (WM κ a uv') A) (([.ref (a 0), .int p1, .int p2] : List Value).toArray) s 0 0 A) (F0 m 8 ls []) := by
    intro  n
    induction n with
    | zero => intro x3 x4 x5 uv hf; cases hf
    | succ n ih =>
      intro x3 x4 x5 uv hf H locs ls hG hl
      replace hf : f_X5_meldTrees_B8 (f_X5_meldTrees_8 n) x3 x4 x5 uv = some (r', uv') := hf
      unfold f_X5_meldTrees_B8 at hf
      refine lv_iload_n hx hb dX5_meldTrees_8 rfl (lv_at hl 1 rfl) ?_
      refine lv_iconst (v := (-1)) hx hb dX5_meldTrees_9 (by decide) ?_
      refine lv_icmp_eq (tgt := 77) hx hb dX5_meldTrees_10 (by decide) (fun c21 => ?_) (fun c21 => ?_)
      · replace hf := if_t c21 hf
        exact L77   x3 x4 x5 uv hf H locs ls hG (lv_sub hl [0, 1, 2, 3] rfl)
      · replace hf := if_f c21 hf
        refine lv_iload hx hb dX5_meldTrees_13 (lv_at hl 2 rfl) ?_
        refine lv_iconst (v := (-1)) hx hb dX5_meldTrees_15 (by decide) ?_
        refine lv_icmp_eq (tgt := 77) hx hb dX5_meldTrees_16 (by decide) (fun c22 => ?_) (fun c22 => ?_)
        · replace hf := if_t c22 hf
          exact L77   x3 x4 x5 uv hf H locs ls hG (lv_sub hl [0, 1, 2, 3] rfl)
        · replace hf := if_f c22 hf
          refine lv_aload_n hx hb dX5_meldTrees_19 rfl (lv_at hl 0 rfl) ?_
          refine lv_iload_n hx hb dX5_meldTrees_20 rfl (lv_at hl 1 rfl) ?_
          refine lv_iload hx hb dX5_meldTrees_21 (lv_at hl 2 rfl) ?_
          obtain ⟨r23, q24, hf⟩ := cl1_e hf
          refine x_callVi (pre := ([] : va_W)) (wc := WM κ a uv) (wc1 := WM κ a uv) (post := ([] : va_W)) (As := [.int x3, .int x4]) (rest := []) (w1 := WM κ a uv) ⟨hx, hb, hml, hown, hts⟩ hK hG hA (by simp only [List.append_assoc, List.nil_append, List.append_nil]) (by simp only [List.append_assoc, List.nil_append, List.append_nil]) (c_X5_isLess l D κ a H.size x3 x4 uv r23 q24) (cwV 2 hts gX5_meldTrees_X5_isLess rfl rfl rfl (by decide +kernel) ⟨Nat.le_of_ble_eq_true rfl, Nat.le_of_ble_eq_true rfl⟩) 0 5 rfl rfl rfl rfl hl.1 rfl (Nat.le_of_ble_eq_true rfl) dX5_meldTrees_23 ⟨Nat.zero_le _, Nat.zero_le _⟩ (fun H locs hG => ?_)
          refine lv_if_eq (tgt := 33) hx hb dX5_meldTrees_26 (by decide) (fun c25 => ?_) (fun c25 => ?_)
          · replace hf := if_t c25 hf
            refine lv_iload hx hb dX5_meldTrees_33 (lv_at hl 2 rfl) ?_
            exact L35 (f_X5_meldTrees_8 n) ih  x3 x4 x5 x4 uv hf H locs ls hG (lv_sub hl [0, 1, 2, 3] rfl)
          · replace hf := if_f c25 hf
            refine lv_iload_n hx hb dX5_meldTrees_29 rfl (lv_at hl 1 rfl) ?_
            refine lv_goto (tgt := 35) hx hb dX5_meldTrees_30 (by decide) ?_
            exact L35 (f_X5_meldTrees_8 n) ih  x3 x4 x5 x3 uv hf H locs ls hG (lv_sub hl [0, 1, 2, 3] rfl)
  unfold f_X5_meldTrees at hf
  refine lv_iload_n hx hb dX5_meldTrees_0 rfl (lv_at hl 1 rfl) ?_
  refine lv_istore_n (lv' := [(3, .int p1), (0, .ref (a 0)), (1, .int p1), (2, .int p2)]) hx hb dX5_meldTrees_1 rfl hl (by decide) rfl (fun ls hl => ?_)
  refine lv_iload_n hx hb dX5_meldTrees_2 rfl (lv_at hl 3 rfl) ?_
  refine lv_istore (lv' := [(4, .int p2), (3, .int p1), (0, .ref (a 0)), (1, .int p1), (2, .int p2)]) hx hb dX5_meldTrees_3 hl (by decide) rfl (fun ls hl => ?_)
  refine lv_iconst (v := 0) hx hb dX5_meldTrees_5 (by decide) ?_
  refine lv_istore (lv' := [(5, .int 0), (4, .int p2), (3, .int p1), (0, .ref (a 0)), (1, .int p1), (2, .int p2)]) hx hb dX5_meldTrees_6 hl (by decide) rfl (fun ls hl => ?_)
  exact L8  FU p1 p2 0 uv hf H locs ls hG (lv_sub hl [3, 2, 1, 0] rfl)
set_option maxRecDepth 100000 in
set_option maxHeartbeats 4000000 in
theorem c_X5_lay (l : Launch) (D : va_G) (κ : Nat → ClassId) (a : Nat → Nat) (sz : Nat) (p1 : Int32) (uv : MS)  (uv' : MS) (hf : f_X5_lay p1 uv = some (uv')) : Met l yX5_lay wsX5_lay ({ frames := 1, cells := 0, slots := 0, locals := 20 } : Room) (xPc D κ [.ref (a 0), .int p1] (WM κ a uv) sz) (xQv D κ (WM κ a uv') (va_A (WM κ a uv) sz)) 0 0 (va_A (WM κ a uv) sz) := by
  refine x_ofW (cc := cX5_lay) (maxL := 3) (ret := none) (Qf := fun A => xQv D κ (WM κ a uv') A) (by decide) rfl (Nat.le_of_ble_eq_true rfl) ?_
  intro p e s m below meth c hx hb hr hlk hml hown hts hK A hA H locs hG ls hl
  have hown : s.vm.findClass RX5 = some m.cls := hown
  have hl : lv_has ls 3 [(0, .ref (a 0)), (1, .int p1)] := hl
  have iX5 : ∀ w ∈ u_ws RX5 TX5 27, w ∈ wsX5_lay := fun _ h => List.mem_cons_of_mem _ (List.mem_append_right _ h)
  have k13 := hts (.fieldLink RX5 13 "SpineDesksModel" "row" "[I") (List.mem_of_getElem? (i := 1) rfl)
  unfold f_X5_lay at hf
  refine lv_iload_n hx hb dX5_lay_0 rfl (lv_at hl 1 rfl) ?_
  obtain ⟨r1, q2, hf⟩ := cl1_e hf
  refine x_callSi (pre := ([] : va_W)) (wc := ([] : va_W)) (wc1 := ([] : va_W)) (post := WM κ a uv) (As := [.int p1]) (rest := []) (w1 := WM κ a uv) ⟨hx, hb, hml, hown, hts⟩ hK hG hA (by simp only [List.append_assoc, List.nil_append, List.append_nil]) (by simp only [List.append_assoc, List.nil_append, List.append_nil]) (c_X5_at l D κ a H.size p1 r1 q2) (va_cwS 1 hts gX5_lay_X5_at rfl rfl rfl (by decide +kernel) ⟨Nat.le_of_ble_eq_true rfl, Nat.le_of_ble_eq_true rfl⟩) rfl hl.1 rfl (Nat.le_of_ble_eq_true rfl) dX5_lay_1 ⟨Nat.zero_le _, Nat.zero_le _⟩ (fun H locs hG => ?_)
  refine lv_istore_n (lv' := [(2, .int r1), (0, .ref (a 0)), (1, .int p1)]) hx hb dX5_lay_4 rfl hl (by decide) rfl (fun ls hl => ?_)
  refine lv_aload_n hx hb dX5_lay_5 rfl (lv_at hl 1 rfl) ?_
  refine x_get (C := RX5) (T := TX5) (N := 27) (ci := 5) hx hb hts iX5 hown hK hG 0 rfl rfl 2 (by decide) k13 (v := .ref (a 2)) rfl dX5_lay_6 ?_
  refine lv_iload_n hx hb dX5_lay_9 rfl (lv_at hl 0 rfl) ?_
  refine lv_iconst (v := 3) hx hb dX5_lay_10 (by decide) ?_
  refine lv_iadd hx hb dX5_lay_11 ?_
  refine lv_iconst (v := (-1)) hx hb dX5_lay_12 (by decide) ?_
  obtain ⟨uv3, euv3, hin, hf⟩ := ck_e hf
  refine x_iast hx hb hK hG 2 rfl (w1 := WM κ a uv3) (by rw [euv3]; rfl) hin dX5_lay_13 (fun H locs hG => ?_)
  refine lv_aload_n hx hb dX5_lay_14 rfl (lv_at hl 1 rfl) ?_
  refine x_get (C := RX5) (T := TX5) (N := 27) (ci := 5) hx hb hts iX5 hown hK hG 0 rfl rfl 2 (by decide) k13 (v := .ref (a 2)) rfl dX5_lay_15 ?_
  refine lv_iload_n hx hb dX5_lay_18 rfl (lv_at hl 0 rfl) ?_
  refine lv_iconst (v := 4) hx hb dX5_lay_19 (by decide) ?_
  refine lv_iadd hx hb dX5_lay_20 ?_
  refine lv_iconst (v := (-1)) hx hb dX5_lay_21 (by decide) ?_
  obtain ⟨uv4, euv4, hin, hf⟩ := ck_e hf
  refine x_iast hx hb hK hG 2 rfl (w1 := WM κ a uv4) (by rw [euv4]; rfl) hin dX5_lay_22 (fun H locs hG => ?_)
  refine lv_aload_n hx hb dX5_lay_23 rfl (lv_at hl 1 rfl) ?_
  refine x_get (C := RX5) (T := TX5) (N := 27) (ci := 5) hx hb hts iX5 hown hK hG 0 rfl rfl 2 (by decide) k13 (v := .ref (a 2)) rfl dX5_lay_24 ?_
  refine lv_iload_n hx hb dX5_lay_27 rfl (lv_at hl 0 rfl) ?_
  refine lv_iconst (v := 5) hx hb dX5_lay_28 (by decide) ?_
  refine lv_iadd hx hb dX5_lay_29 ?_
  refine lv_iconst (v := (-1)) hx hb dX5_lay_30 (by decide) ?_
  obtain ⟨uv5, euv5, hin, hf⟩ := ck_e hf
  refine x_iast hx hb hK hG 2 rfl (w1 := WM κ a uv5) (by rw [euv5]; rfl) hin dX5_lay_31 (fun H locs hG => ?_)
  refine lv_aload_n hx hb dX5_lay_32 rfl (lv_at hl 1 rfl) ?_
  refine x_get (C := RX5) (T := TX5) (N := 27) (ci := 5) hx hb hts iX5 hown hK hG 0 rfl rfl 2 (by decide) k13 (v := .ref (a 2)) rfl dX5_lay_33 ?_
  refine lv_iload_n hx hb dX5_lay_36 rfl (lv_at hl 0 rfl) ?_
  refine lv_bipush (v := 6) hx hb dX5_lay_37 (by decide) ?_
  refine lv_iadd hx hb dX5_lay_39 ?_
  refine lv_iconst (v := 1) hx hb dX5_lay_40 (by decide) ?_
  obtain ⟨uv6, euv6, hin, hf⟩ := ck_e hf
  refine x_iast hx hb hK hG 2 rfl (w1 := WM κ a uv6) (by rw [euv6]; rfl) hin dX5_lay_41 (fun H locs hG => ?_)
  have z0 := Option.some.inj hf
  exact x_vret hx hb hr hlk hK hG (by rw [z0]) dX5_lay_42
set_option maxRecDepth 100000 in
set_option maxHeartbeats 4000000 in
theorem c_X5_put (l : Launch) (D : va_G) (κ : Nat → ClassId) (a : Nat → Nat) (sz : Nat) (p1 : Int32) (p2 : Int32) (uv : MS)  (uv' : MS) (hf : f_X5_put p1 p2 uv = some (uv')) : Met l yX5_put wsX5_put ({ frames := 4, cells := 0, slots := 0, locals := 92 } : Room) (xPc D κ [.ref (a 0), .int p1, .int p2] (WM κ a uv) sz) (xQv D κ (WM κ a uv') (va_A (WM κ a uv) sz)) 0 0 (va_A (WM κ a uv) sz) := by
  refine x_ofW (cc := cX5_put) (maxL := 3) (ret := none) (Qf := fun A => xQv D κ (WM κ a uv') A) (by decide) rfl (Nat.le_of_ble_eq_true rfl) ?_
  intro p e s m below meth c hx hb hr hlk hml hown hts hK A hA H locs hG ls hl
  have hown : s.vm.findClass RX5 = some m.cls := hown
  have hl : lv_has ls 3 [(0, .ref (a 0)), (1, .int p1), (2, .int p2)] := hl
  have iX5 : ∀ w ∈ u_ws RX5 TX5 27, w ∈ wsX5_put := fun _ h => List.mem_cons_of_mem _ (List.mem_append_right _ h)
  have k13 := hts (.fieldLink RX5 13 "SpineDesksModel" "row" "[I") (List.mem_of_getElem? (i := 1) rfl)
  unfold f_X5_put at hf
  refine lv_aload_n hx hb dX5_put_0 rfl (lv_at hl 0 rfl) ?_
  refine lv_iload_n hx hb dX5_put_1 rfl (lv_at hl 1 rfl) ?_
  obtain ⟨uv1, q2, hf⟩ := cl1_e hf
  refine x_callVv (pre := ([] : va_W)) (wc := WM κ a uv) (wc1 := WM κ a uv1) (post := ([] : va_W)) (As := [.int p1]) (rest := []) (w1 := WM κ a uv1) ⟨hx, hb, hml, hown, hts⟩ hK hG hA (by simp only [List.append_assoc, List.nil_append, List.append_nil]) (by simp only [List.append_assoc, List.nil_append, List.append_nil]) (c_X5_lay l D κ a H.size p1 uv uv1 q2) (cwV 1 hts gX5_put_X5_lay rfl rfl rfl (by decide +kernel) ⟨Nat.le_of_ble_eq_true rfl, Nat.le_of_ble_eq_true rfl⟩) 0 5 rfl rfl rfl rfl hl.1 rfl (Nat.le_of_ble_eq_true rfl) dX5_put_2 ⟨Nat.zero_le _, Nat.zero_le _⟩ (fun H locs hG => ?_)
  refine lv_aload_n hx hb dX5_put_5 rfl (lv_at hl 0 rfl) ?_
  refine x_get (C := RX5) (T := TX5) (N := 27) (ci := 5) hx hb hts iX5 hown hK hG 0 rfl rfl 2 (by decide) k13 (v := .ref (a 2)) rfl dX5_put_6 ?_
  refine lv_iload_n hx hb dX5_put_9 rfl (lv_at hl 1 rfl) ?_
  obtain ⟨r3, q4, hf⟩ := cl1_e hf
  refine x_callSi (pre := ([] : va_W)) (wc := ([] : va_W)) (wc1 := ([] : va_W)) (post := WM κ a uv1) (As := [.int p1]) (rest := [.ref (a 2)]) (w1 := WM κ a uv1) ⟨hx, hb, hml, hown, hts⟩ hK hG hA (by simp only [List.append_assoc, List.nil_append, List.append_nil]) (by simp only [List.append_assoc, List.nil_append, List.append_nil]) (c_X5_at l D κ a H.size p1 r3 q4) (va_cwS 1 hts gX5_put_X5_at rfl rfl rfl (by decide +kernel) ⟨Nat.le_of_ble_eq_true rfl, Nat.le_of_ble_eq_true rfl⟩) rfl hl.1 rfl (Nat.le_of_ble_eq_true rfl) dX5_put_10 ⟨Nat.zero_le _, Nat.zero_le _⟩ (fun H locs hG => ?_)
  refine lv_iconst (v := 1) hx hb dX5_put_13 (by decide) ?_
  refine lv_iadd hx hb dX5_put_14 ?_
  refine lv_iload_n hx hb dX5_put_15 rfl (lv_at hl 2 rfl) ?_
  obtain ⟨uv5, euv5, hin, hf⟩ := ck_e hf
  refine x_iast hx hb hK hG 2 rfl (w1 := WM κ a uv5) (by rw [euv5]; rfl) hin dX5_put_16 (fun H locs hG => ?_)
  refine lv_aload_n hx hb dX5_put_17 rfl (lv_at hl 0 rfl) ?_
  refine x_get (C := RX5) (T := TX5) (N := 27) (ci := 5) hx hb hts iX5 hown hK hG 0 rfl rfl 2 (by decide) k13 (v := .ref (a 2)) rfl dX5_put_18 ?_
  refine lv_iconst (v := 4) hx hb dX5_put_21 (by decide) ?_
  refine lv_iload_n hx hb dX5_put_22 rfl (lv_at hl 2 rfl) ?_
  refine lv_iadd hx hb dX5_put_23 ?_
  refine lv_aload_n hx hb dX5_put_24 rfl (lv_at hl 0 rfl) ?_
  refine lv_aload_n hx hb dX5_put_25 rfl (lv_at hl 0 rfl) ?_
  refine x_get (C := RX5) (T := TX5) (N := 27) (ci := 5) hx hb hts iX5 hown hK hG 0 rfl rfl 2 (by decide) k13 (v := .ref (a 2)) rfl dX5_put_26 ?_
  refine lv_iconst (v := 4) hx hb dX5_put_29 (by decide) ?_
  refine lv_iload_n hx hb dX5_put_30 rfl (lv_at hl 2 rfl) ?_
  refine lv_iadd hx hb dX5_put_31 ?_
  obtain ⟨v6, ev6, hin, hf⟩ := ck_e hf
  refine x_iald hx hb hK hG 2 rfl ev6 hin dX5_put_32 ?_
  refine lv_iload_n hx hb dX5_put_33 rfl (lv_at hl 1 rfl) ?_
  obtain ⟨r7, uv8, q9, hf⟩ := cl2_e hf
  refine x_callVi (pre := ([] : va_W)) (wc := WM κ a uv5) (wc1 := WM κ a uv8) (post := ([] : va_W)) (As := [.int v6, .int p1]) (rest := [.int (4 + p2), .ref (a 2)]) (w1 := WM κ a uv8) ⟨hx, hb, hml, hown, hts⟩ hK hG hA (by simp only [List.append_assoc, List.nil_append, List.append_nil]) (by simp only [List.append_assoc, List.nil_append, List.append_nil]) (c_X5_meldTrees l D κ a H.size v6 p1 uv5 r7 uv8 q9) (cwV 2 hts gX5_put_X5_meldTrees rfl rfl rfl (by decide +kernel) ⟨Nat.le_of_ble_eq_true rfl, Nat.le_of_ble_eq_true rfl⟩) 0 5 rfl rfl rfl rfl hl.1 rfl (Nat.le_of_ble_eq_true rfl) dX5_put_34 ⟨Nat.zero_le _, Nat.zero_le _⟩ (fun H locs hG => ?_)
  obtain ⟨uv10, euv10, hin, hf⟩ := ck_e hf
  refine x_iast hx hb hK hG 2 rfl (w1 := WM κ a uv10) (by rw [euv10]; rfl) hin dX5_put_37 (fun H locs hG => ?_)
  have z0 := Option.some.inj hf
  exact x_vret hx hb hr hlk hK hG (by rw [z0]) dX5_put_38
set_option maxRecDepth 100000 in
set_option maxHeartbeats 4000000 in
theorem c_X5_takeRoot (l : Launch) (D : va_G) (κ : Nat → ClassId) (a : Nat → Nat) (sz : Nat) (p1 : Int32) (uv : MS) (r' : Int32) (uv' : MS) (hf : f_X5_takeRoot p1 uv = some (r', uv')) : Met l yX5_takeRoot wsX5_takeRoot ({ frames := 4, cells := 0, slots := 0, locals := 92 } : Room) (xPc D κ [.ref (a 0), .int p1] (WM κ a uv) sz) (xQi D κ r' (WM κ a uv') (va_A (WM κ a uv) sz)) 0 0 (va_A (WM κ a uv) sz) := by
  refine x_ofW (cc := cX5_takeRoot) (maxL := 3) (ret := (some .int)) (Qf := fun A => xQi D κ r' (WM κ a uv') A) (by decide) rfl (Nat.le_of_ble_eq_true rfl) ?_
  intro p e s m below meth c hx hb hr hlk hml hown hts hK A hA H locs hG ls hl
  have hown : s.vm.findClass RX5 = some m.cls := hown
  have hl : lv_has ls 3 [(0, .ref (a 0)), (1, .int p1)] := hl
  have iX5 : ∀ w ∈ u_ws RX5 TX5 27, w ∈ wsX5_takeRoot := fun _ h => List.mem_cons_of_mem _ (List.mem_append_right _ h)
  have k13 := hts (.fieldLink RX5 13 "SpineDesksModel" "row" "[I") (List.mem_of_getElem? (i := 1) rfl)
  unfold f_X5_takeRoot at hf
  refine lv_aload_n hx hb dX5_takeRoot_0 rfl (lv_at hl 0 rfl) ?_
  refine x_get (C := RX5) (T := TX5) (N := 27) (ci := 5) hx hb hts iX5 hown hK hG 0 rfl rfl 2 (by decide) k13 (v := .ref (a 2)) rfl dX5_takeRoot_1 ?_
  refine lv_iconst (v := 4) hx hb dX5_takeRoot_4 (by decide) ?_
  refine lv_iload_n hx hb dX5_takeRoot_5 rfl (lv_at hl 1 rfl) ?_
  refine lv_iadd hx hb dX5_takeRoot_6 ?_
  obtain ⟨v1, ev1, hin, hf⟩ := ck_e hf
  refine x_iald hx hb hK hG 2 rfl ev1 hin dX5_takeRoot_7 ?_
  refine lv_istore_n (lv' := [(2, .int v1), (0, .ref (a 0)), (1, .int p1)]) hx hb dX5_takeRoot_8 rfl hl (by decide) rfl (fun ls hl => ?_)
  refine lv_aload_n hx hb dX5_takeRoot_9 rfl (lv_at hl 1 rfl) ?_
  refine x_get (C := RX5) (T := TX5) (N := 27) (ci := 5) hx hb hts iX5 hown hK hG 0 rfl rfl 2 (by decide) k13 (v := .ref (a 2)) rfl dX5_takeRoot_10 ?_
  refine lv_iconst (v := 4) hx hb dX5_takeRoot_13 (by decide) ?_
  refine lv_iload_n hx hb dX5_takeRoot_14 rfl (lv_at hl 2 rfl) ?_
  refine lv_iadd hx hb dX5_takeRoot_15 ?_
  refine lv_aload_n hx hb dX5_takeRoot_16 rfl (lv_at hl 1 rfl) ?_
  refine lv_aload_n hx hb dX5_takeRoot_17 rfl (lv_at hl 1 rfl) ?_
  refine lv_iload_n hx hb dX5_takeRoot_18 rfl (lv_at hl 0 rfl) ?_
  obtain ⟨r2, q3, hf⟩ := cl1_e hf
  refine x_callVi (pre := ([] : va_W)) (wc := WM κ a uv) (wc1 := WM κ a uv) (post := ([] : va_W)) (As := [.int v1]) (rest := [.ref (a 0), .int (4 + p1), .ref (a 2)]) (w1 := WM κ a uv) ⟨hx, hb, hml, hown, hts⟩ hK hG hA (by simp only [List.append_assoc, List.nil_append, List.append_nil]) (by simp only [List.append_assoc, List.nil_append, List.append_nil]) (c_X5_left l D κ a H.size v1 uv r2 q3) (cwV 1 hts gX5_takeRoot_X5_left rfl rfl rfl (by decide +kernel) ⟨Nat.le_of_ble_eq_true rfl, Nat.le_of_ble_eq_true rfl⟩) 0 5 rfl rfl rfl rfl hl.1 rfl (Nat.le_of_ble_eq_true rfl) dX5_takeRoot_19 ⟨Nat.zero_le _, Nat.zero_le _⟩ (fun H locs hG => ?_)
  refine lv_aload_n hx hb dX5_takeRoot_22 rfl (lv_at hl 1 rfl) ?_
  refine lv_iload_n hx hb dX5_takeRoot_23 rfl (lv_at hl 0 rfl) ?_
  obtain ⟨r4, q5, hf⟩ := cl1_e hf
  refine x_callVi (pre := ([] : va_W)) (wc := WM κ a uv) (wc1 := WM κ a uv) (post := ([] : va_W)) (As := [.int v1]) (rest := [.int r2, .ref (a 0), .int (4 + p1), .ref (a 2)]) (w1 := WM κ a uv) ⟨hx, hb, hml, hown, hts⟩ hK hG hA (by simp only [List.append_assoc, List.nil_append, List.append_nil]) (by simp only [List.append_assoc, List.nil_append, List.append_nil]) (c_X5_right l D κ a H.size v1 uv r4 q5) (cwV 1 hts gX5_takeRoot_X5_right rfl rfl rfl (by decide +kernel) ⟨Nat.le_of_ble_eq_true rfl, Nat.le_of_ble_eq_true rfl⟩) 0 5 rfl rfl rfl rfl hl.1 rfl (Nat.le_of_ble_eq_true rfl) dX5_takeRoot_24 ⟨Nat.zero_le _, Nat.zero_le _⟩ (fun H locs hG => ?_)
  obtain ⟨r6, uv7, q8, hf⟩ := cl2_e hf
  refine x_callVi (pre := ([] : va_W)) (wc := WM κ a uv) (wc1 := WM κ a uv7) (post := ([] : va_W)) (As := [.int r2, .int r4]) (rest := [.int (4 + p1), .ref (a 2)]) (w1 := WM κ a uv7) ⟨hx, hb, hml, hown, hts⟩ hK hG hA (by simp only [List.append_assoc, List.nil_append, List.append_nil]) (by simp only [List.append_assoc, List.nil_append, List.append_nil]) (c_X5_meldTrees l D κ a H.size r2 r4 uv r6 uv7 q8) (cwV 2 hts gX5_takeRoot_X5_meldTrees rfl rfl rfl (by decide +kernel) ⟨Nat.le_of_ble_eq_true rfl, Nat.le_of_ble_eq_true rfl⟩) 0 5 rfl rfl rfl rfl hl.1 rfl (Nat.le_of_ble_eq_true rfl) dX5_takeRoot_27 ⟨Nat.zero_le _, Nat.zero_le _⟩ (fun H locs hG => ?_)
  obtain ⟨uv9, euv9, hin, hf⟩ := ck_e hf
  refine x_iast hx hb hK hG 2 rfl (w1 := WM κ a uv9) (by rw [euv9]; rfl) hin dX5_takeRoot_30 (fun H locs hG => ?_)
  refine lv_iload_n hx hb dX5_takeRoot_31 rfl (lv_at hl 0 rfl) ?_
  have hz := Option.some.inj hf
  have z0 := (Prod.mk.inj hz).1
  replace hz := (Prod.mk.inj hz).2
  have z1 := hz
  exact x_iret hx hb hr hlk hK hG z0 (by rw [z1]) dX5_takeRoot_32
set_option maxRecDepth 100000 in
set_option maxHeartbeats 4000000 in
theorem c_X5_goes (l : Launch) (D : va_G) (κ : Nat → ClassId) (a : Nat → Nat) (sz : Nat) (p1 : Int32) (uv : MS)  (uv' : MS) (hf : f_X5_goes p1 uv = some (uv')) : Met l yX5_goes wsX5_goes ({ frames := 1, cells := 0, slots := 0, locals := 20 } : Room) (xPc D κ [.ref (a 0), .int p1] (WM κ a uv) sz) (xQv D κ (WM κ a uv') (va_A (WM κ a uv) sz)) 0 0 (va_A (WM κ a uv) sz) := by
  refine x_ofW (cc := cX5_goes) (maxL := 2) (ret := none) (Qf := fun A => xQv D κ (WM κ a uv') A) (by decide) rfl (Nat.le_of_ble_eq_true rfl) ?_
  intro p e s m below meth c hx hb hr hlk hml hown hts hK A hA H locs hG ls hl
  have hown : s.vm.findClass RX5 = some m.cls := hown
  have hl : lv_has ls 2 [(0, .ref (a 0)), (1, .int p1)] := hl
  have iX5 : ∀ w ∈ u_ws RX5 TX5 27, w ∈ wsX5_goes := fun _ h => List.mem_cons_of_mem _ (List.mem_append_right _ h)
  have k13 := hts (.fieldLink RX5 13 "SpineDesksModel" "row" "[I") (List.mem_of_getElem? (i := 1) rfl)
  unfold f_X5_goes at hf
  refine lv_aload_n hx hb dX5_goes_0 rfl (lv_at hl 0 rfl) ?_
  refine x_get (C := RX5) (T := TX5) (N := 27) (ci := 5) hx hb hts iX5 hown hK hG 0 rfl rfl 2 (by decide) k13 (v := .ref (a 2)) rfl dX5_goes_1 ?_
  refine lv_iload_n hx hb dX5_goes_4 rfl (lv_at hl 1 rfl) ?_
  obtain ⟨r1, q2, hf⟩ := cl1_e hf
  refine x_callSi (pre := ([] : va_W)) (wc := ([] : va_W)) (wc1 := ([] : va_W)) (post := WM κ a uv) (As := [.int p1]) (rest := [.ref (a 2)]) (w1 := WM κ a uv) ⟨hx, hb, hml, hown, hts⟩ hK hG hA (by simp only [List.append_assoc, List.nil_append, List.append_nil]) (by simp only [List.append_assoc, List.nil_append, List.append_nil]) (c_X5_at l D κ a H.size p1 r1 q2) (va_cwS 1 hts gX5_goes_X5_at rfl rfl rfl (by decide +kernel) ⟨Nat.le_of_ble_eq_true rfl, Nat.le_of_ble_eq_true rfl⟩) rfl hl.1 rfl (Nat.le_of_ble_eq_true rfl) dX5_goes_5 ⟨Nat.zero_le _, Nat.zero_le _⟩ (fun H locs hG => ?_)
  refine lv_iconst (v := 1) hx hb dX5_goes_8 (by decide) ?_
  refine lv_iadd hx hb dX5_goes_9 ?_
  refine lv_iconst (v := (-1)) hx hb dX5_goes_10 (by decide) ?_
  obtain ⟨uv3, euv3, hin, hf⟩ := ck_e hf
  refine x_iast hx hb hK hG 2 rfl (w1 := WM κ a uv3) (by rw [euv3]; rfl) hin dX5_goes_11 (fun H locs hG => ?_)
  have z0 := Option.some.inj hf
  exact x_vret hx hb hr hlk hK hG (by rw [z0]) dX5_goes_12
set_option maxRecDepth 100000 in
set_option maxHeartbeats 4000000 in
theorem c_X5_sweep (l : Launch) (D : va_G) (κ : Nat → ClassId) (a : Nat → Nat) (sz : Nat)  (uv : MS)  (uv' : MS) (hf : f_X5_sweep uv = some (uv')) : Met l yX5_sweep wsX5_sweep ({ frames := 5, cells := 0, slots := 0, locals := 114 } : Room) (xPc D κ [.ref (a 0)] (WM κ a uv) sz) (xQv D κ (WM κ a uv') (va_A (WM κ a uv) sz)) 0 0 (va_A (WM κ a uv) sz) := by
  refine x_ofW (cc := cX5_sweep) (maxL := 2) (ret := none) (Qf := fun A => xQv D κ (WM κ a uv') A) (by decide) rfl (Nat.le_of_ble_eq_true rfl) ?_
  intro p e s m below meth c hx hb hr hlk hml hown hts hK A hA H locs hG ls hl
  have hown : s.vm.findClass RX5 = some m.cls := hown
  have hl : lv_has ls 2 [(0, .ref (a 0))] := hl
  have iX5 : ∀ w ∈ u_ws RX5 TX5 27, w ∈ wsX5_sweep := fun _ h => List.mem_cons_of_mem _ (List.mem_append_right _ h)
  have k13 := hts (.fieldLink RX5 13 "SpineDesksModel" "row" "[I") (List.mem_of_getElem? (i := 1) rfl)
  have L64 : ∀ (rec2 : Int32 → MS → Option (MS)) (hr2 : ∀ (y1 : Int32) (uv : MS), rec2 y1 uv = some (uv') → ∀ (H : Heap) (locs : List Loc) (ls : Array Slot), xG D A s.heap (WM κ a uv) H locs → lv_has ls 2 [(0, .ref (a 0)), (1, .int y1)] → W p l e ({ frames := 5, cells := 0, slots := 0, locals := 114 } : Room) s m (([.ref (a 0)] : List Value).toArray) below meth c H locs 0 0 (MQ below (xQv D κ (WM κ a uv') A) (([.ref (a 0)] : List Value).toArray) s 0 0 A) (F0 m 2 ls [])), ∀ (x1 : Int32) (uv : MS), f_X5_sweep_64 rec2 x1 uv = some (uv') → ∀ (H : Heap) (locs : List Loc) (ls : Array Slot), xG D A s.heap (WM κ a uv) H locs → lv_has ls 2 [(0, .ref (a 0)), (1, .int x1)] → W p l e ({ frames := 5, cells := 0, slots := 0, locals := 114 } : Room) s m (([.ref (a 0)] : List Value).toArray) below meth c H locs 0 0 (MQ below (xQv D κ (WM κ a uv') A) (([.ref (a 0)] : List Value).toArray) s 0 0 A) (F0 m 64 ls []) := by
    intro rec2 hr2 x1 uv hf H locs ls hG hl
    unfold f_X5_sweep_64 at hf
    obtain ⟨y1, ey1, hf⟩ := bnd_e hf
    refine lv_iinc (v := y1) (lv' := [(1, .int y1), (0, .ref (a 0))]) hx hb dX5_sweep_64 hl (k := 1) rfl (by rw [ey1]; rfl) (by decide) rfl (fun ls hl => ?_)
    refine lv_goto (tgt := 2) hx hb dX5_sweep_67 (by decide) ?_
    exact hr2 y1 uv hf H locs ls hG (lv_sub hl [1, 0] rfl)
  have L8 : ∀ (rec2 : Int32 → MS → Option (MS)) (hr2 : ∀ (y1 : Int32) (uv : MS), rec2 y1 uv = some (uv') → ∀ (H : Heap) (locs : List Loc) (ls : Array Slot), xG D A s.heap (WM κ a uv) H locs → lv_has ls 2 [(0, .ref (a 0)), (1, .int y1)] → W p l e ({ frames := 5, cells := 0, slots := 0, locals := 114 } : Room) s m (([.ref (a 0)] : List Value).toArray) below meth c H locs 0 0 (MQ below (xQv D κ (WM κ a uv') A) (([.ref (a 0)] : List Value).toArray) s 0 0 A) (F0 m 2 ls [])), ∀ (n : Nat), ∀ (x1 : Int32) (uv : MS), f_X5_sweep_8 rec2 n x1 uv = some (uv') → ∀ (H : Heap) (locs : List Loc) (ls : Array Slot), xG D A s.heap (WM κ a uv) H locs → lv_has ls 2 [(0, .ref (a 0)), (1, .int x1)] → W p l e ({ frames := 5, cells := 0, slots := 0, locals := 114 } : Room) s m (([.ref (a 0)] : List Value).toArray) below meth c H locs 0 0 (MQ below (xQv D κ (WM κ a uv') A) (([.ref (a 0)] : List Value).toArray) s 0 0 A) (F0 m 8 ls []) := by
    intro rec2 hr2 n
    induction n with
    | zero => intro x1 uv hf; cases hf
    | succ n ih =>
      intro x1 uv hf H locs ls hG hl
      replace hf : f_X5_sweep_B8 rec2 (f_X5_sweep_8 rec2 n) x1 uv = some (uv') := hf
      unfold f_X5_sweep_B8 at hf
      refine lv_aload_n hx hb dX5_sweep_8 rfl (lv_at hl 0 rfl) ?_
      refine x_get (C := RX5) (T := TX5) (N := 27) (ci := 5) hx hb hts iX5 hown hK hG 0 rfl rfl 2 (by decide) k13 (v := .ref (a 2)) rfl dX5_sweep_9 ?_
      refine lv_iconst (v := 4) hx hb dX5_sweep_12 (by decide) ?_
      refine lv_iload_n hx hb dX5_sweep_13 rfl (lv_at hl 1 rfl) ?_
      refine lv_iadd hx hb dX5_sweep_14 ?_
      obtain ⟨v2, ev2, hin, hf⟩ := ck_e hf
      refine x_iald hx hb hK hG 2 rfl ev2 hin dX5_sweep_15 ?_
      refine lv_iconst (v := (-1)) hx hb dX5_sweep_16 (by decide) ?_
      refine lv_icmp_eq (tgt := 64) hx hb dX5_sweep_17 (by decide) (fun c3 => ?_) (fun c3 => ?_)
      · replace hf := if_t c3 hf
        exact L64 rec2 hr2  x1 uv hf H locs ls hG (lv_sub hl [0, 1] rfl)
      · replace hf := if_f c3 hf
        refine lv_aload_n hx hb dX5_sweep_20 rfl (lv_at hl 0 rfl) ?_
        refine x_get (C := RX5) (T := TX5) (N := 27) (ci := 5) hx hb hts iX5 hown hK hG 0 rfl rfl 2 (by decide) k13 (v := .ref (a 2)) rfl dX5_sweep_21 ?_
        refine lv_aload_n hx hb dX5_sweep_24 rfl (lv_at hl 0 rfl) ?_
        refine x_get (C := RX5) (T := TX5) (N := 27) (ci := 5) hx hb hts iX5 hown hK hG 0 rfl rfl 2 (by decide) k13 (v := .ref (a 2)) rfl dX5_sweep_25 ?_
        refine lv_iconst (v := 4) hx hb dX5_sweep_28 (by decide) ?_
        refine lv_iload_n hx hb dX5_sweep_29 rfl (lv_at hl 1 rfl) ?_
        refine lv_iadd hx hb dX5_sweep_30 ?_
        obtain ⟨v4, ev4, hin, hf⟩ := ck_e hf
        refine x_iald hx hb hK hG 2 rfl ev4 hin dX5_sweep_31 ?_
        obtain ⟨r5, q6, hf⟩ := cl1_e hf
        refine x_callSi (pre := ([] : va_W)) (wc := ([] : va_W)) (wc1 := ([] : va_W)) (post := WM κ a uv) (As := [.int v4]) (rest := [.ref (a 2)]) (w1 := WM κ a uv) ⟨hx, hb, hml, hown, hts⟩ hK hG hA (by simp only [List.append_assoc, List.nil_append, List.append_nil]) (by simp only [List.append_assoc, List.nil_append, List.append_nil]) (c_X5_at l D κ a H.size v4 r5 q6) (va_cwS 1 hts gX5_sweep_X5_at rfl rfl rfl (by decide +kernel) ⟨Nat.le_of_ble_eq_true rfl, Nat.le_of_ble_eq_true rfl⟩) rfl hl.1 rfl (Nat.le_of_ble_eq_true rfl) dX5_sweep_32 ⟨Nat.zero_le _, Nat.zero_le _⟩ (fun H locs hG => ?_)
        refine lv_iconst (v := 2) hx hb dX5_sweep_35 (by decide) ?_
        refine lv_iadd hx hb dX5_sweep_36 ?_
        obtain ⟨v7, ev7, hin, hf⟩ := ck_e hf
        refine x_iald hx hb hK hG 2 rfl ev7 hin dX5_sweep_37 ?_
        refine lv_iconst (v := 1) hx hb dX5_sweep_38 (by decide) ?_
        refine lv_icmp_ne (tgt := 64) hx hb dX5_sweep_39 (by decide) (fun c8 => ?_) (fun c8 => ?_)
        · replace hf := if_f c8 hf
          exact L64 rec2 hr2  x1 uv hf H locs ls hG (lv_sub hl [0, 1] rfl)
        · replace hf := if_t c8 hf
          refine lv_aload_n hx hb dX5_sweep_42 rfl (lv_at hl 0 rfl) ?_
          refine lv_aload_n hx hb dX5_sweep_43 rfl (lv_at hl 0 rfl) ?_
          refine lv_iload_n hx hb dX5_sweep_44 rfl (lv_at hl 1 rfl) ?_
          obtain ⟨r9, uv10, q11, hf⟩ := cl2_e hf
          refine x_callVi (pre := ([] : va_W)) (wc := WM κ a uv) (wc1 := WM κ a uv10) (post := ([] : va_W)) (As := [.int x1]) (rest := [.ref (a 0)]) (w1 := WM κ a uv10) ⟨hx, hb, hml, hown, hts⟩ hK hG hA (by simp only [List.append_assoc, List.nil_append, List.append_nil]) (by simp only [List.append_assoc, List.nil_append, List.append_nil]) (c_X5_takeRoot l D κ a H.size x1 uv r9 uv10 q11) (cwV 1 hts gX5_sweep_X5_takeRoot rfl rfl rfl (by decide +kernel) ⟨Nat.le_of_ble_eq_true rfl, Nat.le_of_ble_eq_true rfl⟩) 0 5 rfl rfl rfl rfl hl.1 rfl (Nat.le_of_ble_eq_true rfl) dX5_sweep_45 ⟨Nat.zero_le _, Nat.zero_le _⟩ (fun H locs hG => ?_)
          obtain ⟨uv12, q13, hf⟩ := cl1_e hf
          refine x_callVv (pre := ([] : va_W)) (wc := WM κ a uv10) (wc1 := WM κ a uv12) (post := ([] : va_W)) (As := [.int r9]) (rest := []) (w1 := WM κ a uv12) ⟨hx, hb, hml, hown, hts⟩ hK hG hA (by simp only [List.append_assoc, List.nil_append, List.append_nil]) (by simp only [List.append_assoc, List.nil_append, List.append_nil]) (c_X5_goes l D κ a H.size r9 uv10 uv12 q13) (cwV 1 hts gX5_sweep_X5_goes rfl rfl rfl (by decide +kernel) ⟨Nat.le_of_ble_eq_true rfl, Nat.le_of_ble_eq_true rfl⟩) 0 5 rfl rfl rfl rfl hl.1 rfl (Nat.le_of_ble_eq_true rfl) dX5_sweep_48 ⟨Nat.zero_le _, Nat.zero_le _⟩ (fun H locs hG => ?_)
          refine lv_aload_n hx hb dX5_sweep_51 rfl (lv_at hl 0 rfl) ?_
          refine x_get (C := RX5) (T := TX5) (N := 27) (ci := 5) hx hb hts iX5 hown hK hG 0 rfl rfl 2 (by decide) k13 (v := .ref (a 2)) rfl dX5_sweep_52 ?_
          refine lv_iconst (v := 3) hx hb dX5_sweep_55 (by decide) ?_
          refine lv_dup2_11 hx hb dX5_sweep_56 rfl rfl ?_
          obtain ⟨v14, ev14, hin, hf⟩ := ck_e hf
          refine x_iald hx hb hK hG 2 rfl ev14 hin dX5_sweep_57 ?_
          refine lv_iconst (v := 1) hx hb dX5_sweep_58 (by decide) ?_
          refine lv_iadd hx hb dX5_sweep_59 ?_
          obtain ⟨uv15, euv15, hin, hf⟩ := ck_e hf
          refine x_iast hx hb hK hG 2 rfl (w1 := WM κ a uv15) (by rw [euv15]; rfl) hin dX5_sweep_60 (fun H locs hG => ?_)
          refine lv_goto (tgt := 8) hx hb dX5_sweep_61 (by decide) ?_
          exact ih x1 uv15 hf H locs ls hG (lv_sub hl [0, 1] rfl)
  have L2 : ∀ (n : Nat), ∀ (x1 : Int32) (uv : MS), f_X5_sweep_2 n x1 uv = some (uv') → ∀ (H : Heap) (locs : List Loc) (ls : Array Slot), xG D A s.heap (WM κ a uv) H locs → lv_has ls 2 [(0, .ref (a 0)), (1, .int x1)] → W p l e ({ frames := 5, cells := 0, slots := 0, locals := 114 } : Room) s m (([.ref (a 0)] : List Value).toArray) below meth c H locs 0 0 (MQ below (xQv D κ (WM κ a uv') A) (([.ref (a 0)] : List Value).toArray) s 0 0 A) (F0 m 2 ls []) := by
    intro  n
    induction n with
    | zero => intro x1 uv hf; cases hf
    | succ n ih =>
      intro x1 uv hf H locs ls hG hl
      replace hf : f_X5_sweep_B2 (f_X5_sweep_2 n) x1 uv = some (uv') := hf
      unfold f_X5_sweep_B2 at hf
      refine lv_iload_n hx hb dX5_sweep_2 rfl (lv_at hl 1 rfl) ?_
      refine lv_bipush (v := 6) hx hb dX5_sweep_3 (by decide) ?_
      refine lv_icmp_ge (tgt := 70) hx hb dX5_sweep_5 (by decide) (fun c16 => ?_) (fun c16 => ?_)
      · replace hf := if_t c16 hf
        have z0 := Option.some.inj hf
        exact x_vret hx hb hr hlk hK hG (by rw [z0]) dX5_sweep_70
      · replace hf := if_f c16 hf
        exact L8 (f_X5_sweep_2 n) ih FU x1 uv hf H locs ls hG (lv_sub hl [0, 1] rfl)
  unfold f_X5_sweep at hf
  refine lv_iconst (v := 0) hx hb dX5_sweep_0 (by decide) ?_
  refine lv_istore_n (lv' := [(1, .int 0), (0, .ref (a 0))]) hx hb dX5_sweep_1 rfl hl (by decide) rfl (fun ls hl => ?_)
  exact L2  FU 0 uv hf H locs ls hG (lv_sub hl [1, 0] rfl)
set_option maxRecDepth 100000 in
set_option maxHeartbeats 4000000 in
theorem c_X5_cutOut (l : Launch) (D : va_G) (κ : Nat → ClassId) (a : Nat → Nat) (sz : Nat) (p1 : Int32) (uv : MS)  (uv' : MS) (hf : f_X5_cutOut p1 uv = some (uv')) : Met l yX5_cutOut wsX5_cutOut ({ frames := 4, cells := 0, slots := 0, locals := 92 } : Room) (xPc D κ [.ref (a 0), .int p1] (WM κ a uv) sz) (xQv D κ (WM κ a uv') (va_A (WM κ a uv) sz)) 0 0 (va_A (WM κ a uv) sz) := by
  refine x_ofW (cc := cX5_cutOut) (maxL := 6) (ret := none) (Qf := fun A => xQv D κ (WM κ a uv') A) (by decide) rfl (Nat.le_of_ble_eq_true rfl) ?_
  intro p e s m below meth c hx hb hr hlk hml hown hts hK A hA H locs hG ls hl
  have hown : s.vm.findClass RX5 = some m.cls := hown
  have hl : lv_has ls 6 [(0, .ref (a 0)), (1, .int p1)] := hl
  have iX5 : ∀ w ∈ u_ws RX5 TX5 27, w ∈ wsX5_cutOut := fun _ h => List.mem_cons_of_mem _ (List.mem_append_right _ h)
  have k13 := hts (.fieldLink RX5 13 "SpineDesksModel" "row" "[I") (List.mem_of_getElem? (i := 1) rfl)
  have L104 : ∀ (n : Nat), ∀ (x5 : Int32) (uv : MS), f_X5_cutOut_104 n x5 uv = some (uv') → ∀ (H : Heap) (locs : List Loc) (ls : Array Slot), xG D A s.heap (WM κ a uv) H locs → lv_has ls 6 [(0, .ref (a 0)), (5, .int x5)] → W p l e ({ frames := 4, cells := 0, slots := 0, locals := 92 } : Room) s m (([.ref (a 0), .int p1] : List Value).toArray) below meth c H locs 0 0 (MQ below (xQv D κ (WM κ a uv') A) (([.ref (a 0), .int p1] : List Value).toArray) s 0 0 A) (F0 m 104 ls []) := by
    intro  n
    induction n with
    | zero => intro x5 uv hf; cases hf
    | succ n ih =>
      intro x5 uv hf H locs ls hG hl
      replace hf : f_X5_cutOut_B104 (f_X5_cutOut_104 n) x5 uv = some (uv') := hf
      unfold f_X5_cutOut_B104 at hf
      refine lv_iload hx hb dX5_cutOut_104 (lv_at hl 1 rfl) ?_
      refine lv_iconst (v := (-1)) hx hb dX5_cutOut_106 (by decide) ?_
      refine lv_icmp_eq (tgt := 133) hx hb dX5_cutOut_107 (by decide) (fun c1 => ?_) (fun c1 => ?_)
      · replace hf := if_t c1 hf
        have z0 := Option.some.inj hf
        exact x_vret hx hb hr hlk hK hG (by rw [z0]) dX5_cutOut_133
      · replace hf := if_f c1 hf
        refine lv_aload_n hx hb dX5_cutOut_110 rfl (lv_at hl 0 rfl) ?_
        refine lv_iload hx hb dX5_cutOut_111 (lv_at hl 1 rfl) ?_
        obtain ⟨uv2, q3, hf⟩ := cl1_e hf
        refine x_callVv (pre := ([] : va_W)) (wc := WM κ a uv) (wc1 := WM κ a uv2) (post := ([] : va_W)) (As := [.int x5]) (rest := []) (w1 := WM κ a uv2) ⟨hx, hb, hml, hown, hts⟩ hK hG hA (by simp only [List.append_assoc, List.nil_append, List.append_nil]) (by simp only [List.append_assoc, List.nil_append, List.append_nil]) (c_X5_settle l D κ a H.size x5 uv uv2 q3) (cwV 1 hts gX5_cutOut_X5_settle rfl rfl rfl (by decide +kernel) ⟨Nat.le_of_ble_eq_true rfl, Nat.le_of_ble_eq_true rfl⟩) 0 5 rfl rfl rfl rfl hl.1 rfl (Nat.le_of_ble_eq_true rfl) dX5_cutOut_113 ⟨Nat.zero_le _, Nat.zero_le _⟩ (fun H locs hG => ?_)
        refine lv_aload_n hx hb dX5_cutOut_116 rfl (lv_at hl 0 rfl) ?_
        refine x_get (C := RX5) (T := TX5) (N := 27) (ci := 5) hx hb hts iX5 hown hK hG 0 rfl rfl 2 (by decide) k13 (v := .ref (a 2)) rfl dX5_cutOut_117 ?_
        refine lv_iload hx hb dX5_cutOut_120 (lv_at hl 1 rfl) ?_
        obtain ⟨r4, q5, hf⟩ := cl1_e hf
        refine x_callSi (pre := ([] : va_W)) (wc := ([] : va_W)) (wc1 := ([] : va_W)) (post := WM κ a uv2) (As := [.int x5]) (rest := [.ref (a 2)]) (w1 := WM κ a uv2) ⟨hx, hb, hml, hown, hts⟩ hK hG hA (by simp only [List.append_assoc, List.nil_append, List.append_nil]) (by simp only [List.append_assoc, List.nil_append, List.append_nil]) (c_X5_at l D κ a H.size x5 r4 q5) (va_cwS 1 hts gX5_cutOut_X5_at rfl rfl rfl (by decide +kernel) ⟨Nat.le_of_ble_eq_true rfl, Nat.le_of_ble_eq_true rfl⟩) rfl hl.1 rfl (Nat.le_of_ble_eq_true rfl) dX5_cutOut_122 ⟨Nat.zero_le _, Nat.zero_le _⟩ (fun H locs hG => ?_)
        refine lv_iconst (v := 5) hx hb dX5_cutOut_125 (by decide) ?_
        refine lv_iadd hx hb dX5_cutOut_126 ?_
        obtain ⟨v6, ev6, hin, hf⟩ := ck_e hf
        refine x_iald hx hb hK hG 2 rfl ev6 hin dX5_cutOut_127 ?_
        refine lv_istore (lv' := [(5, .int v6), (0, .ref (a 0))]) hx hb dX5_cutOut_128 hl (by decide) rfl (fun ls hl => ?_)
        refine lv_goto (tgt := 104) hx hb dX5_cutOut_130 (by decide) ?_
        exact ih v6 uv2 hf H locs ls hG (lv_sub hl [1, 0] rfl)
  have L94 : ∀ (x3 : Int32) (x4 : Int32) (uv : MS), f_X5_cutOut_94 x3 x4 uv = some (uv') → ∀ (H : Heap) (locs : List Loc) (ls : Array Slot), xG D A s.heap (WM κ a uv) H locs → lv_has ls 6 [(0, .ref (a 0)), (3, .int x3), (4, .int x4)] → W p l e ({ frames := 4, cells := 0, slots := 0, locals := 92 } : Room) s m (([.ref (a 0), .int p1] : List Value).toArray) below meth c H locs 0 0 (MQ below (xQv D κ (WM κ a uv') A) (([.ref (a 0), .int p1] : List Value).toArray) s 0 0 A) (F0 m 94 ls []) := by
    intro  x3 x4 uv hf H locs ls hG hl
    unfold f_X5_cutOut_94 at hf
    refine lv_aload_n hx hb dX5_cutOut_94 rfl (lv_at hl 0 rfl) ?_
    refine lv_iload hx hb dX5_cutOut_95 (lv_at hl 2 rfl) ?_
    refine lv_iload_n hx hb dX5_cutOut_97 rfl (lv_at hl 1 rfl) ?_
    obtain ⟨uv7, q8, hf⟩ := cl1_e hf
    refine x_callVv (pre := ([] : va_W)) (wc := WM κ a uv) (wc1 := WM κ a uv7) (post := ([] : va_W)) (As := [.int x4, .int x3]) (rest := []) (w1 := WM κ a uv7) ⟨hx, hb, hml, hown, hts⟩ hK hG hA (by simp only [List.append_assoc, List.nil_append, List.append_nil]) (by simp only [List.append_assoc, List.nil_append, List.append_nil]) (c_X5_setAbove l D κ a H.size x4 x3 uv uv7 q8) (cwV 2 hts gX5_cutOut_X5_setAbove rfl rfl rfl (by decide +kernel) ⟨Nat.le_of_ble_eq_true rfl, Nat.le_of_ble_eq_true rfl⟩) 0 5 rfl rfl rfl rfl hl.1 rfl (Nat.le_of_ble_eq_true rfl) dX5_cutOut_98 ⟨Nat.zero_le _, Nat.zero_le _⟩ (fun H locs hG => ?_)
    refine lv_iload_n hx hb dX5_cutOut_101 rfl (lv_at hl 1 rfl) ?_
    refine lv_istore (lv' := [(5, .int x3), (0, .ref (a 0)), (3, .int x3), (4, .int x4)]) hx hb dX5_cutOut_102 hl (by decide) rfl (fun ls hl => ?_)
    exact L104  FU x3 uv7 hf H locs ls hG (lv_sub hl [1, 0] rfl)
  unfold f_X5_cutOut at hf
  refine lv_aload_n hx hb dX5_cutOut_0 rfl (lv_at hl 0 rfl) ?_
  refine x_get (C := RX5) (T := TX5) (N := 27) (ci := 5) hx hb hts iX5 hown hK hG 0 rfl rfl 2 (by decide) k13 (v := .ref (a 2)) rfl dX5_cutOut_1 ?_
  refine lv_iload_n hx hb dX5_cutOut_4 rfl (lv_at hl 1 rfl) ?_
  obtain ⟨r9, q10, hf⟩ := cl1_e hf
  refine x_callSi (pre := ([] : va_W)) (wc := ([] : va_W)) (wc1 := ([] : va_W)) (post := WM κ a uv) (As := [.int p1]) (rest := [.ref (a 2)]) (w1 := WM κ a uv) ⟨hx, hb, hml, hown, hts⟩ hK hG hA (by simp only [List.append_assoc, List.nil_append, List.append_nil]) (by simp only [List.append_assoc, List.nil_append, List.append_nil]) (c_X5_at l D κ a H.size p1 r9 q10) (va_cwS 1 hts gX5_cutOut_X5_at rfl rfl rfl (by decide +kernel) ⟨Nat.le_of_ble_eq_true rfl, Nat.le_of_ble_eq_true rfl⟩) rfl hl.1 rfl (Nat.le_of_ble_eq_true rfl) dX5_cutOut_5 ⟨Nat.zero_le _, Nat.zero_le _⟩ (fun H locs hG => ?_)
  refine lv_iconst (v := 1) hx hb dX5_cutOut_8 (by decide) ?_
  refine lv_iadd hx hb dX5_cutOut_9 ?_
  obtain ⟨v11, ev11, hin, hf⟩ := ck_e hf
  refine x_iald hx hb hK hG 2 rfl ev11 hin dX5_cutOut_10 ?_
  refine lv_istore_n (lv' := [(2, .int v11), (0, .ref (a 0)), (1, .int p1)]) hx hb dX5_cutOut_11 rfl hl (by decide) rfl (fun ls hl => ?_)
  refine lv_aload_n hx hb dX5_cutOut_12 rfl (lv_at hl 1 rfl) ?_
  refine x_get (C := RX5) (T := TX5) (N := 27) (ci := 5) hx hb hts iX5 hown hK hG 0 rfl rfl 2 (by decide) k13 (v := .ref (a 2)) rfl dX5_cutOut_13 ?_
  refine lv_iload_n hx hb dX5_cutOut_16 rfl (lv_at hl 2 rfl) ?_
  obtain ⟨r12, q13, hf⟩ := cl1_e hf
  refine x_callSi (pre := ([] : va_W)) (wc := ([] : va_W)) (wc1 := ([] : va_W)) (post := WM κ a uv) (As := [.int p1]) (rest := [.ref (a 2)]) (w1 := WM κ a uv) ⟨hx, hb, hml, hown, hts⟩ hK hG hA (by simp only [List.append_assoc, List.nil_append, List.append_nil]) (by simp only [List.append_assoc, List.nil_append, List.append_nil]) (c_X5_at l D κ a H.size p1 r12 q13) (va_cwS 1 hts gX5_cutOut_X5_at rfl rfl rfl (by decide +kernel) ⟨Nat.le_of_ble_eq_true rfl, Nat.le_of_ble_eq_true rfl⟩) rfl hl.1 rfl (Nat.le_of_ble_eq_true rfl) dX5_cutOut_17 ⟨Nat.zero_le _, Nat.zero_le _⟩ (fun H locs hG => ?_)
  refine lv_iconst (v := 5) hx hb dX5_cutOut_20 (by decide) ?_
  refine lv_iadd hx hb dX5_cutOut_21 ?_
  obtain ⟨v14, ev14, hin, hf⟩ := ck_e hf
  refine x_iald hx hb hK hG 2 rfl ev14 hin dX5_cutOut_22 ?_
  refine lv_istore_n (lv' := [(3, .int v14), (2, .int v11), (0, .ref (a 0)), (1, .int p1)]) hx hb dX5_cutOut_23 rfl hl (by decide) rfl (fun ls hl => ?_)
  refine lv_aload_n hx hb dX5_cutOut_24 rfl (lv_at hl 2 rfl) ?_
  refine lv_aload_n hx hb dX5_cutOut_25 rfl (lv_at hl 2 rfl) ?_
  refine lv_iload_n hx hb dX5_cutOut_26 rfl (lv_at hl 3 rfl) ?_
  obtain ⟨r15, q16, hf⟩ := cl1_e hf
  refine x_callVi (pre := ([] : va_W)) (wc := WM κ a uv) (wc1 := WM κ a uv) (post := ([] : va_W)) (As := [.int p1]) (rest := [.ref (a 0)]) (w1 := WM κ a uv) ⟨hx, hb, hml, hown, hts⟩ hK hG hA (by simp only [List.append_assoc, List.nil_append, List.append_nil]) (by simp only [List.append_assoc, List.nil_append, List.append_nil]) (c_X5_left l D κ a H.size p1 uv r15 q16) (cwV 1 hts gX5_cutOut_X5_left rfl rfl rfl (by decide +kernel) ⟨Nat.le_of_ble_eq_true rfl, Nat.le_of_ble_eq_true rfl⟩) 0 5 rfl rfl rfl rfl hl.1 rfl (Nat.le_of_ble_eq_true rfl) dX5_cutOut_27 ⟨Nat.zero_le _, Nat.zero_le _⟩ (fun H locs hG => ?_)
  refine lv_aload_n hx hb dX5_cutOut_30 rfl (lv_at hl 2 rfl) ?_
  refine lv_iload_n hx hb dX5_cutOut_31 rfl (lv_at hl 3 rfl) ?_
  obtain ⟨r17, q18, hf⟩ := cl1_e hf
  refine x_callVi (pre := ([] : va_W)) (wc := WM κ a uv) (wc1 := WM κ a uv) (post := ([] : va_W)) (As := [.int p1]) (rest := [.int r15, .ref (a 0)]) (w1 := WM κ a uv) ⟨hx, hb, hml, hown, hts⟩ hK hG hA (by simp only [List.append_assoc, List.nil_append, List.append_nil]) (by simp only [List.append_assoc, List.nil_append, List.append_nil]) (c_X5_right l D κ a H.size p1 uv r17 q18) (cwV 1 hts gX5_cutOut_X5_right rfl rfl rfl (by decide +kernel) ⟨Nat.le_of_ble_eq_true rfl, Nat.le_of_ble_eq_true rfl⟩) 0 5 rfl rfl rfl rfl hl.1 rfl (Nat.le_of_ble_eq_true rfl) dX5_cutOut_32 ⟨Nat.zero_le _, Nat.zero_le _⟩ (fun H locs hG => ?_)
  obtain ⟨r19, uv20, q21, hf⟩ := cl2_e hf
  refine x_callVi (pre := ([] : va_W)) (wc := WM κ a uv) (wc1 := WM κ a uv20) (post := ([] : va_W)) (As := [.int r15, .int r17]) (rest := []) (w1 := WM κ a uv20) ⟨hx, hb, hml, hown, hts⟩ hK hG hA (by simp only [List.append_assoc, List.nil_append, List.append_nil]) (by simp only [List.append_assoc, List.nil_append, List.append_nil]) (c_X5_meldTrees l D κ a H.size r15 r17 uv r19 uv20 q21) (cwV 2 hts gX5_cutOut_X5_meldTrees rfl rfl rfl (by decide +kernel) ⟨Nat.le_of_ble_eq_true rfl, Nat.le_of_ble_eq_true rfl⟩) 0 5 rfl rfl rfl rfl hl.1 rfl (Nat.le_of_ble_eq_true rfl) dX5_cutOut_35 ⟨Nat.zero_le _, Nat.zero_le _⟩ (fun H locs hG => ?_)
  refine lv_istore (lv' := [(4, .int r19), (3, .int v14), (2, .int v11), (0, .ref (a 0)), (1, .int p1)]) hx hb dX5_cutOut_38 hl (by decide) rfl (fun ls hl => ?_)
  refine lv_iload_n hx hb dX5_cutOut_40 rfl (lv_at hl 1 rfl) ?_
  refine lv_iconst (v := (-1)) hx hb dX5_cutOut_41 (by decide) ?_
  refine lv_icmp_ne (tgt := 56) hx hb dX5_cutOut_42 (by decide) (fun c22 => ?_) (fun c22 => ?_)
  · replace hf := if_f c22 hf
    refine lv_aload_n hx hb dX5_cutOut_56 rfl (lv_at hl 3 rfl) ?_
    refine lv_iload_n hx hb dX5_cutOut_57 rfl (lv_at hl 1 rfl) ?_
    obtain ⟨r23, q24, hf⟩ := cl1_e hf
    refine x_callVi (pre := ([] : va_W)) (wc := WM κ a uv20) (wc1 := WM κ a uv20) (post := ([] : va_W)) (As := [.int v14]) (rest := []) (w1 := WM κ a uv20) ⟨hx, hb, hml, hown, hts⟩ hK hG hA (by simp only [List.append_assoc, List.nil_append, List.append_nil]) (by simp only [List.append_assoc, List.nil_append, List.append_nil]) (c_X5_left l D κ a H.size v14 uv20 r23 q24) (cwV 1 hts gX5_cutOut_X5_left rfl rfl rfl (by decide +kernel) ⟨Nat.le_of_ble_eq_true rfl, Nat.le_of_ble_eq_true rfl⟩) 0 5 rfl rfl rfl rfl hl.1 rfl (Nat.le_of_ble_eq_true rfl) dX5_cutOut_58 ⟨Nat.zero_le _, Nat.zero_le _⟩ (fun H locs hG => ?_)
    refine lv_iload_n hx hb dX5_cutOut_61 rfl (lv_at hl 4 rfl) ?_
    refine lv_icmp_ne (tgt := 81) hx hb dX5_cutOut_62 (by decide) (fun c25 => ?_) (fun c25 => ?_)
    · replace hf := if_f c25 hf
      refine lv_aload_n hx hb dX5_cutOut_81 rfl (lv_at hl 3 rfl) ?_
      refine x_get (C := RX5) (T := TX5) (N := 27) (ci := 5) hx hb hts iX5 hown hK hG 0 rfl rfl 2 (by decide) k13 (v := .ref (a 2)) rfl dX5_cutOut_82 ?_
      refine lv_iload_n hx hb dX5_cutOut_85 rfl (lv_at hl 1 rfl) ?_
      obtain ⟨r26, q27, hf⟩ := cl1_e hf
      refine x_callSi (pre := ([] : va_W)) (wc := ([] : va_W)) (wc1 := ([] : va_W)) (post := WM κ a uv20) (As := [.int v14]) (rest := [.ref (a 2)]) (w1 := WM κ a uv20) ⟨hx, hb, hml, hown, hts⟩ hK hG hA (by simp only [List.append_assoc, List.nil_append, List.append_nil]) (by simp only [List.append_assoc, List.nil_append, List.append_nil]) (c_X5_at l D κ a H.size v14 r26 q27) (va_cwS 1 hts gX5_cutOut_X5_at rfl rfl rfl (by decide +kernel) ⟨Nat.le_of_ble_eq_true rfl, Nat.le_of_ble_eq_true rfl⟩) rfl hl.1 rfl (Nat.le_of_ble_eq_true rfl) dX5_cutOut_86 ⟨Nat.zero_le _, Nat.zero_le _⟩ (fun H locs hG => ?_)
      refine lv_iconst (v := 4) hx hb dX5_cutOut_89 (by decide) ?_
      refine lv_iadd hx hb dX5_cutOut_90 ?_
      refine lv_iload hx hb dX5_cutOut_91 (lv_at hl 0 rfl) ?_
      obtain ⟨uv28, euv28, hin, hf⟩ := ck_e hf
      refine x_iast hx hb hK hG 2 rfl (w1 := WM κ a uv28) (by rw [euv28]; rfl) hin dX5_cutOut_93 (fun H locs hG => ?_)
      exact L94   v14 r19 uv28 hf H locs ls hG (lv_sub hl [3, 1, 0] rfl)
    · replace hf := if_t c25 hf
      refine lv_aload_n hx hb dX5_cutOut_65 rfl (lv_at hl 3 rfl) ?_
      refine x_get (C := RX5) (T := TX5) (N := 27) (ci := 5) hx hb hts iX5 hown hK hG 0 rfl rfl 2 (by decide) k13 (v := .ref (a 2)) rfl dX5_cutOut_66 ?_
      refine lv_iload_n hx hb dX5_cutOut_69 rfl (lv_at hl 1 rfl) ?_
      obtain ⟨r29, q30, hf⟩ := cl1_e hf
      refine x_callSi (pre := ([] : va_W)) (wc := ([] : va_W)) (wc1 := ([] : va_W)) (post := WM κ a uv20) (As := [.int v14]) (rest := [.ref (a 2)]) (w1 := WM κ a uv20) ⟨hx, hb, hml, hown, hts⟩ hK hG hA (by simp only [List.append_assoc, List.nil_append, List.append_nil]) (by simp only [List.append_assoc, List.nil_append, List.append_nil]) (c_X5_at l D κ a H.size v14 r29 q30) (va_cwS 1 hts gX5_cutOut_X5_at rfl rfl rfl (by decide +kernel) ⟨Nat.le_of_ble_eq_true rfl, Nat.le_of_ble_eq_true rfl⟩) rfl hl.1 rfl (Nat.le_of_ble_eq_true rfl) dX5_cutOut_70 ⟨Nat.zero_le _, Nat.zero_le _⟩ (fun H locs hG => ?_)
      refine lv_iconst (v := 3) hx hb dX5_cutOut_73 (by decide) ?_
      refine lv_iadd hx hb dX5_cutOut_74 ?_
      refine lv_iload hx hb dX5_cutOut_75 (lv_at hl 0 rfl) ?_
      obtain ⟨uv31, euv31, hin, hf⟩ := ck_e hf
      refine x_iast hx hb hK hG 2 rfl (w1 := WM κ a uv31) (by rw [euv31]; rfl) hin dX5_cutOut_77 (fun H locs hG => ?_)
      refine lv_goto (tgt := 94) hx hb dX5_cutOut_78 (by decide) ?_
      exact L94   v14 r19 uv31 hf H locs ls hG (lv_sub hl [3, 1, 0] rfl)
  · replace hf := if_t c22 hf
    refine lv_aload_n hx hb dX5_cutOut_45 rfl (lv_at hl 3 rfl) ?_
    refine x_get (C := RX5) (T := TX5) (N := 27) (ci := 5) hx hb hts iX5 hown hK hG 0 rfl rfl 2 (by decide) k13 (v := .ref (a 2)) rfl dX5_cutOut_46 ?_
    refine lv_iconst (v := 4) hx hb dX5_cutOut_49 (by decide) ?_
    refine lv_iload_n hx hb dX5_cutOut_50 rfl (lv_at hl 2 rfl) ?_
    refine lv_iadd hx hb dX5_cutOut_51 ?_
    refine lv_iload hx hb dX5_cutOut_52 (lv_at hl 0 rfl) ?_
    obtain ⟨uv32, euv32, hin, hf⟩ := ck_e hf
    refine x_iast hx hb hK hG 2 rfl (w1 := WM κ a uv32) (by rw [euv32]; rfl) hin dX5_cutOut_54 (fun H locs hG => ?_)
    have z0 := Option.some.inj hf
    exact x_vret hx hb hr hlk hK hG (by rw [z0]) dX5_cutOut_55
set_option maxRecDepth 100000 in
set_option maxHeartbeats 4000000 in
theorem c_X5_many (l : Launch) (D : va_G) (κ : Nat → ClassId) (a : Nat → Nat) (sz : Nat) (p1 : Int32) (p2 : Int32) (uv : MS) (r' : Int32)  (hf : f_X5_many p1 p2 uv = some (r')) : Met l yX5_many wsX5_many ({ frames := 1, cells := 0, slots := 0, locals := 20 } : Room) (xPc D κ [.ref (a 0), .int p1, .int p2] (WM κ a uv) sz) (xQi D κ r' (WM κ a uv) (va_A (WM κ a uv) sz)) 0 0 (va_A (WM κ a uv) sz) := by
  refine x_ofW (cc := cX5_many) (maxL := 5) (ret := (some .int)) (Qf := fun A => xQi D κ r' (WM κ a uv) A) (by decide) rfl (Nat.le_of_ble_eq_true rfl) ?_
  intro p e s m below meth c hx hb hr hlk hml hown hts hK A hA H locs hG ls hl
  have hown : s.vm.findClass RX5 = some m.cls := hown
  have hl : lv_has ls 5 [(0, .ref (a 0)), (1, .int p1), (2, .int p2)] := hl
  have iX5 : ∀ w ∈ u_ws RX5 TX5 27, w ∈ wsX5_many := fun _ h => List.mem_cons_of_mem _ (List.mem_append_right _ h)
  have k13 := hts (.fieldLink RX5 13 "SpineDesksModel" "row" "[I") (List.mem_of_getElem? (i := 1) rfl)
  have L57 : ∀ (rec5 : Int32 → Int32 → Int32 → Int32 → Option (Int32)) (hr5 : ∀ (y1 : Int32) (y2 : Int32) (y3 : Int32) (y4 : Int32), rec5 y1 y2 y3 y4 = some (r') → ∀ (H : Heap) (locs : List Loc) (ls : Array Slot), xG D A s.heap (WM κ a uv) H locs → lv_has ls 5 [(0, .ref (a 0)), (1, .int y1), (2, .int y2), (3, .int y3), (4, .int y4)] → W p l e ({ frames := 1, cells := 0, slots := 0, locals := 20 } : Room) s m (([.ref (a 0), .int p1, .int p2] : List Value).toArray) below meth c H locs 0 0 (MQ below (xQi D κ r' (WM κ a uv) A) (([.ref (a 0), .int p1, .int p2] : List Value).toArray) s 0 0 A) (F0 m 5 ls [])), ∀ (x1 : Int32) (x2 : Int32) (x4 : Int32) (s0 : Int32) (s1 : Int32), f_X5_many_57 uv rec5 x1 x2 x4 s0 s1 = some (r') → ∀ (H : Heap) (locs : List Loc) (ls : Array Slot), xG D A s.heap (WM κ a uv) H locs → lv_has ls 5 [(0, .ref (a 0)), (1, .int x1), (2, .int x2), (4, .int x4)] → W p l e ({ frames := 1, cells := 0, slots := 0, locals := 20 } : Room) s m (([.ref (a 0), .int p1, .int p2] : List Value).toArray) below meth c H locs 0 0 (MQ below (xQi D κ r' (WM κ a uv) A) (([.ref (a 0), .int p1, .int p2] : List Value).toArray) s 0 0 A) (F0 m 57 ls [.int s1, .int s0]) := by
    intro rec5 hr5 x1 x2 x4 s0 s1 hf H locs ls hG hl
    unfold f_X5_many_57 at hf
    refine lv_iadd hx hb dX5_many_57 ?_
    refine lv_topi (fun y1 ey1 => ?_)
    replace hf := bnd_at ey1 hf
    refine lv_istore_n (lv' := [(3, .int y1), (0, .ref (a 0)), (1, .int x1), (2, .int x2), (4, .int x4)]) hx hb dX5_many_58 rfl hl (by decide) rfl (fun ls hl => ?_)
    obtain ⟨y2, ey2, hf⟩ := bnd_e hf
    refine lv_iinc (v := y2) (lv' := [(4, .int y2), (3, .int y1), (0, .ref (a 0)), (1, .int x1), (2, .int x2)]) hx hb dX5_many_59 hl (k := 4) rfl (by rw [ey2]; rfl) (by decide) rfl (fun ls hl => ?_)
    refine lv_goto (tgt := 5) hx hb dX5_many_62 (by decide) ?_
    exact hr5 x1 x2 y1 y2 hf H locs ls hG (lv_sub hl [2, 3, 4, 1, 0] rfl)
  have L56 : ∀ (rec5 : Int32 → Int32 → Int32 → Int32 → Option (Int32)) (hr5 : ∀ (y1 : Int32) (y2 : Int32) (y3 : Int32) (y4 : Int32), rec5 y1 y2 y3 y4 = some (r') → ∀ (H : Heap) (locs : List Loc) (ls : Array Slot), xG D A s.heap (WM κ a uv) H locs → lv_has ls 5 [(0, .ref (a 0)), (1, .int y1), (2, .int y2), (3, .int y3), (4, .int y4)] → W p l e ({ frames := 1, cells := 0, slots := 0, locals := 20 } : Room) s m (([.ref (a 0), .int p1, .int p2] : List Value).toArray) below meth c H locs 0 0 (MQ below (xQi D κ r' (WM κ a uv) A) (([.ref (a 0), .int p1, .int p2] : List Value).toArray) s 0 0 A) (F0 m 5 ls [])), ∀ (x1 : Int32) (x2 : Int32) (x4 : Int32) (s0 : Int32), f_X5_many_56 uv rec5 x1 x2 x4 s0 = some (r') → ∀ (H : Heap) (locs : List Loc) (ls : Array Slot), xG D A s.heap (WM κ a uv) H locs → lv_has ls 5 [(0, .ref (a 0)), (1, .int x1), (2, .int x2), (4, .int x4)] → W p l e ({ frames := 1, cells := 0, slots := 0, locals := 20 } : Room) s m (([.ref (a 0), .int p1, .int p2] : List Value).toArray) below meth c H locs 0 0 (MQ below (xQi D κ r' (WM κ a uv) A) (([.ref (a 0), .int p1, .int p2] : List Value).toArray) s 0 0 A) (F0 m 56 ls [.int s0]) := by
    intro rec5 hr5 x1 x2 x4 s0 hf H locs ls hG hl
    unfold f_X5_many_56 at hf
    refine lv_iconst (v := 0) hx hb dX5_many_56 (by decide) ?_
    exact L57 rec5 hr5  x1 x2 x4 s0 0 hf H locs ls hG (lv_sub hl [0, 1, 2, 3] rfl)
  have L52 : ∀ (rec5 : Int32 → Int32 → Int32 → Int32 → Option (Int32)) (hr5 : ∀ (y1 : Int32) (y2 : Int32) (y3 : Int32) (y4 : Int32), rec5 y1 y2 y3 y4 = some (r') → ∀ (H : Heap) (locs : List Loc) (ls : Array Slot), xG D A s.heap (WM κ a uv) H locs → lv_has ls 5 [(0, .ref (a 0)), (1, .int y1), (2, .int y2), (3, .int y3), (4, .int y4)] → W p l e ({ frames := 1, cells := 0, slots := 0, locals := 20 } : Room) s m (([.ref (a 0), .int p1, .int p2] : List Value).toArray) below meth c H locs 0 0 (MQ below (xQi D κ r' (WM κ a uv) A) (([.ref (a 0), .int p1, .int p2] : List Value).toArray) s 0 0 A) (F0 m 5 ls [])), ∀ (x1 : Int32) (x2 : Int32) (x4 : Int32) (s0 : Int32), f_X5_many_52 uv rec5 x1 x2 x4 s0 = some (r') → ∀ (H : Heap) (locs : List Loc) (ls : Array Slot), xG D A s.heap (WM κ a uv) H locs → lv_has ls 5 [(0, .ref (a 0)), (1, .int x1), (2, .int x2), (4, .int x4)] → W p l e ({ frames := 1, cells := 0, slots := 0, locals := 20 } : Room) s m (([.ref (a 0), .int p1, .int p2] : List Value).toArray) below meth c H locs 0 0 (MQ below (xQi D κ r' (WM κ a uv) A) (([.ref (a 0), .int p1, .int p2] : List Value).toArray) s 0 0 A) (F0 m 52 ls [.int s0]) := by
    intro rec5 hr5 x1 x2 x4 s0 hf H locs ls hG hl
    unfold f_X5_many_52 at hf
    refine lv_iconst (v := 1) hx hb dX5_many_52 (by decide) ?_
    refine lv_goto (tgt := 57) hx hb dX5_many_53 (by decide) ?_
    exact L57 rec5 hr5  x1 x2 x4 s0 1 hf H locs ls hG (lv_sub hl [0, 1, 2, 3] rfl)
  have L5 : ∀ (n : Nat), ∀ (x1 : Int32) (x2 : Int32) (x3 : Int32) (x4 : Int32), f_X5_many_5 uv n x1 x2 x3 x4 = some (r') → ∀ (H : Heap) (locs : List Loc) (ls : Array Slot), xG D A s.heap (WM κ a uv) H locs → lv_has ls 5 [(0, .ref (a 0)), (1, .int x1), (2, .int x2), (3, .int x3), (4, .int x4)] → W p l e ({ frames := 1, cells := 0, slots := 0, locals := 20 } : Room) s m (([.ref (a 0), .int p1, .int p2] : List Value).toArray) below meth c H locs 0 0 (MQ below (xQi D κ r' (WM κ a uv) A) (([.ref (a 0), .int p1, .int p2] : List Value).toArray) s 0 0 A) (F0 m 5 ls []) := by
    intro  n
    induction n with
    | zero => intro x1 x2 x3 x4 hf; cases hf
    | succ n ih =>
      intro x1 x2 x3 x4 hf H locs ls hG hl
      replace hf : f_X5_many_B5 uv (f_X5_many_5 uv n) x1 x2 x3 x4 = some (r') := hf
      unfold f_X5_many_B5 at hf
      refine lv_iload hx hb dX5_many_5 (lv_at hl 4 rfl) ?_
      refine lv_aload_n hx hb dX5_many_7 rfl (lv_at hl 0 rfl) ?_
      refine x_get (C := RX5) (T := TX5) (N := 27) (ci := 5) hx hb hts iX5 hown hK hG 0 rfl rfl 2 (by decide) k13 (v := .ref (a 2)) rfl dX5_many_8 ?_
      refine lv_iconst (v := 0) hx hb dX5_many_11 (by decide) ?_
      obtain ⟨v3, ev3, hin, hf⟩ := ck_e hf
      refine x_iald hx hb hK hG 2 rfl ev3 hin dX5_many_12 ?_
      refine lv_icmp_ge (tgt := 65) hx hb dX5_many_13 (by decide) (fun c4 => ?_) (fun c4 => ?_)
      · replace hf := if_t c4 hf
        refine lv_iload_n hx hb dX5_many_65 rfl (lv_at hl 3 rfl) ?_
        have z0 := Option.some.inj hf
        exact x_iret hx hb hr hlk hK hG z0 rfl dX5_many_66
      · replace hf := if_f c4 hf
        refine lv_iload_n hx hb dX5_many_16 rfl (lv_at hl 3 rfl) ?_
        refine lv_aload_n hx hb dX5_many_17 rfl (lv_at hl 0 rfl) ?_
        refine x_get (C := RX5) (T := TX5) (N := 27) (ci := 5) hx hb hts iX5 hown hK hG 0 rfl rfl 2 (by decide) k13 (v := .ref (a 2)) rfl dX5_many_18 ?_
        refine lv_iload hx hb dX5_many_21 (lv_at hl 4 rfl) ?_
        obtain ⟨r5, q6, hf⟩ := cl1_e hf
        refine x_callSi (pre := ([] : va_W)) (wc := ([] : va_W)) (wc1 := ([] : va_W)) (post := WM κ a uv) (As := [.int x4]) (rest := [.ref (a 2), .int x3]) (w1 := WM κ a uv) ⟨hx, hb, hml, hown, hts⟩ hK hG hA (by simp only [List.append_assoc, List.nil_append, List.append_nil]) (by simp only [List.append_assoc, List.nil_append, List.append_nil]) (c_X5_at l D κ a H.size x4 r5 q6) (va_cwS 1 hts gX5_many_X5_at rfl rfl rfl (by decide +kernel) ⟨Nat.le_of_ble_eq_true rfl, Nat.le_of_ble_eq_true rfl⟩) rfl hl.1 rfl (Nat.le_of_ble_eq_true rfl) dX5_many_23 ⟨Nat.zero_le _, Nat.zero_le _⟩ (fun H locs hG => ?_)
        refine lv_iconst (v := 1) hx hb dX5_many_26 (by decide) ?_
        refine lv_iadd hx hb dX5_many_27 ?_
        obtain ⟨v7, ev7, hin, hf⟩ := ck_e hf
        refine x_iald hx hb hK hG 2 rfl ev7 hin dX5_many_28 ?_
        refine lv_iload_n hx hb dX5_many_29 rfl (lv_at hl 1 rfl) ?_
        refine lv_icmp_ne (tgt := 56) hx hb dX5_many_30 (by decide) (fun c8 => ?_) (fun c8 => ?_)
        · replace hf := if_f c8 hf
          exact L56 (f_X5_many_5 uv n) ih  x1 x2 x4 x3 hf H locs ls hG (lv_sub hl [0, 1, 2, 4] rfl)
        · replace hf := if_t c8 hf
          refine lv_iload_n hx hb dX5_many_33 rfl (lv_at hl 2 rfl) ?_
          refine lv_if_ne (tgt := 52) hx hb dX5_many_34 (by decide) (fun c9 => ?_) (fun c9 => ?_)
          · replace hf := if_f c9 hf
            exact L52 (f_X5_many_5 uv n) ih  x1 x2 x4 x3 hf H locs ls hG (lv_sub hl [0, 1, 2, 4] rfl)
          · replace hf := if_t c9 hf
            refine lv_aload_n hx hb dX5_many_37 rfl (lv_at hl 0 rfl) ?_
            refine x_get (C := RX5) (T := TX5) (N := 27) (ci := 5) hx hb hts iX5 hown hK hG 0 rfl rfl 2 (by decide) k13 (v := .ref (a 2)) rfl dX5_many_38 ?_
            refine lv_iload hx hb dX5_many_41 (lv_at hl 4 rfl) ?_
            obtain ⟨r10, q11, hf⟩ := cl1_e hf
            refine x_callSi (pre := ([] : va_W)) (wc := ([] : va_W)) (wc1 := ([] : va_W)) (post := WM κ a uv) (As := [.int x4]) (rest := [.ref (a 2), .int x3]) (w1 := WM κ a uv) ⟨hx, hb, hml, hown, hts⟩ hK hG hA (by simp only [List.append_assoc, List.nil_append, List.append_nil]) (by simp only [List.append_assoc, List.nil_append, List.append_nil]) (c_X5_at l D κ a H.size x4 r10 q11) (va_cwS 1 hts gX5_many_X5_at rfl rfl rfl (by decide +kernel) ⟨Nat.le_of_ble_eq_true rfl, Nat.le_of_ble_eq_true rfl⟩) rfl hl.1 rfl (Nat.le_of_ble_eq_true rfl) dX5_many_43 ⟨Nat.zero_le _, Nat.zero_le _⟩ (fun H locs hG => ?_)
            refine lv_iconst (v := 2) hx hb dX5_many_46 (by decide) ?_
            refine lv_iadd hx hb dX5_many_47 ?_
            obtain ⟨v12, ev12, hin, hf⟩ := ck_e hf
            refine x_iald hx hb hK hG 2 rfl ev12 hin dX5_many_48 ?_
            refine lv_if_ne (tgt := 56) hx hb dX5_many_49 (by decide) (fun c13 => ?_) (fun c13 => ?_)
            · replace hf := if_f c13 hf
              exact L56 (f_X5_many_5 uv n) ih  x1 x2 x4 x3 hf H locs ls hG (lv_sub hl [0, 1, 2, 4] rfl)
            · replace hf := if_t c13 hf
              exact L52 (f_X5_many_5 uv n) ih  x1 x2 x4 x3 hf H locs ls hG (lv_sub hl [0, 1, 2, 4] rfl)
  unfold f_X5_many at hf
  refine lv_iconst (v := 0) hx hb dX5_many_0 (by decide) ?_
  refine lv_istore_n (lv' := [(3, .int 0), (0, .ref (a 0)), (1, .int p1), (2, .int p2)]) hx hb dX5_many_1 rfl hl (by decide) rfl (fun ls hl => ?_)
  refine lv_iconst (v := 0) hx hb dX5_many_2 (by decide) ?_
  refine lv_istore (lv' := [(4, .int 0), (3, .int 0), (0, .ref (a 0)), (1, .int p1), (2, .int p2)]) hx hb dX5_many_3 hl (by decide) rfl (fun ls hl => ?_)
  exact L5  FU p1 p2 0 0 hf H locs ls hG (lv_sub hl [2, 3, 4, 1, 0] rfl)
set_option maxRecDepth 100000 in
set_option maxHeartbeats 4000000 in
theorem c_X5_isKey (l : Launch) (D : va_G) (κ : Nat → ClassId) (a : Nat → Nat) (sz : Nat) (p0 : Int64)  (r' : Int32)  (hf : f_X5_isKey p0 = some (r')) : Met l yX5_isKey wsX5_isKey ({ frames := 1, cells := 0, slots := 0, locals := 25 } : Room) (xPc D κ [.long p0] (([] : va_W)) sz) (xQi D κ r' (([] : va_W)) (va_A (([] : va_W)) sz)) 0 0 (va_A (([] : va_W)) sz) := by
  refine x_ofW (cc := cX5_isKey) (maxL := 2) (ret := (some .boolean)) (Qf := fun A => xQi D κ r' (([] : va_W)) A) (by decide) rfl (Nat.le_of_ble_eq_true rfl) ?_
  intro p e s m below meth c hx hb hr hlk hml hown hts hK A hA H locs hG ls hl
  have hown : s.vm.findClass RX5 = some m.cls := hown
  have hl : lv_has ls 2 [(0, .long p0)] := hl
  have k121 := hts (.constantLong RX5 121 (-1000000000)) (List.mem_of_getElem? (i := 1) rfl)
  have k123 := hts (.constantLong RX5 123 (1000000000)) (List.mem_of_getElem? (i := 2) rfl)
  unfold f_X5_isKey at hf
  refine lv_lload_n hx hb dX5_isKey_0 rfl (lv_at hl 0 rfl) ?_
  refine lv_ldc2 (v := (-1000000000)) hx hb hown k121 dX5_isKey_1 ?_
  refine lv_ldc2 (v := 1000000000) hx hb hown k123 dX5_isKey_4 ?_
  obtain ⟨r1, q2, hf⟩ := cl1_e hf
  refine x_callSi (pre := ([] : va_W)) (wc := ([] : va_W)) (wc1 := ([] : va_W)) (post := ([] : va_W)) (As := [.long p0, .long ((-1000000000)), .long 1000000000]) (rest := []) (w1 := ([] : va_W)) ⟨hx, hb, hml, hown, hts⟩ hK hG hA (by simp only [List.append_assoc, List.nil_append, List.append_nil]) (by simp only [List.append_assoc, List.nil_append, List.append_nil]) (c_X5_in l D κ a H.size p0 ((-1000000000)) 1000000000 r1 q2) (va_cwS 3 hts gX5_isKey_X5_in rfl rfl rfl (by decide +kernel) ⟨Nat.le_of_ble_eq_true rfl, Nat.le_of_ble_eq_true rfl⟩) rfl hl.1 rfl (Nat.le_of_ble_eq_true rfl) dX5_isKey_7 ⟨Nat.zero_le _, Nat.zero_le _⟩ (fun H locs hG => ?_)
  obtain ⟨hbo, hf⟩ := ckb_e hf
  have z0 := Option.some.inj hf
  exact x_zret hx hb hr hlk hK hG (x_nb hbo) z0 rfl dX5_isKey_10
set_option maxRecDepth 100000 in
set_option maxHeartbeats 4000000 in
theorem c_X5_enter (l : Launch) (D : va_G) (κ : Nat → ClassId) (a : Nat → Nat) (sz : Nat) (p1 : Int32) (p2 : Int32) (p3 : Int32) (uv : MS) (r' : Int32) (uv' : MS) (hf : f_X5_enter p1 p2 p3 uv = some (r', uv')) : Met l yX5_enter wsX5_enter ({ frames := 6, cells := 0, slots := 0, locals := 135 } : Room) (xPc D κ [.ref (a 0), .int p1, .int p2, .int p3] (WM κ a uv) sz) (xQi D κ r' (WM κ a uv') (va_A (WM κ a uv) sz)) 0 0 (va_A (WM κ a uv) sz) := by
  refine x_ofW (cc := cX5_enter) (maxL := 5) (ret := (some .int)) (Qf := fun A => xQi D κ r' (WM κ a uv') A) (by decide) rfl (Nat.le_of_ble_eq_true rfl) ?_
  intro p e s m below meth c hx hb hr hlk hml hown hts hK A hA H locs hG ls hl
  have hown : s.vm.findClass RX5 = some m.cls := hown
  have hl : lv_has ls 5 [(0, .ref (a 0)), (1, .int p1), (2, .int p2), (3, .int p3)] := hl
  have iX5 : ∀ w ∈ u_ws RX5 TX5 27, w ∈ wsX5_enter := fun _ h => List.mem_cons_of_mem _ (List.mem_append_right _ h)
  have k13 := hts (.fieldLink RX5 13 "SpineDesksModel" "row" "[I") (List.mem_of_getElem? (i := 3) rfl)
  have k133 := hts (.constantLong RX5 133 (99)) (List.mem_of_getElem? (i := 2) rfl)
  have k16 := hts (.fieldLink RX5 16 "SpineDesksModel" "keys" "[J") (List.mem_of_getElem? (i := 4) rfl)
  have k63 := hts (.fieldLink RX5 63 "SpineDesksModel" "thrown" "I") (List.mem_of_getElem? (i := 1) rfl)
  have L32 : ∀ (uv : MS), f_X5_enter_32 uv = some (r', uv') → ∀ (H : Heap) (locs : List Loc) (ls : Array Slot), xG D A s.heap (WM κ a uv) H locs → lv_has ls 5 [(0, .ref (a 0))] → W p l e ({ frames := 6, cells := 0, slots := 0, locals := 135 } : Room) s m (([.ref (a 0), .int p1, .int p2, .int p3] : List Value).toArray) below meth c H locs 0 0 (MQ below (xQi D κ r' (WM κ a uv') A) (([.ref (a 0), .int p1, .int p2, .int p3] : List Value).toArray) s 0 0 A) (F0 m 32 ls []) := by
    intro  uv hf H locs ls hG hl
    unfold f_X5_enter_32 at hf
    refine lv_aload_n hx hb dX5_enter_32 rfl (lv_at hl 0 rfl) ?_
    refine lv_iconst (v := (-1)) hx hb dX5_enter_33 (by decide) ?_
    obtain ⟨r1, uv2, q3, hf⟩ := cl2_e hf
    refine x_callVi (pre := ([] : va_W)) (wc := WM κ a uv) (wc1 := WM κ a uv2) (post := ([] : va_W)) (As := [.int ((-1))]) (rest := []) (w1 := WM κ a uv2) ⟨hx, hb, hml, hown, hts⟩ hK hG hA (by simp only [List.append_assoc, List.nil_append, List.append_nil]) (by simp only [List.append_assoc, List.nil_append, List.append_nil]) (c_X5_refuse l D κ a H.size ((-1)) uv r1 uv2 q3) (cwV 1 hts gX5_enter_X5_refuse rfl rfl rfl (by decide +kernel) ⟨Nat.le_of_ble_eq_true rfl, Nat.le_of_ble_eq_true rfl⟩) 0 5 rfl rfl rfl rfl hl.1 rfl (Nat.le_of_ble_eq_true rfl) dX5_enter_34 ⟨Nat.zero_le _, Nat.zero_le _⟩ (fun H locs hG => ?_)
    have hz := Option.some.inj hf
    have z0 := (Prod.mk.inj hz).1
    replace hz := (Prod.mk.inj hz).2
    have z1 := hz
    exact x_iret hx hb hr hlk hK hG z0 (by rw [z1]) dX5_enter_37
  unfold f_X5_enter at hf
  refine lv_aload_n hx hb dX5_enter_0 rfl (lv_at hl 0 rfl) ?_
  refine lv_iconst (v := 0) hx hb dX5_enter_1 (by decide) ?_
  obtain ⟨uv4, euv4, hf⟩ := bnd_e hf
  refine x_put (C := RX5) (T := TX5) (N := 27) (ci := 5) hx hb hts iX5 tyX5 tyX5_ok nmX5 hown hK hG 0 rfl rfl 0 (by decide) k63 rfl (ty := .int) (v := .int 0) rfl rfl rfl (Nat.le_of_ble_eq_true rfl) (w1 := WM κ a uv4) (by rw [euv4]; rfl) dX5_enter_2 (fun H locs hG => ?_)
  refine lv_iload_n hx hb dX5_enter_5 rfl (lv_at hl 1 rfl) ?_
  obtain ⟨r5, q6, hf⟩ := cl1_e hf
  refine x_callSi (pre := ([] : va_W)) (wc := ([] : va_W)) (wc1 := ([] : va_W)) (post := WM κ a uv4) (As := [.int p1]) (rest := []) (w1 := WM κ a uv4) ⟨hx, hb, hml, hown, hts⟩ hK hG hA (by simp only [List.append_assoc, List.nil_append, List.append_nil]) (by simp only [List.append_assoc, List.nil_append, List.append_nil]) (c_X5_isDesk l D κ a H.size p1 r5 q6) (va_cwS 1 hts gX5_enter_X5_isDesk rfl rfl rfl (by decide +kernel) ⟨Nat.le_of_ble_eq_true rfl, Nat.le_of_ble_eq_true rfl⟩) rfl hl.1 rfl (Nat.le_of_ble_eq_true rfl) dX5_enter_6 ⟨Nat.zero_le _, Nat.zero_le _⟩ (fun H locs hG => ?_)
  refine lv_if_eq (tgt := 32) hx hb dX5_enter_9 (by decide) (fun c7 => ?_) (fun c7 => ?_)
  · replace hf := if_t c7 hf
    exact L32   uv4 hf H locs ls hG (lv_sub hl [0] rfl)
  · replace hf := if_f c7 hf
    refine lv_iload_n hx hb dX5_enter_12 rfl (lv_at hl 2 rfl) ?_
    refine lv_i2l hx hb dX5_enter_13 rfl ?_
    obtain ⟨r8, q9, hf⟩ := cl1_e hf
    refine x_callSi (pre := ([] : va_W)) (wc := ([] : va_W)) (wc1 := ([] : va_W)) (post := WM κ a uv4) (As := [.long (p2.toInt64)]) (rest := []) (w1 := WM κ a uv4) ⟨hx, hb, hml, hown, hts⟩ hK hG hA (by simp only [List.append_assoc, List.nil_append, List.append_nil]) (by simp only [List.append_assoc, List.nil_append, List.append_nil]) (c_X5_isKey l D κ a H.size (p2.toInt64) r8 q9) (va_cwS 1 hts gX5_enter_X5_isKey rfl rfl rfl (by decide +kernel) ⟨Nat.le_of_ble_eq_true rfl, Nat.le_of_ble_eq_true rfl⟩) rfl hl.1 rfl (Nat.le_of_ble_eq_true rfl) dX5_enter_14 ⟨Nat.zero_le _, Nat.zero_le _⟩ (fun H locs hG => ?_)
    refine lv_if_eq (tgt := 32) hx hb dX5_enter_17 (by decide) (fun c10 => ?_) (fun c10 => ?_)
    · replace hf := if_t c10 hf
      exact L32   uv4 hf H locs ls hG (lv_sub hl [0] rfl)
    · replace hf := if_f c10 hf
      refine lv_iload_n hx hb dX5_enter_20 rfl (lv_at hl 3 rfl) ?_
      refine lv_i2l hx hb dX5_enter_21 rfl ?_
      refine lv_lconst (v := 0) hx hb dX5_enter_22 (by decide) ?_
      refine lv_ldc2 (v := 99) hx hb hown k133 dX5_enter_23 ?_
      obtain ⟨r11, q12, hf⟩ := cl1_e hf
      refine x_callSi (pre := ([] : va_W)) (wc := ([] : va_W)) (wc1 := ([] : va_W)) (post := WM κ a uv4) (As := [.long (p3.toInt64), .long 0, .long 99]) (rest := []) (w1 := WM κ a uv4) ⟨hx, hb, hml, hown, hts⟩ hK hG hA (by simp only [List.append_assoc, List.nil_append, List.append_nil]) (by simp only [List.append_assoc, List.nil_append, List.append_nil]) (c_X5_in l D κ a H.size (p3.toInt64) 0 99 r11 q12) (va_cwS 3 hts gX5_enter_X5_in rfl rfl rfl (by decide +kernel) ⟨Nat.le_of_ble_eq_true rfl, Nat.le_of_ble_eq_true rfl⟩) rfl hl.1 rfl (Nat.le_of_ble_eq_true rfl) dX5_enter_26 ⟨Nat.zero_le _, Nat.zero_le _⟩ (fun H locs hG => ?_)
      refine lv_if_ne (tgt := 38) hx hb dX5_enter_29 (by decide) (fun c13 => ?_) (fun c13 => ?_)
      · replace hf := if_f c13 hf
        refine lv_aload_n hx hb dX5_enter_38 rfl (lv_at hl 0 rfl) ?_
        refine x_get (C := RX5) (T := TX5) (N := 27) (ci := 5) hx hb hts iX5 hown hK hG 0 rfl rfl 2 (by decide) k13 (v := .ref (a 2)) rfl dX5_enter_39 ?_
        refine lv_iconst (v := 0) hx hb dX5_enter_42 (by decide) ?_
        obtain ⟨v14, ev14, hin, hf⟩ := ck_e hf
        refine x_iald hx hb hK hG 2 rfl ev14 hin dX5_enter_43 ?_
        refine lv_istore (lv' := [(4, .int v14), (0, .ref (a 0)), (1, .int p1), (2, .int p2), (3, .int p3)]) hx hb dX5_enter_44 hl (by decide) rfl (fun ls hl => ?_)
        refine lv_iload hx hb dX5_enter_46 (lv_at hl 0 rfl) ?_
        refine lv_sipush (v := 300) hx hb dX5_enter_48 (by decide) ?_
        refine lv_icmp_ne (tgt := 61) hx hb dX5_enter_51 (by decide) (fun c15 => ?_) (fun c15 => ?_)
        · replace hf := if_f c15 hf
          refine lv_aload_n hx hb dX5_enter_61 rfl (lv_at hl 1 rfl) ?_
          refine x_get (C := RX5) (T := TX5) (N := 27) (ci := 5) hx hb hts iX5 hown hK hG 0 rfl rfl 2 (by decide) k13 (v := .ref (a 2)) rfl dX5_enter_62 ?_
          refine lv_iload hx hb dX5_enter_65 (lv_at hl 0 rfl) ?_
          obtain ⟨r16, q17, hf⟩ := cl1_e hf
          refine x_callSi (pre := ([] : va_W)) (wc := ([] : va_W)) (wc1 := ([] : va_W)) (post := WM κ a uv4) (As := [.int v14]) (rest := [.ref (a 2)]) (w1 := WM κ a uv4) ⟨hx, hb, hml, hown, hts⟩ hK hG hA (by simp only [List.append_assoc, List.nil_append, List.append_nil]) (by simp only [List.append_assoc, List.nil_append, List.append_nil]) (c_X5_at l D κ a H.size v14 r16 q17) (va_cwS 1 hts gX5_enter_X5_at rfl rfl rfl (by decide +kernel) ⟨Nat.le_of_ble_eq_true rfl, Nat.le_of_ble_eq_true rfl⟩) rfl hl.1 rfl (Nat.le_of_ble_eq_true rfl) dX5_enter_67 ⟨Nat.zero_le _, Nat.zero_le _⟩ (fun H locs hG => ?_)
          refine lv_iconst (v := 0) hx hb dX5_enter_70 (by decide) ?_
          refine lv_iadd hx hb dX5_enter_71 ?_
          refine lv_iload_n hx hb dX5_enter_72 rfl (lv_at hl 4 rfl) ?_
          obtain ⟨uv18, euv18, hin, hf⟩ := ck_e hf
          refine x_iast hx hb hK hG 2 rfl (w1 := WM κ a uv18) (by rw [euv18]; rfl) hin dX5_enter_73 (fun H locs hG => ?_)
          refine lv_aload_n hx hb dX5_enter_74 rfl (lv_at hl 1 rfl) ?_
          refine x_get (C := RX5) (T := TX5) (N := 27) (ci := 5) hx hb hts iX5 hown hK hG 0 rfl rfl 2 (by decide) k13 (v := .ref (a 2)) rfl dX5_enter_75 ?_
          refine lv_iload hx hb dX5_enter_78 (lv_at hl 0 rfl) ?_
          obtain ⟨r19, q20, hf⟩ := cl1_e hf
          refine x_callSi (pre := ([] : va_W)) (wc := ([] : va_W)) (wc1 := ([] : va_W)) (post := WM κ a uv18) (As := [.int v14]) (rest := [.ref (a 2)]) (w1 := WM κ a uv18) ⟨hx, hb, hml, hown, hts⟩ hK hG hA (by simp only [List.append_assoc, List.nil_append, List.append_nil]) (by simp only [List.append_assoc, List.nil_append, List.append_nil]) (c_X5_at l D κ a H.size v14 r19 q20) (va_cwS 1 hts gX5_enter_X5_at rfl rfl rfl (by decide +kernel) ⟨Nat.le_of_ble_eq_true rfl, Nat.le_of_ble_eq_true rfl⟩) rfl hl.1 rfl (Nat.le_of_ble_eq_true rfl) dX5_enter_80 ⟨Nat.zero_le _, Nat.zero_le _⟩ (fun H locs hG => ?_)
          refine lv_iconst (v := 2) hx hb dX5_enter_83 (by decide) ?_
          refine lv_iadd hx hb dX5_enter_84 ?_
          refine lv_iconst (v := 0) hx hb dX5_enter_85 (by decide) ?_
          obtain ⟨uv21, euv21, hin, hf⟩ := ck_e hf
          refine x_iast hx hb hK hG 2 rfl (w1 := WM κ a uv21) (by rw [euv21]; rfl) hin dX5_enter_86 (fun H locs hG => ?_)
          refine lv_aload_n hx hb dX5_enter_87 rfl (lv_at hl 1 rfl) ?_
          refine x_get (C := RX5) (T := TX5) (N := 27) (ci := 5) hx hb hts iX5 hown hK hG 0 rfl rfl 3 (by decide) k16 (v := .ref (a 3)) rfl dX5_enter_88 ?_
          refine lv_iload hx hb dX5_enter_91 (lv_at hl 0 rfl) ?_
          refine lv_iload_n hx hb dX5_enter_93 rfl (lv_at hl 3 rfl) ?_
          refine lv_i2l hx hb dX5_enter_94 rfl ?_
          obtain ⟨uv22, euv22, hin, hf⟩ := ck_e hf
          refine x_last hx hb hK hG 3 rfl (w1 := WM κ a uv22) (by rw [euv22]; rfl) hin dX5_enter_95 (fun H locs hG => ?_)
          refine lv_aload_n hx hb dX5_enter_96 rfl (lv_at hl 1 rfl) ?_
          refine x_get (C := RX5) (T := TX5) (N := 27) (ci := 5) hx hb hts iX5 hown hK hG 0 rfl rfl 2 (by decide) k13 (v := .ref (a 2)) rfl dX5_enter_97 ?_
          refine lv_iconst (v := 0) hx hb dX5_enter_100 (by decide) ?_
          refine lv_dup2_11 hx hb dX5_enter_101 rfl rfl ?_
          obtain ⟨v23, ev23, hin, hf⟩ := ck_e hf
          refine x_iald hx hb hK hG 2 rfl ev23 hin dX5_enter_102 ?_
          refine lv_iconst (v := 1) hx hb dX5_enter_103 (by decide) ?_
          refine lv_iadd hx hb dX5_enter_104 ?_
          obtain ⟨uv24, euv24, hin, hf⟩ := ck_e hf
          refine x_iast hx hb hK hG 2 rfl (w1 := WM κ a uv24) (by rw [euv24]; rfl) hin dX5_enter_105 (fun H locs hG => ?_)
          refine lv_aload_n hx hb dX5_enter_106 rfl (lv_at hl 1 rfl) ?_
          refine lv_iload hx hb dX5_enter_107 (lv_at hl 0 rfl) ?_
          refine lv_iload_n hx hb dX5_enter_109 rfl (lv_at hl 2 rfl) ?_
          obtain ⟨uv25, q26, hf⟩ := cl1_e hf
          refine x_callVv (pre := ([] : va_W)) (wc := WM κ a uv24) (wc1 := WM κ a uv25) (post := ([] : va_W)) (As := [.int v14, .int p1]) (rest := []) (w1 := WM κ a uv25) ⟨hx, hb, hml, hown, hts⟩ hK hG hA (by simp only [List.append_assoc, List.nil_append, List.append_nil]) (by simp only [List.append_assoc, List.nil_append, List.append_nil]) (c_X5_put l D κ a H.size v14 p1 uv24 uv25 q26) (cwV 2 hts gX5_enter_X5_put rfl rfl rfl (by decide +kernel) ⟨Nat.le_of_ble_eq_true rfl, Nat.le_of_ble_eq_true rfl⟩) 0 5 rfl rfl rfl rfl hl.1 rfl (Nat.le_of_ble_eq_true rfl) dX5_enter_110 ⟨Nat.zero_le _, Nat.zero_le _⟩ (fun H locs hG => ?_)
          refine lv_aload_n hx hb dX5_enter_113 rfl (lv_at hl 1 rfl) ?_
          obtain ⟨uv27, q28, hf⟩ := cl1_e hf
          refine x_callVv (pre := ([] : va_W)) (wc := WM κ a uv25) (wc1 := WM κ a uv27) (post := ([] : va_W)) (As := []) (rest := []) (w1 := WM κ a uv27) ⟨hx, hb, hml, hown, hts⟩ hK hG hA (by simp only [List.append_assoc, List.nil_append, List.append_nil]) (by simp only [List.append_assoc, List.nil_append, List.append_nil]) (c_X5_sweep l D κ a H.size uv25 uv27 q28) (cwV 0 hts gX5_enter_X5_sweep rfl rfl rfl (by decide +kernel) ⟨Nat.le_of_ble_eq_true rfl, Nat.le_of_ble_eq_true rfl⟩) 0 5 rfl rfl rfl rfl hl.1 rfl (Nat.le_of_ble_eq_true rfl) dX5_enter_114 ⟨Nat.zero_le _, Nat.zero_le _⟩ (fun H locs hG => ?_)
          refine lv_iload hx hb dX5_enter_117 (lv_at hl 0 rfl) ?_
          have hz := Option.some.inj hf
          have z0 := (Prod.mk.inj hz).1
          replace hz := (Prod.mk.inj hz).2
          have z1 := hz
          exact x_iret hx hb hr hlk hK hG z0 (by rw [z1]) dX5_enter_119
        · replace hf := if_t c15 hf
          refine lv_aload_n hx hb dX5_enter_54 rfl (lv_at hl 1 rfl) ?_
          refine lv_bipush (v := (-5)) hx hb dX5_enter_55 (by decide) ?_
          obtain ⟨r29, uv30, q31, hf⟩ := cl2_e hf
          refine x_callVi (pre := ([] : va_W)) (wc := WM κ a uv4) (wc1 := WM κ a uv30) (post := ([] : va_W)) (As := [.int ((-5))]) (rest := []) (w1 := WM κ a uv30) ⟨hx, hb, hml, hown, hts⟩ hK hG hA (by simp only [List.append_assoc, List.nil_append, List.append_nil]) (by simp only [List.append_assoc, List.nil_append, List.append_nil]) (c_X5_refuse l D κ a H.size ((-5)) uv4 r29 uv30 q31) (cwV 1 hts gX5_enter_X5_refuse rfl rfl rfl (by decide +kernel) ⟨Nat.le_of_ble_eq_true rfl, Nat.le_of_ble_eq_true rfl⟩) 0 5 rfl rfl rfl rfl hl.1 rfl (Nat.le_of_ble_eq_true rfl) dX5_enter_57 ⟨Nat.zero_le _, Nat.zero_le _⟩ (fun H locs hG => ?_)
          have hz := Option.some.inj hf
          have z0 := (Prod.mk.inj hz).1
          replace hz := (Prod.mk.inj hz).2
          have z1 := hz
          exact x_iret hx hb hr hlk hK hG z0 (by rw [z1]) dX5_enter_60
      · replace hf := if_t c13 hf
        exact L32   uv4 hf H locs ls hG (lv_sub hl [0] rfl)
set_option maxRecDepth 100000 in
set_option maxHeartbeats 4000000 in
theorem c_X5_dispatch (l : Launch) (D : va_G) (κ : Nat → ClassId) (a : Nat → Nat) (sz : Nat) (p1 : Int32) (uv : MS) (r' : Int32) (uv' : MS) (hf : f_X5_dispatch p1 uv = some (r', uv')) : Met l yX5_dispatch wsX5_dispatch ({ frames := 6, cells := 0, slots := 0, locals := 135 } : Room) (xPc D κ [.ref (a 0), .int p1] (WM κ a uv) sz) (xQi D κ r' (WM κ a uv') (va_A (WM κ a uv) sz)) 0 0 (va_A (WM κ a uv) sz) := by
  refine x_ofW (cc := cX5_dispatch) (maxL := 4) (ret := (some .int)) (Qf := fun A => xQi D κ r' (WM κ a uv') A) (by decide) rfl (Nat.le_of_ble_eq_true rfl) ?_
  intro p e s m below meth c hx hb hr hlk hml hown hts hK A hA H locs hG ls hl
  have hown : s.vm.findClass RX5 = some m.cls := hown
  have hl : lv_has ls 4 [(0, .ref (a 0)), (1, .int p1)] := hl
  have iX5 : ∀ w ∈ u_ws RX5 TX5 27, w ∈ wsX5_dispatch := fun _ h => List.mem_cons_of_mem _ (List.mem_append_right _ h)
  have k13 := hts (.fieldLink RX5 13 "SpineDesksModel" "row" "[I") (List.mem_of_getElem? (i := 1) rfl)
  have k16 := hts (.fieldLink RX5 16 "SpineDesksModel" "keys" "[J") (List.mem_of_getElem? (i := 2) rfl)
  have L117 : ∀ (x1 : Int32) (x2 : Int32) (uv : MS), f_X5_dispatch_117 x1 x2 uv = some (r', uv') → ∀ (H : Heap) (locs : List Loc) (ls : Array Slot), xG D A s.heap (WM κ a uv) H locs → lv_has ls 4 [(0, .ref (a 0)), (1, .int x1), (2, .int x2)] → W p l e ({ frames := 6, cells := 0, slots := 0, locals := 135 } : Room) s m (([.ref (a 0), .int p1] : List Value).toArray) below meth c H locs 0 0 (MQ below (xQi D κ r' (WM κ a uv') A) (([.ref (a 0), .int p1] : List Value).toArray) s 0 0 A) (F0 m 117 ls []) := by
    intro  x1 x2 uv hf H locs ls hG hl
    unfold f_X5_dispatch_117 at hf
    refine lv_aload_n hx hb dX5_dispatch_117 rfl (lv_at hl 0 rfl) ?_
    refine x_get (C := RX5) (T := TX5) (N := 27) (ci := 5) hx hb hts iX5 hown hK hG 0 rfl rfl 2 (by decide) k13 (v := .ref (a 2)) rfl dX5_dispatch_118 ?_
    refine lv_iconst (v := 2) hx hb dX5_dispatch_121 (by decide) ?_
    obtain ⟨v1, ev1, hin, hf⟩ := ck_e hf
    refine x_iald hx hb hK hG 2 rfl ev1 hin dX5_dispatch_122 ?_
    refine lv_istore_n (lv' := [(3, .int v1), (0, .ref (a 0)), (1, .int x1), (2, .int x2)]) hx hb dX5_dispatch_123 rfl hl (by decide) rfl (fun ls hl => ?_)
    refine lv_aload_n hx hb dX5_dispatch_124 rfl (lv_at hl 1 rfl) ?_
    refine x_get (C := RX5) (T := TX5) (N := 27) (ci := 5) hx hb hts iX5 hown hK hG 0 rfl rfl 2 (by decide) k13 (v := .ref (a 2)) rfl dX5_dispatch_125 ?_
    refine lv_bipush (v := 70) hx hb dX5_dispatch_128 (by decide) ?_
    refine lv_iconst (v := 2) hx hb dX5_dispatch_130 (by decide) ?_
    refine lv_iload_n hx hb dX5_dispatch_131 rfl (lv_at hl 0 rfl) ?_
    refine lv_imul hx hb dX5_dispatch_132 ?_
    refine lv_iadd hx hb dX5_dispatch_133 ?_
    refine lv_iload_n hx hb dX5_dispatch_134 rfl (lv_at hl 3 rfl) ?_
    obtain ⟨uv2, euv2, hin, hf⟩ := ck_e hf
    refine x_iast hx hb hK hG 2 rfl (w1 := WM κ a uv2) (by rw [euv2]; rfl) hin dX5_dispatch_135 (fun H locs hG => ?_)
    refine lv_aload_n hx hb dX5_dispatch_136 rfl (lv_at hl 1 rfl) ?_
    refine x_get (C := RX5) (T := TX5) (N := 27) (ci := 5) hx hb hts iX5 hown hK hG 0 rfl rfl 2 (by decide) k13 (v := .ref (a 2)) rfl dX5_dispatch_137 ?_
    refine lv_bipush (v := 70) hx hb dX5_dispatch_140 (by decide) ?_
    refine lv_iconst (v := 2) hx hb dX5_dispatch_142 (by decide) ?_
    refine lv_iload_n hx hb dX5_dispatch_143 rfl (lv_at hl 0 rfl) ?_
    refine lv_imul hx hb dX5_dispatch_144 ?_
    refine lv_iadd hx hb dX5_dispatch_145 ?_
    refine lv_iconst (v := 1) hx hb dX5_dispatch_146 (by decide) ?_
    refine lv_iadd hx hb dX5_dispatch_147 ?_
    refine lv_iload_n hx hb dX5_dispatch_148 rfl (lv_at hl 2 rfl) ?_
    obtain ⟨uv3, euv3, hin, hf⟩ := ck_e hf
    refine x_iast hx hb hK hG 2 rfl (w1 := WM κ a uv3) (by rw [euv3]; rfl) hin dX5_dispatch_149 (fun H locs hG => ?_)
    refine lv_aload_n hx hb dX5_dispatch_150 rfl (lv_at hl 1 rfl) ?_
    refine x_get (C := RX5) (T := TX5) (N := 27) (ci := 5) hx hb hts iX5 hown hK hG 0 rfl rfl 3 (by decide) k16 (v := .ref (a 3)) rfl dX5_dispatch_151 ?_
    refine lv_sipush (v := 300) hx hb dX5_dispatch_154 (by decide) ?_
    refine lv_iload_n hx hb dX5_dispatch_157 rfl (lv_at hl 0 rfl) ?_
    refine lv_iadd hx hb dX5_dispatch_158 ?_
    refine lv_aload_n hx hb dX5_dispatch_159 rfl (lv_at hl 1 rfl) ?_
    refine x_get (C := RX5) (T := TX5) (N := 27) (ci := 5) hx hb hts iX5 hown hK hG 0 rfl rfl 3 (by decide) k16 (v := .ref (a 3)) rfl dX5_dispatch_160 ?_
    refine lv_iload_n hx hb dX5_dispatch_163 rfl (lv_at hl 3 rfl) ?_
    obtain ⟨v4, ev4, hin, hf⟩ := ck_e hf
    refine x_lald hx hb hK hG 3 rfl ev4 hin dX5_dispatch_164 ?_
    obtain ⟨uv5, euv5, hin, hf⟩ := ck_e hf
    refine x_last hx hb hK hG 3 rfl (w1 := WM κ a uv5) (by rw [euv5]; rfl) hin dX5_dispatch_165 (fun H locs hG => ?_)
    refine lv_aload_n hx hb dX5_dispatch_166 rfl (lv_at hl 1 rfl) ?_
    refine x_get (C := RX5) (T := TX5) (N := 27) (ci := 5) hx hb hts iX5 hown hK hG 0 rfl rfl 2 (by decide) k13 (v := .ref (a 2)) rfl dX5_dispatch_167 ?_
    refine lv_iconst (v := 2) hx hb dX5_dispatch_170 (by decide) ?_
    refine lv_dup2_11 hx hb dX5_dispatch_171 rfl rfl ?_
    obtain ⟨v6, ev6, hin, hf⟩ := ck_e hf
    refine x_iald hx hb hK hG 2 rfl ev6 hin dX5_dispatch_172 ?_
    refine lv_iconst (v := 1) hx hb dX5_dispatch_173 (by decide) ?_
    refine lv_iadd hx hb dX5_dispatch_174 ?_
    obtain ⟨uv7, euv7, hin, hf⟩ := ck_e hf
    refine x_iast hx hb hK hG 2 rfl (w1 := WM κ a uv7) (by rw [euv7]; rfl) hin dX5_dispatch_175 (fun H locs hG => ?_)
    refine lv_aload_n hx hb dX5_dispatch_176 rfl (lv_at hl 1 rfl) ?_
    refine lv_iload_n hx hb dX5_dispatch_177 rfl (lv_at hl 3 rfl) ?_
    obtain ⟨uv8, q9, hf⟩ := cl1_e hf
    refine x_callVv (pre := ([] : va_W)) (wc := WM κ a uv7) (wc1 := WM κ a uv8) (post := ([] : va_W)) (As := [.int x2]) (rest := []) (w1 := WM κ a uv8) ⟨hx, hb, hml, hown, hts⟩ hK hG hA (by simp only [List.append_assoc, List.nil_append, List.append_nil]) (by simp only [List.append_assoc, List.nil_append, List.append_nil]) (c_X5_goes l D κ a H.size x2 uv7 uv8 q9) (cwV 1 hts gX5_dispatch_X5_goes rfl rfl rfl (by decide +kernel) ⟨Nat.le_of_ble_eq_true rfl, Nat.le_of_ble_eq_true rfl⟩) 0 5 rfl rfl rfl rfl hl.1 rfl (Nat.le_of_ble_eq_true rfl) dX5_dispatch_178 ⟨Nat.zero_le _, Nat.zero_le _⟩ (fun H locs hG => ?_)
    refine lv_aload_n hx hb dX5_dispatch_181 rfl (lv_at hl 1 rfl) ?_
    obtain ⟨uv10, q11, hf⟩ := cl1_e hf
    refine x_callVv (pre := ([] : va_W)) (wc := WM κ a uv8) (wc1 := WM κ a uv10) (post := ([] : va_W)) (As := []) (rest := []) (w1 := WM κ a uv10) ⟨hx, hb, hml, hown, hts⟩ hK hG hA (by simp only [List.append_assoc, List.nil_append, List.append_nil]) (by simp only [List.append_assoc, List.nil_append, List.append_nil]) (c_X5_sweep l D κ a H.size uv8 uv10 q11) (cwV 0 hts gX5_dispatch_X5_sweep rfl rfl rfl (by decide +kernel) ⟨Nat.le_of_ble_eq_true rfl, Nat.le_of_ble_eq_true rfl⟩) 0 5 rfl rfl rfl rfl hl.1 rfl (Nat.le_of_ble_eq_true rfl) dX5_dispatch_182 ⟨Nat.zero_le _, Nat.zero_le _⟩ (fun H locs hG => ?_)
    refine lv_iload_n hx hb dX5_dispatch_185 rfl (lv_at hl 3 rfl) ?_
    have hz := Option.some.inj hf
    have z0 := (Prod.mk.inj hz).1
    replace hz := (Prod.mk.inj hz).2
    have z1 := hz
    exact x_iret hx hb hr hlk hK hG z0 (by rw [z1]) dX5_dispatch_186
  have L29 : ∀ (n : Nat), ∀ (x1 : Int32) (x2 : Int32) (x3 : Int32) (uv : MS), f_X5_dispatch_29 n x1 x2 x3 uv = some (r', uv') → ∀ (H : Heap) (locs : List Loc) (ls : Array Slot), xG D A s.heap (WM κ a uv) H locs → lv_has ls 4 [(0, .ref (a 0)), (1, .int x1), (2, .int x2), (3, .int x3)] → W p l e ({ frames := 6, cells := 0, slots := 0, locals := 135 } : Room) s m (([.ref (a 0), .int p1] : List Value).toArray) below meth c H locs 0 0 (MQ below (xQi D κ r' (WM κ a uv') A) (([.ref (a 0), .int p1] : List Value).toArray) s 0 0 A) (F0 m 29 ls []) := by
    intro  n
    induction n with
    | zero => intro x1 x2 x3 uv hf; cases hf
    | succ n ih =>
      intro x1 x2 x3 uv hf H locs ls hG hl
      replace hf : f_X5_dispatch_B29 (f_X5_dispatch_29 n) x1 x2 x3 uv = some (r', uv') := hf
      unfold f_X5_dispatch_B29 at hf
      refine lv_iload_n hx hb dX5_dispatch_29 rfl (lv_at hl 3 rfl) ?_
      refine lv_aload_n hx hb dX5_dispatch_30 rfl (lv_at hl 0 rfl) ?_
      refine x_get (C := RX5) (T := TX5) (N := 27) (ci := 5) hx hb hts iX5 hown hK hG 0 rfl rfl 2 (by decide) k13 (v := .ref (a 2)) rfl dX5_dispatch_31 ?_
      refine lv_iconst (v := 2) hx hb dX5_dispatch_34 (by decide) ?_
      obtain ⟨v12, ev12, hin, hf⟩ := ck_e hf
      refine x_iald hx hb hK hG 2 rfl ev12 hin dX5_dispatch_35 ?_
      refine lv_icmp_ge (tgt := 117) hx hb dX5_dispatch_36 (by decide) (fun c13 => ?_) (fun c13 => ?_)
      · replace hf := if_t c13 hf
        exact L117   x1 x2 uv hf H locs ls hG (lv_sub hl [0, 1, 2] rfl)
      · replace hf := if_f c13 hf
        refine lv_aload_n hx hb dX5_dispatch_39 rfl (lv_at hl 0 rfl) ?_
        refine x_get (C := RX5) (T := TX5) (N := 27) (ci := 5) hx hb hts iX5 hown hK hG 0 rfl rfl 2 (by decide) k13 (v := .ref (a 2)) rfl dX5_dispatch_40 ?_
        refine lv_bipush (v := 70) hx hb dX5_dispatch_43 (by decide) ?_
        refine lv_iconst (v := 2) hx hb dX5_dispatch_45 (by decide) ?_
        refine lv_iload_n hx hb dX5_dispatch_46 rfl (lv_at hl 3 rfl) ?_
        refine lv_imul hx hb dX5_dispatch_47 ?_
        refine lv_iadd hx hb dX5_dispatch_48 ?_
        refine lv_aload_n hx hb dX5_dispatch_49 rfl (lv_at hl 0 rfl) ?_
        refine x_get (C := RX5) (T := TX5) (N := 27) (ci := 5) hx hb hts iX5 hown hK hG 0 rfl rfl 2 (by decide) k13 (v := .ref (a 2)) rfl dX5_dispatch_50 ?_
        refine lv_bipush (v := 70) hx hb dX5_dispatch_53 (by decide) ?_
        refine lv_iconst (v := 2) hx hb dX5_dispatch_55 (by decide) ?_
        refine lv_iload_n hx hb dX5_dispatch_56 rfl (lv_at hl 3 rfl) ?_
        refine lv_imul hx hb dX5_dispatch_57 ?_
        refine lv_iadd hx hb dX5_dispatch_58 ?_
        refine lv_iconst (v := 2) hx hb dX5_dispatch_59 (by decide) ?_
        refine lv_iadd hx hb dX5_dispatch_60 ?_
        obtain ⟨v14, ev14, hin, hf⟩ := ck_e hf
        refine x_iald hx hb hK hG 2 rfl ev14 hin dX5_dispatch_61 ?_
        obtain ⟨uv15, euv15, hin, hf⟩ := ck_e hf
        refine x_iast hx hb hK hG 2 rfl (w1 := WM κ a uv15) (by rw [euv15]; rfl) hin dX5_dispatch_62 (fun H locs hG => ?_)
        refine lv_aload_n hx hb dX5_dispatch_63 rfl (lv_at hl 0 rfl) ?_
        refine x_get (C := RX5) (T := TX5) (N := 27) (ci := 5) hx hb hts iX5 hown hK hG 0 rfl rfl 2 (by decide) k13 (v := .ref (a 2)) rfl dX5_dispatch_64 ?_
        refine lv_bipush (v := 70) hx hb dX5_dispatch_67 (by decide) ?_
        refine lv_iconst (v := 2) hx hb dX5_dispatch_69 (by decide) ?_
        refine lv_iload_n hx hb dX5_dispatch_70 rfl (lv_at hl 3 rfl) ?_
        refine lv_imul hx hb dX5_dispatch_71 ?_
        refine lv_iadd hx hb dX5_dispatch_72 ?_
        refine lv_iconst (v := 1) hx hb dX5_dispatch_73 (by decide) ?_
        refine lv_iadd hx hb dX5_dispatch_74 ?_
        refine lv_aload_n hx hb dX5_dispatch_75 rfl (lv_at hl 0 rfl) ?_
        refine x_get (C := RX5) (T := TX5) (N := 27) (ci := 5) hx hb hts iX5 hown hK hG 0 rfl rfl 2 (by decide) k13 (v := .ref (a 2)) rfl dX5_dispatch_76 ?_
        refine lv_bipush (v := 70) hx hb dX5_dispatch_79 (by decide) ?_
        refine lv_iconst (v := 2) hx hb dX5_dispatch_81 (by decide) ?_
        refine lv_iload_n hx hb dX5_dispatch_82 rfl (lv_at hl 3 rfl) ?_
        refine lv_imul hx hb dX5_dispatch_83 ?_
        refine lv_iadd hx hb dX5_dispatch_84 ?_
        refine lv_iconst (v := 3) hx hb dX5_dispatch_85 (by decide) ?_
        refine lv_iadd hx hb dX5_dispatch_86 ?_
        obtain ⟨v16, ev16, hin, hf⟩ := ck_e hf
        refine x_iald hx hb hK hG 2 rfl ev16 hin dX5_dispatch_87 ?_
        obtain ⟨uv17, euv17, hin, hf⟩ := ck_e hf
        refine x_iast hx hb hK hG 2 rfl (w1 := WM κ a uv17) (by rw [euv17]; rfl) hin dX5_dispatch_88 (fun H locs hG => ?_)
        refine lv_aload_n hx hb dX5_dispatch_89 rfl (lv_at hl 0 rfl) ?_
        refine x_get (C := RX5) (T := TX5) (N := 27) (ci := 5) hx hb hts iX5 hown hK hG 0 rfl rfl 3 (by decide) k16 (v := .ref (a 3)) rfl dX5_dispatch_90 ?_
        refine lv_sipush (v := 300) hx hb dX5_dispatch_93 (by decide) ?_
        refine lv_iload_n hx hb dX5_dispatch_96 rfl (lv_at hl 3 rfl) ?_
        refine lv_iadd hx hb dX5_dispatch_97 ?_
        refine lv_aload_n hx hb dX5_dispatch_98 rfl (lv_at hl 0 rfl) ?_
        refine x_get (C := RX5) (T := TX5) (N := 27) (ci := 5) hx hb hts iX5 hown hK hG 0 rfl rfl 3 (by decide) k16 (v := .ref (a 3)) rfl dX5_dispatch_99 ?_
        refine lv_sipush (v := 300) hx hb dX5_dispatch_102 (by decide) ?_
        refine lv_iload_n hx hb dX5_dispatch_105 rfl (lv_at hl 3 rfl) ?_
        refine lv_iadd hx hb dX5_dispatch_106 ?_
        refine lv_iconst (v := 1) hx hb dX5_dispatch_107 (by decide) ?_
        refine lv_iadd hx hb dX5_dispatch_108 ?_
        obtain ⟨v18, ev18, hin, hf⟩ := ck_e hf
        refine x_lald hx hb hK hG 3 rfl ev18 hin dX5_dispatch_109 ?_
        obtain ⟨uv19, euv19, hin, hf⟩ := ck_e hf
        refine x_last hx hb hK hG 3 rfl (w1 := WM κ a uv19) (by rw [euv19]; rfl) hin dX5_dispatch_110 (fun H locs hG => ?_)
        obtain ⟨y20, ey20, hf⟩ := bnd_e hf
        refine lv_iinc (v := y20) (lv' := [(3, .int y20), (0, .ref (a 0)), (1, .int x1), (2, .int x2)]) hx hb dX5_dispatch_111 hl (k := 3) rfl (by rw [ey20]; rfl) (by decide) rfl (fun ls hl => ?_)
        refine lv_goto (tgt := 29) hx hb dX5_dispatch_114 (by decide) ?_
        exact ih x1 x2 y20 uv19 hf H locs ls hG (lv_sub hl [1, 2, 3, 0] rfl)
  unfold f_X5_dispatch at hf
  refine lv_aload_n hx hb dX5_dispatch_0 rfl (lv_at hl 0 rfl) ?_
  refine lv_iload_n hx hb dX5_dispatch_1 rfl (lv_at hl 1 rfl) ?_
  obtain ⟨r21, uv22, q23, hf⟩ := cl2_e hf
  refine x_callVi (pre := ([] : va_W)) (wc := WM κ a uv) (wc1 := WM κ a uv22) (post := ([] : va_W)) (As := [.int p1]) (rest := []) (w1 := WM κ a uv22) ⟨hx, hb, hml, hown, hts⟩ hK hG hA (by simp only [List.append_assoc, List.nil_append, List.append_nil]) (by simp only [List.append_assoc, List.nil_append, List.append_nil]) (c_X5_takeRoot l D κ a H.size p1 uv r21 uv22 q23) (cwV 1 hts gX5_dispatch_X5_takeRoot rfl rfl rfl (by decide +kernel) ⟨Nat.le_of_ble_eq_true rfl, Nat.le_of_ble_eq_true rfl⟩) 0 5 rfl rfl rfl rfl hl.1 rfl (Nat.le_of_ble_eq_true rfl) dX5_dispatch_2 ⟨Nat.zero_le _, Nat.zero_le _⟩ (fun H locs hG => ?_)
  refine lv_istore_n (lv' := [(2, .int r21), (0, .ref (a 0)), (1, .int p1)]) hx hb dX5_dispatch_5 rfl hl (by decide) rfl (fun ls hl => ?_)
  refine lv_aload_n hx hb dX5_dispatch_6 rfl (lv_at hl 1 rfl) ?_
  refine x_get (C := RX5) (T := TX5) (N := 27) (ci := 5) hx hb hts iX5 hown hK hG 0 rfl rfl 2 (by decide) k13 (v := .ref (a 2)) rfl dX5_dispatch_7 ?_
  refine lv_iconst (v := 2) hx hb dX5_dispatch_10 (by decide) ?_
  obtain ⟨v24, ev24, hin, hf⟩ := ck_e hf
  refine x_iald hx hb hK hG 2 rfl ev24 hin dX5_dispatch_11 ?_
  refine lv_bipush (v := 40) hx hb dX5_dispatch_12 (by decide) ?_
  refine lv_icmp_ne (tgt := 117) hx hb dX5_dispatch_14 (by decide) (fun c25 => ?_) (fun c25 => ?_)
  · replace hf := if_f c25 hf
    exact L117   p1 r21 uv22 hf H locs ls hG (lv_sub hl [1, 2, 0] rfl)
  · replace hf := if_t c25 hf
    refine lv_aload_n hx hb dX5_dispatch_17 rfl (lv_at hl 1 rfl) ?_
    refine x_get (C := RX5) (T := TX5) (N := 27) (ci := 5) hx hb hts iX5 hown hK hG 0 rfl rfl 2 (by decide) k13 (v := .ref (a 2)) rfl dX5_dispatch_18 ?_
    refine lv_iconst (v := 2) hx hb dX5_dispatch_21 (by decide) ?_
    refine lv_dup2_11 hx hb dX5_dispatch_22 rfl rfl ?_
    obtain ⟨v26, ev26, hin, hf⟩ := ck_e hf
    refine x_iald hx hb hK hG 2 rfl ev26 hin dX5_dispatch_23 ?_
    refine lv_iconst (v := 1) hx hb dX5_dispatch_24 (by decide) ?_
    refine lv_isub hx hb dX5_dispatch_25 ?_
    obtain ⟨uv27, euv27, hin, hf⟩ := ck_e hf
    refine x_iast hx hb hK hG 2 rfl (w1 := WM κ a uv27) (by rw [euv27]; rfl) hin dX5_dispatch_26 (fun H locs hG => ?_)
    refine lv_iconst (v := 0) hx hb dX5_dispatch_27 (by decide) ?_
    refine lv_istore_n (lv' := [(3, .int 0), (2, .int r21), (0, .ref (a 0)), (1, .int p1)]) hx hb dX5_dispatch_28 rfl hl (by decide) rfl (fun ls hl => ?_)
    exact L29  FU p1 r21 0 uv27 hf H locs ls hG (lv_sub hl [2, 3, 1, 0] rfl)
set_option maxRecDepth 100000 in
set_option maxHeartbeats 4000000 in
theorem c_X5_take (l : Launch) (D : va_G) (κ : Nat → ClassId) (a : Nat → Nat) (sz : Nat) (p1 : Int32) (uv : MS) (r' : Int32) (uv' : MS) (hf : f_X5_take p1 uv = some (r', uv')) : Met l yX5_take wsX5_take ({ frames := 7, cells := 0, slots := 0, locals := 158 } : Room) (xPc D κ [.ref (a 0), .int p1] (WM κ a uv) sz) (xQi D κ r' (WM κ a uv') (va_A (WM κ a uv) sz)) 0 0 (va_A (WM κ a uv) sz) := by
  refine x_ofW (cc := cX5_take) (maxL := 2) (ret := (some .int)) (Qf := fun A => xQi D κ r' (WM κ a uv') A) (by decide) rfl (Nat.le_of_ble_eq_true rfl) ?_
  intro p e s m below meth c hx hb hr hlk hml hown hts hK A hA H locs hG ls hl
  have hown : s.vm.findClass RX5 = some m.cls := hown
  have hl : lv_has ls 2 [(0, .ref (a 0)), (1, .int p1)] := hl
  have iX5 : ∀ w ∈ u_ws RX5 TX5 27, w ∈ wsX5_take := fun _ h => List.mem_cons_of_mem _ (List.mem_append_right _ h)
  have k13 := hts (.fieldLink RX5 13 "SpineDesksModel" "row" "[I") (List.mem_of_getElem? (i := 2) rfl)
  have k63 := hts (.fieldLink RX5 63 "SpineDesksModel" "thrown" "I") (List.mem_of_getElem? (i := 1) rfl)
  unfold f_X5_take at hf
  refine lv_aload_n hx hb dX5_take_0 rfl (lv_at hl 0 rfl) ?_
  refine lv_iconst (v := 0) hx hb dX5_take_1 (by decide) ?_
  obtain ⟨uv1, euv1, hf⟩ := bnd_e hf
  refine x_put (C := RX5) (T := TX5) (N := 27) (ci := 5) hx hb hts iX5 tyX5 tyX5_ok nmX5 hown hK hG 0 rfl rfl 0 (by decide) k63 rfl (ty := .int) (v := .int 0) rfl rfl rfl (Nat.le_of_ble_eq_true rfl) (w1 := WM κ a uv1) (by rw [euv1]; rfl) dX5_take_2 (fun H locs hG => ?_)
  refine lv_iload_n hx hb dX5_take_5 rfl (lv_at hl 1 rfl) ?_
  obtain ⟨r2, q3, hf⟩ := cl1_e hf
  refine x_callSi (pre := ([] : va_W)) (wc := ([] : va_W)) (wc1 := ([] : va_W)) (post := WM κ a uv1) (As := [.int p1]) (rest := []) (w1 := WM κ a uv1) ⟨hx, hb, hml, hown, hts⟩ hK hG hA (by simp only [List.append_assoc, List.nil_append, List.append_nil]) (by simp only [List.append_assoc, List.nil_append, List.append_nil]) (c_X5_isDesk l D κ a H.size p1 r2 q3) (va_cwS 1 hts gX5_take_X5_isDesk rfl rfl rfl (by decide +kernel) ⟨Nat.le_of_ble_eq_true rfl, Nat.le_of_ble_eq_true rfl⟩) rfl hl.1 rfl (Nat.le_of_ble_eq_true rfl) dX5_take_6 ⟨Nat.zero_le _, Nat.zero_le _⟩ (fun H locs hG => ?_)
  refine lv_if_ne (tgt := 18) hx hb dX5_take_9 (by decide) (fun c4 => ?_) (fun c4 => ?_)
  · replace hf := if_f c4 hf
    refine lv_aload_n hx hb dX5_take_18 rfl (lv_at hl 0 rfl) ?_
    refine x_get (C := RX5) (T := TX5) (N := 27) (ci := 5) hx hb hts iX5 hown hK hG 0 rfl rfl 2 (by decide) k13 (v := .ref (a 2)) rfl dX5_take_19 ?_
    refine lv_iconst (v := 4) hx hb dX5_take_22 (by decide) ?_
    refine lv_iload_n hx hb dX5_take_23 rfl (lv_at hl 1 rfl) ?_
    refine lv_iadd hx hb dX5_take_24 ?_
    obtain ⟨v5, ev5, hin, hf⟩ := ck_e hf
    refine x_iald hx hb hK hG 2 rfl ev5 hin dX5_take_25 ?_
    refine lv_iconst (v := (-1)) hx hb dX5_take_26 (by decide) ?_
    refine lv_icmp_ne (tgt := 39) hx hb dX5_take_27 (by decide) (fun c6 => ?_) (fun c6 => ?_)
    · replace hf := if_f c6 hf
      refine lv_aload_n hx hb dX5_take_39 rfl (lv_at hl 0 rfl) ?_
      refine lv_iload_n hx hb dX5_take_40 rfl (lv_at hl 1 rfl) ?_
      obtain ⟨r7, uv8, q9, hf⟩ := cl2_e hf
      refine x_callVi (pre := ([] : va_W)) (wc := WM κ a uv1) (wc1 := WM κ a uv8) (post := ([] : va_W)) (As := [.int p1]) (rest := []) (w1 := WM κ a uv8) ⟨hx, hb, hml, hown, hts⟩ hK hG hA (by simp only [List.append_assoc, List.nil_append, List.append_nil]) (by simp only [List.append_assoc, List.nil_append, List.append_nil]) (c_X5_dispatch l D κ a H.size p1 uv1 r7 uv8 q9) (cwV 1 hts gX5_take_X5_dispatch rfl rfl rfl (by decide +kernel) ⟨Nat.le_of_ble_eq_true rfl, Nat.le_of_ble_eq_true rfl⟩) 0 5 rfl rfl rfl rfl hl.1 rfl (Nat.le_of_ble_eq_true rfl) dX5_take_41 ⟨Nat.zero_le _, Nat.zero_le _⟩ (fun H locs hG => ?_)
      have hz := Option.some.inj hf
      have z0 := (Prod.mk.inj hz).1
      replace hz := (Prod.mk.inj hz).2
      have z1 := hz
      exact x_iret hx hb hr hlk hK hG z0 (by rw [z1]) dX5_take_44
    · replace hf := if_t c6 hf
      refine lv_aload_n hx hb dX5_take_30 rfl (lv_at hl 0 rfl) ?_
      refine lv_bipush (v := (-3)) hx hb dX5_take_31 (by decide) ?_
      obtain ⟨r10, uv11, q12, hf⟩ := cl2_e hf
      refine x_callVi (pre := ([] : va_W)) (wc := WM κ a uv1) (wc1 := WM κ a uv11) (post := ([] : va_W)) (As := [.int ((-3))]) (rest := []) (w1 := WM κ a uv11) ⟨hx, hb, hml, hown, hts⟩ hK hG hA (by simp only [List.append_assoc, List.nil_append, List.append_nil]) (by simp only [List.append_assoc, List.nil_append, List.append_nil]) (c_X5_refuse l D κ a H.size ((-3)) uv1 r10 uv11 q12) (cwV 1 hts gX5_take_X5_refuse rfl rfl rfl (by decide +kernel) ⟨Nat.le_of_ble_eq_true rfl, Nat.le_of_ble_eq_true rfl⟩) 0 5 rfl rfl rfl rfl hl.1 rfl (Nat.le_of_ble_eq_true rfl) dX5_take_33 ⟨Nat.zero_le _, Nat.zero_le _⟩ (fun H locs hG => ?_)
      refine lv_goto (tgt := 44) hx hb dX5_take_36 (by decide) ?_
      have hz := Option.some.inj hf
      have z0 := (Prod.mk.inj hz).1
      replace hz := (Prod.mk.inj hz).2
      have z1 := hz
      exact x_iret hx hb hr hlk hK hG z0 (by rw [z1]) dX5_take_44
  · replace hf := if_t c4 hf
    refine lv_aload_n hx hb dX5_take_12 rfl (lv_at hl 0 rfl) ?_
    refine lv_iconst (v := (-1)) hx hb dX5_take_13 (by decide) ?_
    obtain ⟨r13, uv14, q15, hf⟩ := cl2_e hf
    refine x_callVi (pre := ([] : va_W)) (wc := WM κ a uv1) (wc1 := WM κ a uv14) (post := ([] : va_W)) (As := [.int ((-1))]) (rest := []) (w1 := WM κ a uv14) ⟨hx, hb, hml, hown, hts⟩ hK hG hA (by simp only [List.append_assoc, List.nil_append, List.append_nil]) (by simp only [List.append_assoc, List.nil_append, List.append_nil]) (c_X5_refuse l D κ a H.size ((-1)) uv1 r13 uv14 q15) (cwV 1 hts gX5_take_X5_refuse rfl rfl rfl (by decide +kernel) ⟨Nat.le_of_ble_eq_true rfl, Nat.le_of_ble_eq_true rfl⟩) 0 5 rfl rfl rfl rfl hl.1 rfl (Nat.le_of_ble_eq_true rfl) dX5_take_14 ⟨Nat.zero_le _, Nat.zero_le _⟩ (fun H locs hG => ?_)
    have hz := Option.some.inj hf
    have z0 := (Prod.mk.inj hz).1
    replace hz := (Prod.mk.inj hz).2
    have z1 := hz
    exact x_iret hx hb hr hlk hK hG z0 (by rw [z1]) dX5_take_17
set_option maxRecDepth 100000 in
set_option maxHeartbeats 4000000 in
theorem c_X5_turns (l : Launch) (D : va_G) (κ : Nat → ClassId) (a : Nat → Nat) (sz : Nat)  (uv : MS) (r' : Int32) (uv' : MS) (hf : f_X5_turns uv = some (r', uv')) : Met l yX5_turns wsX5_turns ({ frames := 7, cells := 0, slots := 0, locals := 158 } : Room) (xPc D κ [.ref (a 0)] (WM κ a uv) sz) (xQi D κ r' (WM κ a uv') (va_A (WM κ a uv) sz)) 0 0 (va_A (WM κ a uv) sz) := by
  refine x_ofW (cc := cX5_turns) (maxL := 2) (ret := (some .int)) (Qf := fun A => xQi D κ r' (WM κ a uv') A) (by decide) rfl (Nat.le_of_ble_eq_true rfl) ?_
  intro p e s m below meth c hx hb hr hlk hml hown hts hK A hA H locs hG ls hl
  have hown : s.vm.findClass RX5 = some m.cls := hown
  have hl : lv_has ls 2 [(0, .ref (a 0))] := hl
  have iX5 : ∀ w ∈ u_ws RX5 TX5 27, w ∈ wsX5_turns := fun _ h => List.mem_cons_of_mem _ (List.mem_append_right _ h)
  have k13 := hts (.fieldLink RX5 13 "SpineDesksModel" "row" "[I") (List.mem_of_getElem? (i := 1) rfl)
  unfold f_X5_turns at hf
  refine lv_aload_n hx hb dX5_turns_0 rfl (lv_at hl 0 rfl) ?_
  refine x_get (C := RX5) (T := TX5) (N := 27) (ci := 5) hx hb hts iX5 hown hK hG 0 rfl rfl 2 (by decide) k13 (v := .ref (a 2)) rfl dX5_turns_1 ?_
  refine lv_iconst (v := 1) hx hb dX5_turns_4 (by decide) ?_
  obtain ⟨v1, ev1, hin, hf⟩ := ck_e hf
  refine x_iald hx hb hK hG 2 rfl ev1 hin dX5_turns_5 ?_
  refine lv_istore_n (lv' := [(1, .int v1), (0, .ref (a 0))]) hx hb dX5_turns_6 rfl hl (by decide) rfl (fun ls hl => ?_)
  refine lv_aload_n hx hb dX5_turns_7 rfl (lv_at hl 1 rfl) ?_
  refine x_get (C := RX5) (T := TX5) (N := 27) (ci := 5) hx hb hts iX5 hown hK hG 0 rfl rfl 2 (by decide) k13 (v := .ref (a 2)) rfl dX5_turns_8 ?_
  refine lv_iconst (v := 1) hx hb dX5_turns_11 (by decide) ?_
  refine lv_iload_n hx hb dX5_turns_12 rfl (lv_at hl 0 rfl) ?_
  refine lv_iconst (v := 1) hx hb dX5_turns_13 (by decide) ?_
  refine lv_iadd hx hb dX5_turns_14 ?_
  refine lv_bipush (v := 6) hx hb dX5_turns_15 (by decide) ?_
  refine lv_irem hx hb dX5_turns_17 (by decide) ?_
  obtain ⟨uv2, euv2, hin, hf⟩ := ck_e hf
  refine x_iast hx hb hK hG 2 rfl (w1 := WM κ a uv2) (by rw [euv2]; rfl) hin dX5_turns_18 (fun H locs hG => ?_)
  refine lv_aload_n hx hb dX5_turns_19 rfl (lv_at hl 1 rfl) ?_
  refine x_get (C := RX5) (T := TX5) (N := 27) (ci := 5) hx hb hts iX5 hown hK hG 0 rfl rfl 2 (by decide) k13 (v := .ref (a 2)) rfl dX5_turns_20 ?_
  refine lv_iconst (v := 4) hx hb dX5_turns_23 (by decide) ?_
  refine lv_iload_n hx hb dX5_turns_24 rfl (lv_at hl 0 rfl) ?_
  refine lv_iadd hx hb dX5_turns_25 ?_
  obtain ⟨v3, ev3, hin, hf⟩ := ck_e hf
  refine x_iald hx hb hK hG 2 rfl ev3 hin dX5_turns_26 ?_
  refine lv_iconst (v := (-1)) hx hb dX5_turns_27 (by decide) ?_
  refine lv_icmp_ne (tgt := 35) hx hb dX5_turns_28 (by decide) (fun c4 => ?_) (fun c4 => ?_)
  · replace hf := if_f c4 hf
    refine lv_aload_n hx hb dX5_turns_35 rfl (lv_at hl 1 rfl) ?_
    refine lv_iload_n hx hb dX5_turns_36 rfl (lv_at hl 0 rfl) ?_
    obtain ⟨r5, uv6, q7, hf⟩ := cl2_e hf
    refine x_callVi (pre := ([] : va_W)) (wc := WM κ a uv2) (wc1 := WM κ a uv6) (post := ([] : va_W)) (As := [.int v1]) (rest := []) (w1 := WM κ a uv6) ⟨hx, hb, hml, hown, hts⟩ hK hG hA (by simp only [List.append_assoc, List.nil_append, List.append_nil]) (by simp only [List.append_assoc, List.nil_append, List.append_nil]) (c_X5_dispatch l D κ a H.size v1 uv2 r5 uv6 q7) (cwV 1 hts gX5_turns_X5_dispatch rfl rfl rfl (by decide +kernel) ⟨Nat.le_of_ble_eq_true rfl, Nat.le_of_ble_eq_true rfl⟩) 0 5 rfl rfl rfl rfl hl.1 rfl (Nat.le_of_ble_eq_true rfl) dX5_turns_37 ⟨Nat.zero_le _, Nat.zero_le _⟩ (fun H locs hG => ?_)
    have hz := Option.some.inj hf
    have z0 := (Prod.mk.inj hz).1
    replace hz := (Prod.mk.inj hz).2
    have z1 := hz
    exact x_iret hx hb hr hlk hK hG z0 (by rw [z1]) dX5_turns_40
  · replace hf := if_t c4 hf
    refine lv_iconst (v := (-1)) hx hb dX5_turns_31 (by decide) ?_
    refine lv_goto (tgt := 40) hx hb dX5_turns_32 (by decide) ?_
    have hz := Option.some.inj hf
    have z0 := (Prod.mk.inj hz).1
    replace hz := (Prod.mk.inj hz).2
    have z1 := hz
    exact x_iret hx hb hr hlk hK hG z0 (by rw [z1]) dX5_turns_40
set_option maxRecDepth 100000 in
set_option maxHeartbeats 4000000 in
theorem c_X5_round (l : Launch) (D : va_G) (κ : Nat → ClassId) (a : Nat → Nat) (sz : Nat) (p1 : Int32) (uv : MS) (r' : Int32) (uv' : MS) (hf : f_X5_round p1 uv = some (r', uv')) : Met l yX5_round wsX5_round ({ frames := 8, cells := 0, slots := 0, locals := 179 } : Room) (xPc D κ [.ref (a 0), .int p1] (WM κ a uv) sz) (xQi D κ r' (WM κ a uv') (va_A (WM κ a uv) sz)) 0 0 (va_A (WM κ a uv) sz) := by
  refine x_ofW (cc := cX5_round) (maxL := 4) (ret := (some .int)) (Qf := fun A => xQi D κ r' (WM κ a uv') A) (by decide) rfl (Nat.le_of_ble_eq_true rfl) ?_
  intro p e s m below meth c hx hb hr hlk hml hown hts hK A hA H locs hG ls hl
  have hown : s.vm.findClass RX5 = some m.cls := hown
  have hl : lv_has ls 4 [(0, .ref (a 0)), (1, .int p1)] := hl
  have iX5 : ∀ w ∈ u_ws RX5 TX5 27, w ∈ wsX5_round := fun _ h => List.mem_cons_of_mem _ (List.mem_append_right _ h)
  have k147 := hts (.constantLong RX5 147 (30)) (List.mem_of_getElem? (i := 2) rfl)
  have k63 := hts (.fieldLink RX5 63 "SpineDesksModel" "thrown" "I") (List.mem_of_getElem? (i := 1) rfl)
  have L46 : ∀ (rec27 : Int32 → Int32 → Int32 → MS → Option (Int32 × MS)) (hr27 : ∀ (y1 : Int32) (y2 : Int32) (y3 : Int32) (uv : MS), rec27 y1 y2 y3 uv = some (r', uv') → ∀ (H : Heap) (locs : List Loc) (ls : Array Slot), xG D A s.heap (WM κ a uv) H locs → lv_has ls 4 [(0, .ref (a 0)), (1, .int y1), (2, .int y2), (3, .int y3)] → W p l e ({ frames := 8, cells := 0, slots := 0, locals := 179 } : Room) s m (([.ref (a 0), .int p1] : List Value).toArray) below meth c H locs 0 0 (MQ below (xQi D κ r' (WM κ a uv') A) (([.ref (a 0), .int p1] : List Value).toArray) s 0 0 A) (F0 m 27 ls [])), ∀ (x1 : Int32) (x3 : Int32) (s0 : Int32) (s1 : Int32) (uv : MS), f_X5_round_46 rec27 x1 x3 s0 s1 uv = some (r', uv') → ∀ (H : Heap) (locs : List Loc) (ls : Array Slot), xG D A s.heap (WM κ a uv) H locs → lv_has ls 4 [(0, .ref (a 0)), (1, .int x1), (3, .int x3)] → W p l e ({ frames := 8, cells := 0, slots := 0, locals := 179 } : Room) s m (([.ref (a 0), .int p1] : List Value).toArray) below meth c H locs 0 0 (MQ below (xQi D κ r' (WM κ a uv') A) (([.ref (a 0), .int p1] : List Value).toArray) s 0 0 A) (F0 m 46 ls [.int s1, .int s0]) := by
    intro rec27 hr27 x1 x3 s0 s1 uv hf H locs ls hG hl
    unfold f_X5_round_46 at hf
    refine lv_iadd hx hb dX5_round_46 ?_
    refine lv_topi (fun y1 ey1 => ?_)
    replace hf := bnd_at ey1 hf
    refine lv_istore_n (lv' := [(2, .int y1), (0, .ref (a 0)), (1, .int x1), (3, .int x3)]) hx hb dX5_round_47 rfl hl (by decide) rfl (fun ls hl => ?_)
    obtain ⟨y2, ey2, hf⟩ := bnd_e hf
    refine lv_iinc (v := y2) (lv' := [(3, .int y2), (2, .int y1), (0, .ref (a 0)), (1, .int x1)]) hx hb dX5_round_48 hl (k := 3) rfl (by rw [ey2]; rfl) (by decide) rfl (fun ls hl => ?_)
    refine lv_goto (tgt := 27) hx hb dX5_round_51 (by decide) ?_
    exact hr27 x1 y1 y2 uv hf H locs ls hG (lv_sub hl [2, 3, 1, 0] rfl)
  have L27 : ∀ (n : Nat), ∀ (x1 : Int32) (x2 : Int32) (x3 : Int32) (uv : MS), f_X5_round_27 n x1 x2 x3 uv = some (r', uv') → ∀ (H : Heap) (locs : List Loc) (ls : Array Slot), xG D A s.heap (WM κ a uv) H locs → lv_has ls 4 [(0, .ref (a 0)), (1, .int x1), (2, .int x2), (3, .int x3)] → W p l e ({ frames := 8, cells := 0, slots := 0, locals := 179 } : Room) s m (([.ref (a 0), .int p1] : List Value).toArray) below meth c H locs 0 0 (MQ below (xQi D κ r' (WM κ a uv') A) (([.ref (a 0), .int p1] : List Value).toArray) s 0 0 A) (F0 m 27 ls []) := by
    intro  n
    induction n with
    | zero => intro x1 x2 x3 uv hf; cases hf
    | succ n ih =>
      intro x1 x2 x3 uv hf H locs ls hG hl
      replace hf : f_X5_round_B27 (f_X5_round_27 n) x1 x2 x3 uv = some (r', uv') := hf
      unfold f_X5_round_B27 at hf
      refine lv_iload_n hx hb dX5_round_27 rfl (lv_at hl 3 rfl) ?_
      refine lv_iload_n hx hb dX5_round_28 rfl (lv_at hl 1 rfl) ?_
      refine lv_icmp_ge (tgt := 54) hx hb dX5_round_29 (by decide) (fun c3 => ?_) (fun c3 => ?_)
      · replace hf := if_t c3 hf
        refine lv_iload_n hx hb dX5_round_54 rfl (lv_at hl 2 rfl) ?_
        have hz := Option.some.inj hf
        have z0 := (Prod.mk.inj hz).1
        replace hz := (Prod.mk.inj hz).2
        have z1 := hz
        exact x_iret hx hb hr hlk hK hG z0 (by rw [z1]) dX5_round_55
      · replace hf := if_f c3 hf
        refine lv_iload_n hx hb dX5_round_32 rfl (lv_at hl 2 rfl) ?_
        refine lv_aload_n hx hb dX5_round_33 rfl (lv_at hl 0 rfl) ?_
        obtain ⟨r4, uv5, q6, hf⟩ := cl2_e hf
        refine x_callVi (pre := ([] : va_W)) (wc := WM κ a uv) (wc1 := WM κ a uv5) (post := ([] : va_W)) (As := []) (rest := [.int x2]) (w1 := WM κ a uv5) ⟨hx, hb, hml, hown, hts⟩ hK hG hA (by simp only [List.append_assoc, List.nil_append, List.append_nil]) (by simp only [List.append_assoc, List.nil_append, List.append_nil]) (c_X5_turns l D κ a H.size uv r4 uv5 q6) (cwV 0 hts gX5_round_X5_turns rfl rfl rfl (by decide +kernel) ⟨Nat.le_of_ble_eq_true rfl, Nat.le_of_ble_eq_true rfl⟩) 0 5 rfl rfl rfl rfl hl.1 rfl (Nat.le_of_ble_eq_true rfl) dX5_round_34 ⟨Nat.zero_le _, Nat.zero_le _⟩ (fun H locs hG => ?_)
        refine lv_iconst (v := (-1)) hx hb dX5_round_37 (by decide) ?_
        refine lv_icmp_ne (tgt := 45) hx hb dX5_round_38 (by decide) (fun c7 => ?_) (fun c7 => ?_)
        · replace hf := if_f c7 hf
          refine lv_iconst (v := 1) hx hb dX5_round_45 (by decide) ?_
          exact L46 (f_X5_round_27 n) ih  x1 x3 x2 1 uv5 hf H locs ls hG (lv_sub hl [0, 1, 3] rfl)
        · replace hf := if_t c7 hf
          refine lv_iconst (v := 0) hx hb dX5_round_41 (by decide) ?_
          refine lv_goto (tgt := 46) hx hb dX5_round_42 (by decide) ?_
          exact L46 (f_X5_round_27 n) ih  x1 x3 x2 0 uv5 hf H locs ls hG (lv_sub hl [0, 1, 3] rfl)
  unfold f_X5_round at hf
  refine lv_aload_n hx hb dX5_round_0 rfl (lv_at hl 0 rfl) ?_
  refine lv_iconst (v := 0) hx hb dX5_round_1 (by decide) ?_
  obtain ⟨uv8, euv8, hf⟩ := bnd_e hf
  refine x_put (C := RX5) (T := TX5) (N := 27) (ci := 5) hx hb hts iX5 tyX5 tyX5_ok nmX5 hown hK hG 0 rfl rfl 0 (by decide) k63 rfl (ty := .int) (v := .int 0) rfl rfl rfl (Nat.le_of_ble_eq_true rfl) (w1 := WM κ a uv8) (by rw [euv8]; rfl) dX5_round_2 (fun H locs hG => ?_)
  refine lv_iload_n hx hb dX5_round_5 rfl (lv_at hl 1 rfl) ?_
  refine lv_i2l hx hb dX5_round_6 rfl ?_
  refine lv_lconst (v := 1) hx hb dX5_round_7 (by decide) ?_
  refine lv_ldc2 (v := 30) hx hb hown k147 dX5_round_8 ?_
  obtain ⟨r9, q10, hf⟩ := cl1_e hf
  refine x_callSi (pre := ([] : va_W)) (wc := ([] : va_W)) (wc1 := ([] : va_W)) (post := WM κ a uv8) (As := [.long (p1.toInt64), .long 1, .long 30]) (rest := []) (w1 := WM κ a uv8) ⟨hx, hb, hml, hown, hts⟩ hK hG hA (by simp only [List.append_assoc, List.nil_append, List.append_nil]) (by simp only [List.append_assoc, List.nil_append, List.append_nil]) (c_X5_in l D κ a H.size (p1.toInt64) 1 30 r9 q10) (va_cwS 3 hts gX5_round_X5_in rfl rfl rfl (by decide +kernel) ⟨Nat.le_of_ble_eq_true rfl, Nat.le_of_ble_eq_true rfl⟩) rfl hl.1 rfl (Nat.le_of_ble_eq_true rfl) dX5_round_11 ⟨Nat.zero_le _, Nat.zero_le _⟩ (fun H locs hG => ?_)
  refine lv_if_ne (tgt := 23) hx hb dX5_round_14 (by decide) (fun c11 => ?_) (fun c11 => ?_)
  · replace hf := if_f c11 hf
    refine lv_iconst (v := 0) hx hb dX5_round_23 (by decide) ?_
    refine lv_istore_n (lv' := [(2, .int 0), (0, .ref (a 0)), (1, .int p1)]) hx hb dX5_round_24 rfl hl (by decide) rfl (fun ls hl => ?_)
    refine lv_iconst (v := 0) hx hb dX5_round_25 (by decide) ?_
    refine lv_istore_n (lv' := [(3, .int 0), (2, .int 0), (0, .ref (a 0)), (1, .int p1)]) hx hb dX5_round_26 rfl hl (by decide) rfl (fun ls hl => ?_)
    exact L27  FU p1 0 0 uv8 hf H locs ls hG (lv_sub hl [2, 3, 1, 0] rfl)
  · replace hf := if_t c11 hf
    refine lv_aload_n hx hb dX5_round_17 rfl (lv_at hl 0 rfl) ?_
    refine lv_iconst (v := (-1)) hx hb dX5_round_18 (by decide) ?_
    obtain ⟨r12, uv13, q14, hf⟩ := cl2_e hf
    refine x_callVi (pre := ([] : va_W)) (wc := WM κ a uv8) (wc1 := WM κ a uv13) (post := ([] : va_W)) (As := [.int ((-1))]) (rest := []) (w1 := WM κ a uv13) ⟨hx, hb, hml, hown, hts⟩ hK hG hA (by simp only [List.append_assoc, List.nil_append, List.append_nil]) (by simp only [List.append_assoc, List.nil_append, List.append_nil]) (c_X5_refuse l D κ a H.size ((-1)) uv8 r12 uv13 q14) (cwV 1 hts gX5_round_X5_refuse rfl rfl rfl (by decide +kernel) ⟨Nat.le_of_ble_eq_true rfl, Nat.le_of_ble_eq_true rfl⟩) 0 5 rfl rfl rfl rfl hl.1 rfl (Nat.le_of_ble_eq_true rfl) dX5_round_19 ⟨Nat.zero_le _, Nat.zero_le _⟩ (fun H locs hG => ?_)
    have hz := Option.some.inj hf
    have z0 := (Prod.mk.inj hz).1
    replace hz := (Prod.mk.inj hz).2
    have z1 := hz
    exact x_iret hx hb hr hlk hK hG z0 (by rw [z1]) dX5_round_22
set_option maxRecDepth 100000 in
set_option maxHeartbeats 4000000 in
theorem c_X5_crosses (l : Launch) (D : va_G) (κ : Nat → ClassId) (a : Nat → Nat) (sz : Nat) (p1 : Int32) (p2 : Int32) (uv : MS) (r' : Int32) (uv' : MS) (hf : f_X5_crosses p1 p2 uv = some (r', uv')) : Met l yX5_crosses wsX5_crosses ({ frames := 6, cells := 0, slots := 0, locals := 135 } : Room) (xPc D κ [.ref (a 0), .int p1, .int p2] (WM κ a uv) sz) (xQi D κ r' (WM κ a uv') (va_A (WM κ a uv) sz)) 0 0 (va_A (WM κ a uv) sz) := by
  refine x_ofW (cc := cX5_crosses) (maxL := 4) (ret := (some .int)) (Qf := fun A => xQi D κ r' (WM κ a uv') A) (by decide) rfl (Nat.le_of_ble_eq_true rfl) ?_
  intro p e s m below meth c hx hb hr hlk hml hown hts hK A hA H locs hG ls hl
  have hown : s.vm.findClass RX5 = some m.cls := hown
  have hl : lv_has ls 4 [(0, .ref (a 0)), (1, .int p1), (2, .int p2)] := hl
  have iX5 : ∀ w ∈ u_ws RX5 TX5 27, w ∈ wsX5_crosses := fun _ h => List.mem_cons_of_mem _ (List.mem_append_right _ h)
  have k13 := hts (.fieldLink RX5 13 "SpineDesksModel" "row" "[I") (List.mem_of_getElem? (i := 1) rfl)
  unfold f_X5_crosses at hf
  refine lv_aload_n hx hb dX5_crosses_0 rfl (lv_at hl 0 rfl) ?_
  refine lv_iload_n hx hb dX5_crosses_1 rfl (lv_at hl 1 rfl) ?_
  obtain ⟨r1, q2, hf⟩ := cl1_e hf
  refine x_callVi (pre := ([] : va_W)) (wc := WM κ a uv) (wc1 := WM κ a uv) (post := ([] : va_W)) (As := [.int p1]) (rest := []) (w1 := WM κ a uv) ⟨hx, hb, hml, hown, hts⟩ hK hG hA (by simp only [List.append_assoc, List.nil_append, List.append_nil]) (by simp only [List.append_assoc, List.nil_append, List.append_nil]) (c_X5_isItem l D κ a H.size p1 uv r1 q2) (cwV 1 hts gX5_crosses_X5_isItem rfl rfl rfl (by decide +kernel) ⟨Nat.le_of_ble_eq_true rfl, Nat.le_of_ble_eq_true rfl⟩) 0 5 rfl rfl rfl rfl hl.1 rfl (Nat.le_of_ble_eq_true rfl) dX5_crosses_2 ⟨Nat.zero_le _, Nat.zero_le _⟩ (fun H locs hG => ?_)
  refine lv_if_ne (tgt := 15) hx hb dX5_crosses_5 (by decide) (fun c3 => ?_) (fun c3 => ?_)
  · replace hf := if_f c3 hf
    refine lv_aload_n hx hb dX5_crosses_15 rfl (lv_at hl 0 rfl) ?_
    refine x_get (C := RX5) (T := TX5) (N := 27) (ci := 5) hx hb hts iX5 hown hK hG 0 rfl rfl 2 (by decide) k13 (v := .ref (a 2)) rfl dX5_crosses_16 ?_
    refine lv_iload_n hx hb dX5_crosses_19 rfl (lv_at hl 1 rfl) ?_
    obtain ⟨r4, q5, hf⟩ := cl1_e hf
    refine x_callSi (pre := ([] : va_W)) (wc := ([] : va_W)) (wc1 := ([] : va_W)) (post := WM κ a uv) (As := [.int p1]) (rest := [.ref (a 2)]) (w1 := WM κ a uv) ⟨hx, hb, hml, hown, hts⟩ hK hG hA (by simp only [List.append_assoc, List.nil_append, List.append_nil]) (by simp only [List.append_assoc, List.nil_append, List.append_nil]) (c_X5_at l D κ a H.size p1 r4 q5) (va_cwS 1 hts gX5_crosses_X5_at rfl rfl rfl (by decide +kernel) ⟨Nat.le_of_ble_eq_true rfl, Nat.le_of_ble_eq_true rfl⟩) rfl hl.1 rfl (Nat.le_of_ble_eq_true rfl) dX5_crosses_20 ⟨Nat.zero_le _, Nat.zero_le _⟩ (fun H locs hG => ?_)
    refine lv_iconst (v := 2) hx hb dX5_crosses_23 (by decide) ?_
    refine lv_iadd hx hb dX5_crosses_24 ?_
    obtain ⟨v6, ev6, hin, hf⟩ := ck_e hf
    refine x_iald hx hb hK hG 2 rfl ev6 hin dX5_crosses_25 ?_
    refine lv_iload_n hx hb dX5_crosses_26 rfl (lv_at hl 2 rfl) ?_
    refine lv_icmp_ne (tgt := 37) hx hb dX5_crosses_27 (by decide) (fun c7 => ?_) (fun c7 => ?_)
    · replace hf := if_f c7 hf
      refine lv_aload_n hx hb dX5_crosses_37 rfl (lv_at hl 0 rfl) ?_
      refine x_get (C := RX5) (T := TX5) (N := 27) (ci := 5) hx hb hts iX5 hown hK hG 0 rfl rfl 2 (by decide) k13 (v := .ref (a 2)) rfl dX5_crosses_38 ?_
      refine lv_iload_n hx hb dX5_crosses_41 rfl (lv_at hl 1 rfl) ?_
      obtain ⟨r8, q9, hf⟩ := cl1_e hf
      refine x_callSi (pre := ([] : va_W)) (wc := ([] : va_W)) (wc1 := ([] : va_W)) (post := WM κ a uv) (As := [.int p1]) (rest := [.ref (a 2)]) (w1 := WM κ a uv) ⟨hx, hb, hml, hown, hts⟩ hK hG hA (by simp only [List.append_assoc, List.nil_append, List.append_nil]) (by simp only [List.append_assoc, List.nil_append, List.append_nil]) (c_X5_at l D κ a H.size p1 r8 q9) (va_cwS 1 hts gX5_crosses_X5_at rfl rfl rfl (by decide +kernel) ⟨Nat.le_of_ble_eq_true rfl, Nat.le_of_ble_eq_true rfl⟩) rfl hl.1 rfl (Nat.le_of_ble_eq_true rfl) dX5_crosses_42 ⟨Nat.zero_le _, Nat.zero_le _⟩ (fun H locs hG => ?_)
      refine lv_iconst (v := 1) hx hb dX5_crosses_45 (by decide) ?_
      refine lv_iadd hx hb dX5_crosses_46 ?_
      obtain ⟨v10, ev10, hin, hf⟩ := ck_e hf
      refine x_iald hx hb hK hG 2 rfl ev10 hin dX5_crosses_47 ?_
      refine lv_istore_n (lv' := [(3, .int v10), (0, .ref (a 0)), (1, .int p1), (2, .int p2)]) hx hb dX5_crosses_48 rfl hl (by decide) rfl (fun ls hl => ?_)
      refine lv_aload_n hx hb dX5_crosses_49 rfl (lv_at hl 1 rfl) ?_
      refine x_get (C := RX5) (T := TX5) (N := 27) (ci := 5) hx hb hts iX5 hown hK hG 0 rfl rfl 2 (by decide) k13 (v := .ref (a 2)) rfl dX5_crosses_50 ?_
      refine lv_iload_n hx hb dX5_crosses_53 rfl (lv_at hl 2 rfl) ?_
      obtain ⟨r11, q12, hf⟩ := cl1_e hf
      refine x_callSi (pre := ([] : va_W)) (wc := ([] : va_W)) (wc1 := ([] : va_W)) (post := WM κ a uv) (As := [.int p1]) (rest := [.ref (a 2)]) (w1 := WM κ a uv) ⟨hx, hb, hml, hown, hts⟩ hK hG hA (by simp only [List.append_assoc, List.nil_append, List.append_nil]) (by simp only [List.append_assoc, List.nil_append, List.append_nil]) (c_X5_at l D κ a H.size p1 r11 q12) (va_cwS 1 hts gX5_crosses_X5_at rfl rfl rfl (by decide +kernel) ⟨Nat.le_of_ble_eq_true rfl, Nat.le_of_ble_eq_true rfl⟩) rfl hl.1 rfl (Nat.le_of_ble_eq_true rfl) dX5_crosses_54 ⟨Nat.zero_le _, Nat.zero_le _⟩ (fun H locs hG => ?_)
      refine lv_iconst (v := 2) hx hb dX5_crosses_57 (by decide) ?_
      refine lv_iadd hx hb dX5_crosses_58 ?_
      refine lv_iload_n hx hb dX5_crosses_59 rfl (lv_at hl 3 rfl) ?_
      obtain ⟨uv13, euv13, hin, hf⟩ := ck_e hf
      refine x_iast hx hb hK hG 2 rfl (w1 := WM κ a uv13) (by rw [euv13]; rfl) hin dX5_crosses_60 (fun H locs hG => ?_)
      refine lv_aload_n hx hb dX5_crosses_61 rfl (lv_at hl 1 rfl) ?_
      obtain ⟨uv14, q15, hf⟩ := cl1_e hf
      refine x_callVv (pre := ([] : va_W)) (wc := WM κ a uv13) (wc1 := WM κ a uv14) (post := ([] : va_W)) (As := []) (rest := []) (w1 := WM κ a uv14) ⟨hx, hb, hml, hown, hts⟩ hK hG hA (by simp only [List.append_assoc, List.nil_append, List.append_nil]) (by simp only [List.append_assoc, List.nil_append, List.append_nil]) (c_X5_sweep l D κ a H.size uv13 uv14 q15) (cwV 0 hts gX5_crosses_X5_sweep rfl rfl rfl (by decide +kernel) ⟨Nat.le_of_ble_eq_true rfl, Nat.le_of_ble_eq_true rfl⟩) 0 5 rfl rfl rfl rfl hl.1 rfl (Nat.le_of_ble_eq_true rfl) dX5_crosses_62 ⟨Nat.zero_le _, Nat.zero_le _⟩ (fun H locs hG => ?_)
      refine lv_aload_n hx hb dX5_crosses_65 rfl (lv_at hl 1 rfl) ?_
      refine lv_iload_n hx hb dX5_crosses_66 rfl (lv_at hl 0 rfl) ?_
      refine lv_iconst (v := 0) hx hb dX5_crosses_67 (by decide) ?_
      obtain ⟨r16, q17, hf⟩ := cl1_e hf
      refine x_callVi (pre := ([] : va_W)) (wc := WM κ a uv14) (wc1 := WM κ a uv14) (post := ([] : va_W)) (As := [.int v10, .int 0]) (rest := []) (w1 := WM κ a uv14) ⟨hx, hb, hml, hown, hts⟩ hK hG hA (by simp only [List.append_assoc, List.nil_append, List.append_nil]) (by simp only [List.append_assoc, List.nil_append, List.append_nil]) (c_X5_many l D κ a H.size v10 0 uv14 r16 q17) (cwV 2 hts gX5_crosses_X5_many rfl rfl rfl (by decide +kernel) ⟨Nat.le_of_ble_eq_true rfl, Nat.le_of_ble_eq_true rfl⟩) 0 5 rfl rfl rfl rfl hl.1 rfl (Nat.le_of_ble_eq_true rfl) dX5_crosses_68 ⟨Nat.zero_le _, Nat.zero_le _⟩ (fun H locs hG => ?_)
      have hz := Option.some.inj hf
      have z0 := (Prod.mk.inj hz).1
      replace hz := (Prod.mk.inj hz).2
      have z1 := hz
      exact x_iret hx hb hr hlk hK hG z0 (by rw [z1]) dX5_crosses_71
    · replace hf := if_t c7 hf
      refine lv_aload_n hx hb dX5_crosses_30 rfl (lv_at hl 0 rfl) ?_
      refine lv_bipush (v := (-4)) hx hb dX5_crosses_31 (by decide) ?_
      obtain ⟨r18, uv19, q20, hf⟩ := cl2_e hf
      refine x_callVi (pre := ([] : va_W)) (wc := WM κ a uv) (wc1 := WM κ a uv19) (post := ([] : va_W)) (As := [.int ((-4))]) (rest := []) (w1 := WM κ a uv19) ⟨hx, hb, hml, hown, hts⟩ hK hG hA (by simp only [List.append_assoc, List.nil_append, List.append_nil]) (by simp only [List.append_assoc, List.nil_append, List.append_nil]) (c_X5_refuse l D κ a H.size ((-4)) uv r18 uv19 q20) (cwV 1 hts gX5_crosses_X5_refuse rfl rfl rfl (by decide +kernel) ⟨Nat.le_of_ble_eq_true rfl, Nat.le_of_ble_eq_true rfl⟩) 0 5 rfl rfl rfl rfl hl.1 rfl (Nat.le_of_ble_eq_true rfl) dX5_crosses_33 ⟨Nat.zero_le _, Nat.zero_le _⟩ (fun H locs hG => ?_)
      have hz := Option.some.inj hf
      have z0 := (Prod.mk.inj hz).1
      replace hz := (Prod.mk.inj hz).2
      have z1 := hz
      exact x_iret hx hb hr hlk hK hG z0 (by rw [z1]) dX5_crosses_36
  · replace hf := if_t c3 hf
    refine lv_aload_n hx hb dX5_crosses_8 rfl (lv_at hl 0 rfl) ?_
    refine lv_bipush (v := (-2)) hx hb dX5_crosses_9 (by decide) ?_
    obtain ⟨r21, uv22, q23, hf⟩ := cl2_e hf
    refine x_callVi (pre := ([] : va_W)) (wc := WM κ a uv) (wc1 := WM κ a uv22) (post := ([] : va_W)) (As := [.int ((-2))]) (rest := []) (w1 := WM κ a uv22) ⟨hx, hb, hml, hown, hts⟩ hK hG hA (by simp only [List.append_assoc, List.nil_append, List.append_nil]) (by simp only [List.append_assoc, List.nil_append, List.append_nil]) (c_X5_refuse l D κ a H.size ((-2)) uv r21 uv22 q23) (cwV 1 hts gX5_crosses_X5_refuse rfl rfl rfl (by decide +kernel) ⟨Nat.le_of_ble_eq_true rfl, Nat.le_of_ble_eq_true rfl⟩) 0 5 rfl rfl rfl rfl hl.1 rfl (Nat.le_of_ble_eq_true rfl) dX5_crosses_11 ⟨Nat.zero_le _, Nat.zero_le _⟩ (fun H locs hG => ?_)
    have hz := Option.some.inj hf
    have z0 := (Prod.mk.inj hz).1
    replace hz := (Prod.mk.inj hz).2
    have z1 := hz
    exact x_iret hx hb hr hlk hK hG z0 (by rw [z1]) dX5_crosses_14
set_option maxRecDepth 100000 in
set_option maxHeartbeats 4000000 in
theorem c_X5_cross (l : Launch) (D : va_G) (κ : Nat → ClassId) (a : Nat → Nat) (sz : Nat) (p1 : Int32) (uv : MS) (r' : Int32) (uv' : MS) (hf : f_X5_cross p1 uv = some (r', uv')) : Met l yX5_cross wsX5_cross ({ frames := 7, cells := 0, slots := 0, locals := 158 } : Room) (xPc D κ [.ref (a 0), .int p1] (WM κ a uv) sz) (xQi D κ r' (WM κ a uv') (va_A (WM κ a uv) sz)) 0 0 (va_A (WM κ a uv) sz) := by
  refine x_ofW (cc := cX5_cross) (maxL := 2) (ret := (some .int)) (Qf := fun A => xQi D κ r' (WM κ a uv') A) (by decide) rfl (Nat.le_of_ble_eq_true rfl) ?_
  intro p e s m below meth c hx hb hr hlk hml hown hts hK A hA H locs hG ls hl
  have hown : s.vm.findClass RX5 = some m.cls := hown
  have hl : lv_has ls 2 [(0, .ref (a 0)), (1, .int p1)] := hl
  have iX5 : ∀ w ∈ u_ws RX5 TX5 27, w ∈ wsX5_cross := fun _ h => List.mem_cons_of_mem _ (List.mem_append_right _ h)
  have k63 := hts (.fieldLink RX5 63 "SpineDesksModel" "thrown" "I") (List.mem_of_getElem? (i := 1) rfl)
  unfold f_X5_cross at hf
  refine lv_aload_n hx hb dX5_cross_0 rfl (lv_at hl 0 rfl) ?_
  refine lv_iconst (v := 0) hx hb dX5_cross_1 (by decide) ?_
  obtain ⟨uv1, euv1, hf⟩ := bnd_e hf
  refine x_put (C := RX5) (T := TX5) (N := 27) (ci := 5) hx hb hts iX5 tyX5 tyX5_ok nmX5 hown hK hG 0 rfl rfl 0 (by decide) k63 rfl (ty := .int) (v := .int 0) rfl rfl rfl (Nat.le_of_ble_eq_true rfl) (w1 := WM κ a uv1) (by rw [euv1]; rfl) dX5_cross_2 (fun H locs hG => ?_)
  refine lv_aload_n hx hb dX5_cross_5 rfl (lv_at hl 0 rfl) ?_
  refine lv_iload_n hx hb dX5_cross_6 rfl (lv_at hl 1 rfl) ?_
  refine lv_iconst (v := 1) hx hb dX5_cross_7 (by decide) ?_
  obtain ⟨r2, uv3, q4, hf⟩ := cl2_e hf
  refine x_callVi (pre := ([] : va_W)) (wc := WM κ a uv1) (wc1 := WM κ a uv3) (post := ([] : va_W)) (As := [.int p1, .int 1]) (rest := []) (w1 := WM κ a uv3) ⟨hx, hb, hml, hown, hts⟩ hK hG hA (by simp only [List.append_assoc, List.nil_append, List.append_nil]) (by simp only [List.append_assoc, List.nil_append, List.append_nil]) (c_X5_crosses l D κ a H.size p1 1 uv1 r2 uv3 q4) (cwV 2 hts gX5_cross_X5_crosses rfl rfl rfl (by decide +kernel) ⟨Nat.le_of_ble_eq_true rfl, Nat.le_of_ble_eq_true rfl⟩) 0 5 rfl rfl rfl rfl hl.1 rfl (Nat.le_of_ble_eq_true rfl) dX5_cross_8 ⟨Nat.zero_le _, Nat.zero_le _⟩ (fun H locs hG => ?_)
  have hz := Option.some.inj hf
  have z0 := (Prod.mk.inj hz).1
  replace hz := (Prod.mk.inj hz).2
  have z1 := hz
  exact x_iret hx hb hr hlk hK hG z0 (by rw [z1]) dX5_cross_11
set_option maxRecDepth 100000 in
set_option maxHeartbeats 4000000 in
theorem c_X5_uncross (l : Launch) (D : va_G) (κ : Nat → ClassId) (a : Nat → Nat) (sz : Nat) (p1 : Int32) (uv : MS) (r' : Int32) (uv' : MS) (hf : f_X5_uncross p1 uv = some (r', uv')) : Met l yX5_uncross wsX5_uncross ({ frames := 7, cells := 0, slots := 0, locals := 158 } : Room) (xPc D κ [.ref (a 0), .int p1] (WM κ a uv) sz) (xQi D κ r' (WM κ a uv') (va_A (WM κ a uv) sz)) 0 0 (va_A (WM κ a uv) sz) := by
  refine x_ofW (cc := cX5_uncross) (maxL := 2) (ret := (some .int)) (Qf := fun A => xQi D κ r' (WM κ a uv') A) (by decide) rfl (Nat.le_of_ble_eq_true rfl) ?_
  intro p e s m below meth c hx hb hr hlk hml hown hts hK A hA H locs hG ls hl
  have hown : s.vm.findClass RX5 = some m.cls := hown
  have hl : lv_has ls 2 [(0, .ref (a 0)), (1, .int p1)] := hl
  have iX5 : ∀ w ∈ u_ws RX5 TX5 27, w ∈ wsX5_uncross := fun _ h => List.mem_cons_of_mem _ (List.mem_append_right _ h)
  have k63 := hts (.fieldLink RX5 63 "SpineDesksModel" "thrown" "I") (List.mem_of_getElem? (i := 1) rfl)
  unfold f_X5_uncross at hf
  refine lv_aload_n hx hb dX5_uncross_0 rfl (lv_at hl 0 rfl) ?_
  refine lv_iconst (v := 0) hx hb dX5_uncross_1 (by decide) ?_
  obtain ⟨uv1, euv1, hf⟩ := bnd_e hf
  refine x_put (C := RX5) (T := TX5) (N := 27) (ci := 5) hx hb hts iX5 tyX5 tyX5_ok nmX5 hown hK hG 0 rfl rfl 0 (by decide) k63 rfl (ty := .int) (v := .int 0) rfl rfl rfl (Nat.le_of_ble_eq_true rfl) (w1 := WM κ a uv1) (by rw [euv1]; rfl) dX5_uncross_2 (fun H locs hG => ?_)
  refine lv_aload_n hx hb dX5_uncross_5 rfl (lv_at hl 0 rfl) ?_
  refine lv_iload_n hx hb dX5_uncross_6 rfl (lv_at hl 1 rfl) ?_
  refine lv_iconst (v := 0) hx hb dX5_uncross_7 (by decide) ?_
  obtain ⟨r2, uv3, q4, hf⟩ := cl2_e hf
  refine x_callVi (pre := ([] : va_W)) (wc := WM κ a uv1) (wc1 := WM κ a uv3) (post := ([] : va_W)) (As := [.int p1, .int 0]) (rest := []) (w1 := WM κ a uv3) ⟨hx, hb, hml, hown, hts⟩ hK hG hA (by simp only [List.append_assoc, List.nil_append, List.append_nil]) (by simp only [List.append_assoc, List.nil_append, List.append_nil]) (c_X5_crosses l D κ a H.size p1 0 uv1 r2 uv3 q4) (cwV 2 hts gX5_uncross_X5_crosses rfl rfl rfl (by decide +kernel) ⟨Nat.le_of_ble_eq_true rfl, Nat.le_of_ble_eq_true rfl⟩) 0 5 rfl rfl rfl rfl hl.1 rfl (Nat.le_of_ble_eq_true rfl) dX5_uncross_8 ⟨Nat.zero_le _, Nat.zero_le _⟩ (fun H locs hG => ?_)
  have hz := Option.some.inj hf
  have z0 := (Prod.mk.inj hz).1
  replace hz := (Prod.mk.inj hz).2
  have z1 := hz
  exact x_iret hx hb hr hlk hK hG z0 (by rw [z1]) dX5_uncross_11
set_option maxRecDepth 100000 in
set_option maxHeartbeats 4000000 in
theorem c_X5_cut (l : Launch) (D : va_G) (κ : Nat → ClassId) (a : Nat → Nat) (sz : Nat) (p1 : Int32) (uv : MS) (r' : Int32) (uv' : MS) (hf : f_X5_cut p1 uv = some (r', uv')) : Met l yX5_cut wsX5_cut ({ frames := 6, cells := 0, slots := 0, locals := 135 } : Room) (xPc D κ [.ref (a 0), .int p1] (WM κ a uv) sz) (xQi D κ r' (WM κ a uv') (va_A (WM κ a uv) sz)) 0 0 (va_A (WM κ a uv) sz) := by
  refine x_ofW (cc := cX5_cut) (maxL := 3) (ret := (some .int)) (Qf := fun A => xQi D κ r' (WM κ a uv') A) (by decide) rfl (Nat.le_of_ble_eq_true rfl) ?_
  intro p e s m below meth c hx hb hr hlk hml hown hts hK A hA H locs hG ls hl
  have hown : s.vm.findClass RX5 = some m.cls := hown
  have hl : lv_has ls 3 [(0, .ref (a 0)), (1, .int p1)] := hl
  have iX5 : ∀ w ∈ u_ws RX5 TX5 27, w ∈ wsX5_cut := fun _ h => List.mem_cons_of_mem _ (List.mem_append_right _ h)
  have k13 := hts (.fieldLink RX5 13 "SpineDesksModel" "row" "[I") (List.mem_of_getElem? (i := 2) rfl)
  have k63 := hts (.fieldLink RX5 63 "SpineDesksModel" "thrown" "I") (List.mem_of_getElem? (i := 1) rfl)
  unfold f_X5_cut at hf
  refine lv_aload_n hx hb dX5_cut_0 rfl (lv_at hl 0 rfl) ?_
  refine lv_iconst (v := 0) hx hb dX5_cut_1 (by decide) ?_
  obtain ⟨uv1, euv1, hf⟩ := bnd_e hf
  refine x_put (C := RX5) (T := TX5) (N := 27) (ci := 5) hx hb hts iX5 tyX5 tyX5_ok nmX5 hown hK hG 0 rfl rfl 0 (by decide) k63 rfl (ty := .int) (v := .int 0) rfl rfl rfl (Nat.le_of_ble_eq_true rfl) (w1 := WM κ a uv1) (by rw [euv1]; rfl) dX5_cut_2 (fun H locs hG => ?_)
  refine lv_aload_n hx hb dX5_cut_5 rfl (lv_at hl 0 rfl) ?_
  refine lv_iload_n hx hb dX5_cut_6 rfl (lv_at hl 1 rfl) ?_
  obtain ⟨r2, q3, hf⟩ := cl1_e hf
  refine x_callVi (pre := ([] : va_W)) (wc := WM κ a uv1) (wc1 := WM κ a uv1) (post := ([] : va_W)) (As := [.int p1]) (rest := []) (w1 := WM κ a uv1) ⟨hx, hb, hml, hown, hts⟩ hK hG hA (by simp only [List.append_assoc, List.nil_append, List.append_nil]) (by simp only [List.append_assoc, List.nil_append, List.append_nil]) (c_X5_isItem l D κ a H.size p1 uv1 r2 q3) (cwV 1 hts gX5_cut_X5_isItem rfl rfl rfl (by decide +kernel) ⟨Nat.le_of_ble_eq_true rfl, Nat.le_of_ble_eq_true rfl⟩) 0 5 rfl rfl rfl rfl hl.1 rfl (Nat.le_of_ble_eq_true rfl) dX5_cut_7 ⟨Nat.zero_le _, Nat.zero_le _⟩ (fun H locs hG => ?_)
  refine lv_if_ne (tgt := 20) hx hb dX5_cut_10 (by decide) (fun c4 => ?_) (fun c4 => ?_)
  · replace hf := if_f c4 hf
    refine lv_aload_n hx hb dX5_cut_20 rfl (lv_at hl 0 rfl) ?_
    refine x_get (C := RX5) (T := TX5) (N := 27) (ci := 5) hx hb hts iX5 hown hK hG 0 rfl rfl 2 (by decide) k13 (v := .ref (a 2)) rfl dX5_cut_21 ?_
    refine lv_iload_n hx hb dX5_cut_24 rfl (lv_at hl 1 rfl) ?_
    obtain ⟨r5, q6, hf⟩ := cl1_e hf
    refine x_callSi (pre := ([] : va_W)) (wc := ([] : va_W)) (wc1 := ([] : va_W)) (post := WM κ a uv1) (As := [.int p1]) (rest := [.ref (a 2)]) (w1 := WM κ a uv1) ⟨hx, hb, hml, hown, hts⟩ hK hG hA (by simp only [List.append_assoc, List.nil_append, List.append_nil]) (by simp only [List.append_assoc, List.nil_append, List.append_nil]) (c_X5_at l D κ a H.size p1 r5 q6) (va_cwS 1 hts gX5_cut_X5_at rfl rfl rfl (by decide +kernel) ⟨Nat.le_of_ble_eq_true rfl, Nat.le_of_ble_eq_true rfl⟩) rfl hl.1 rfl (Nat.le_of_ble_eq_true rfl) dX5_cut_25 ⟨Nat.zero_le _, Nat.zero_le _⟩ (fun H locs hG => ?_)
    refine lv_iconst (v := 1) hx hb dX5_cut_28 (by decide) ?_
    refine lv_iadd hx hb dX5_cut_29 ?_
    obtain ⟨v7, ev7, hin, hf⟩ := ck_e hf
    refine x_iald hx hb hK hG 2 rfl ev7 hin dX5_cut_30 ?_
    refine lv_istore_n (lv' := [(2, .int v7), (0, .ref (a 0)), (1, .int p1)]) hx hb dX5_cut_31 rfl hl (by decide) rfl (fun ls hl => ?_)
    refine lv_aload_n hx hb dX5_cut_32 rfl (lv_at hl 1 rfl) ?_
    refine lv_iload_n hx hb dX5_cut_33 rfl (lv_at hl 2 rfl) ?_
    obtain ⟨uv8, q9, hf⟩ := cl1_e hf
    refine x_callVv (pre := ([] : va_W)) (wc := WM κ a uv1) (wc1 := WM κ a uv8) (post := ([] : va_W)) (As := [.int p1]) (rest := []) (w1 := WM κ a uv8) ⟨hx, hb, hml, hown, hts⟩ hK hG hA (by simp only [List.append_assoc, List.nil_append, List.append_nil]) (by simp only [List.append_assoc, List.nil_append, List.append_nil]) (c_X5_cutOut l D κ a H.size p1 uv1 uv8 q9) (cwV 1 hts gX5_cut_X5_cutOut rfl rfl rfl (by decide +kernel) ⟨Nat.le_of_ble_eq_true rfl, Nat.le_of_ble_eq_true rfl⟩) 0 5 rfl rfl rfl rfl hl.1 rfl (Nat.le_of_ble_eq_true rfl) dX5_cut_34 ⟨Nat.zero_le _, Nat.zero_le _⟩ (fun H locs hG => ?_)
    refine lv_aload_n hx hb dX5_cut_37 rfl (lv_at hl 1 rfl) ?_
    refine lv_iload_n hx hb dX5_cut_38 rfl (lv_at hl 2 rfl) ?_
    obtain ⟨uv10, q11, hf⟩ := cl1_e hf
    refine x_callVv (pre := ([] : va_W)) (wc := WM κ a uv8) (wc1 := WM κ a uv10) (post := ([] : va_W)) (As := [.int p1]) (rest := []) (w1 := WM κ a uv10) ⟨hx, hb, hml, hown, hts⟩ hK hG hA (by simp only [List.append_assoc, List.nil_append, List.append_nil]) (by simp only [List.append_assoc, List.nil_append, List.append_nil]) (c_X5_goes l D κ a H.size p1 uv8 uv10 q11) (cwV 1 hts gX5_cut_X5_goes rfl rfl rfl (by decide +kernel) ⟨Nat.le_of_ble_eq_true rfl, Nat.le_of_ble_eq_true rfl⟩) 0 5 rfl rfl rfl rfl hl.1 rfl (Nat.le_of_ble_eq_true rfl) dX5_cut_39 ⟨Nat.zero_le _, Nat.zero_le _⟩ (fun H locs hG => ?_)
    refine lv_aload_n hx hb dX5_cut_42 rfl (lv_at hl 1 rfl) ?_
    obtain ⟨uv12, q13, hf⟩ := cl1_e hf
    refine x_callVv (pre := ([] : va_W)) (wc := WM κ a uv10) (wc1 := WM κ a uv12) (post := ([] : va_W)) (As := []) (rest := []) (w1 := WM κ a uv12) ⟨hx, hb, hml, hown, hts⟩ hK hG hA (by simp only [List.append_assoc, List.nil_append, List.append_nil]) (by simp only [List.append_assoc, List.nil_append, List.append_nil]) (c_X5_sweep l D κ a H.size uv10 uv12 q13) (cwV 0 hts gX5_cut_X5_sweep rfl rfl rfl (by decide +kernel) ⟨Nat.le_of_ble_eq_true rfl, Nat.le_of_ble_eq_true rfl⟩) 0 5 rfl rfl rfl rfl hl.1 rfl (Nat.le_of_ble_eq_true rfl) dX5_cut_43 ⟨Nat.zero_le _, Nat.zero_le _⟩ (fun H locs hG => ?_)
    refine lv_aload_n hx hb dX5_cut_46 rfl (lv_at hl 1 rfl) ?_
    refine lv_iload_n hx hb dX5_cut_47 rfl (lv_at hl 0 rfl) ?_
    refine lv_iconst (v := 1) hx hb dX5_cut_48 (by decide) ?_
    obtain ⟨r14, q15, hf⟩ := cl1_e hf
    refine x_callVi (pre := ([] : va_W)) (wc := WM κ a uv12) (wc1 := WM κ a uv12) (post := ([] : va_W)) (As := [.int v7, .int 1]) (rest := []) (w1 := WM κ a uv12) ⟨hx, hb, hml, hown, hts⟩ hK hG hA (by simp only [List.append_assoc, List.nil_append, List.append_nil]) (by simp only [List.append_assoc, List.nil_append, List.append_nil]) (c_X5_many l D κ a H.size v7 1 uv12 r14 q15) (cwV 2 hts gX5_cut_X5_many rfl rfl rfl (by decide +kernel) ⟨Nat.le_of_ble_eq_true rfl, Nat.le_of_ble_eq_true rfl⟩) 0 5 rfl rfl rfl rfl hl.1 rfl (Nat.le_of_ble_eq_true rfl) dX5_cut_49 ⟨Nat.zero_le _, Nat.zero_le _⟩ (fun H locs hG => ?_)
    have hz := Option.some.inj hf
    have z0 := (Prod.mk.inj hz).1
    replace hz := (Prod.mk.inj hz).2
    have z1 := hz
    exact x_iret hx hb hr hlk hK hG z0 (by rw [z1]) dX5_cut_52
  · replace hf := if_t c4 hf
    refine lv_aload_n hx hb dX5_cut_13 rfl (lv_at hl 0 rfl) ?_
    refine lv_bipush (v := (-2)) hx hb dX5_cut_14 (by decide) ?_
    obtain ⟨r16, uv17, q18, hf⟩ := cl2_e hf
    refine x_callVi (pre := ([] : va_W)) (wc := WM κ a uv1) (wc1 := WM κ a uv17) (post := ([] : va_W)) (As := [.int ((-2))]) (rest := []) (w1 := WM κ a uv17) ⟨hx, hb, hml, hown, hts⟩ hK hG hA (by simp only [List.append_assoc, List.nil_append, List.append_nil]) (by simp only [List.append_assoc, List.nil_append, List.append_nil]) (c_X5_refuse l D κ a H.size ((-2)) uv1 r16 uv17 q18) (cwV 1 hts gX5_cut_X5_refuse rfl rfl rfl (by decide +kernel) ⟨Nat.le_of_ble_eq_true rfl, Nat.le_of_ble_eq_true rfl⟩) 0 5 rfl rfl rfl rfl hl.1 rfl (Nat.le_of_ble_eq_true rfl) dX5_cut_16 ⟨Nat.zero_le _, Nat.zero_le _⟩ (fun H locs hG => ?_)
    have hz := Option.some.inj hf
    have z0 := (Prod.mk.inj hz).1
    replace hz := (Prod.mk.inj hz).2
    have z1 := hz
    exact x_iret hx hb hr hlk hK hG z0 (by rw [z1]) dX5_cut_19
set_option maxRecDepth 100000 in
set_option maxHeartbeats 4000000 in
theorem c_X5_rekey (l : Launch) (D : va_G) (κ : Nat → ClassId) (a : Nat → Nat) (sz : Nat) (p1 : Int32) (p2 : Int32) (uv : MS) (r' : Int32) (uv' : MS) (hf : f_X5_rekey p1 p2 uv = some (r', uv')) : Met l yX5_rekey wsX5_rekey ({ frames := 6, cells := 0, slots := 0, locals := 135 } : Room) (xPc D κ [.ref (a 0), .int p1, .int p2] (WM κ a uv) sz) (xQi D κ r' (WM κ a uv') (va_A (WM κ a uv) sz)) 0 0 (va_A (WM κ a uv) sz) := by
  refine x_ofW (cc := cX5_rekey) (maxL := 6) (ret := (some .int)) (Qf := fun A => xQi D κ r' (WM κ a uv') A) (by decide) rfl (Nat.le_of_ble_eq_true rfl) ?_
  intro p e s m below meth c hx hb hr hlk hml hown hts hK A hA H locs hG ls hl
  have hown : s.vm.findClass RX5 = some m.cls := hown
  have hl : lv_has ls 6 [(0, .ref (a 0)), (1, .int p1), (2, .int p2)] := hl
  have iX5 : ∀ w ∈ u_ws RX5 TX5 27, w ∈ wsX5_rekey := fun _ h => List.mem_cons_of_mem _ (List.mem_append_right _ h)
  have k13 := hts (.fieldLink RX5 13 "SpineDesksModel" "row" "[I") (List.mem_of_getElem? (i := 3) rfl)
  have k16 := hts (.fieldLink RX5 16 "SpineDesksModel" "keys" "[J") (List.mem_of_getElem? (i := 2) rfl)
  have k63 := hts (.fieldLink RX5 63 "SpineDesksModel" "thrown" "I") (List.mem_of_getElem? (i := 1) rfl)
  have L153 : ∀ (rec94 : Int32 → Int32 → Int32 → Int32 → MS → Option (Int32 × MS)) (hr94 : ∀ (y1 : Int32) (y3 : Int32) (y4 : Int32) (y5 : Int32) (uv : MS), rec94 y1 y3 y4 y5 uv = some (r', uv') → ∀ (H : Heap) (locs : List Loc) (ls : Array Slot), xG D A s.heap (WM κ a uv) H locs → lv_has ls 6 [(0, .ref (a 0)), (1, .int y1), (3, .int y3), (4, .int y4), (5, .int y5)] → W p l e ({ frames := 6, cells := 0, slots := 0, locals := 135 } : Room) s m (([.ref (a 0), .int p1, .int p2] : List Value).toArray) below meth c H locs 0 0 (MQ below (xQi D κ r' (WM κ a uv') A) (([.ref (a 0), .int p1, .int p2] : List Value).toArray) s 0 0 A) (F0 m 94 ls [])), ∀ (x1 : Int32) (x3 : Int32) (x5 : Int32) (s0 : Int32) (s1 : Int32) (uv : MS), f_X5_rekey_153 rec94 x1 x3 x5 s0 s1 uv = some (r', uv') → ∀ (H : Heap) (locs : List Loc) (ls : Array Slot), xG D A s.heap (WM κ a uv) H locs → lv_has ls 6 [(0, .ref (a 0)), (1, .int x1), (3, .int x3), (5, .int x5)] → W p l e ({ frames := 6, cells := 0, slots := 0, locals := 135 } : Room) s m (([.ref (a 0), .int p1, .int p2] : List Value).toArray) below meth c H locs 0 0 (MQ below (xQi D κ r' (WM κ a uv') A) (([.ref (a 0), .int p1, .int p2] : List Value).toArray) s 0 0 A) (F0 m 153 ls [.int s1, .int s0]) := by
    intro rec94 hr94 x1 x3 x5 s0 s1 uv hf H locs ls hG hl
    unfold f_X5_rekey_153 at hf
    refine lv_iadd hx hb dX5_rekey_153 ?_
    refine lv_topi (fun y1 ey1 => ?_)
    replace hf := bnd_at ey1 hf
    refine lv_istore (lv' := [(4, .int y1), (0, .ref (a 0)), (1, .int x1), (3, .int x3), (5, .int x5)]) hx hb dX5_rekey_154 hl (by decide) rfl (fun ls hl => ?_)
    obtain ⟨y2, ey2, hf⟩ := bnd_e hf
    refine lv_iinc (v := y2) (lv' := [(5, .int y2), (4, .int y1), (0, .ref (a 0)), (1, .int x1), (3, .int x3)]) hx hb dX5_rekey_156 hl (k := 4) rfl (by rw [ey2]; rfl) (by decide) rfl (fun ls hl => ?_)
    refine lv_goto (tgt := 94) hx hb dX5_rekey_159 (by decide) ?_
    exact hr94 x1 x3 y1 y2 uv hf H locs ls hG (lv_sub hl [2, 3, 4, 1, 0] rfl)
  have L152 : ∀ (rec94 : Int32 → Int32 → Int32 → Int32 → MS → Option (Int32 × MS)) (hr94 : ∀ (y1 : Int32) (y3 : Int32) (y4 : Int32) (y5 : Int32) (uv : MS), rec94 y1 y3 y4 y5 uv = some (r', uv') → ∀ (H : Heap) (locs : List Loc) (ls : Array Slot), xG D A s.heap (WM κ a uv) H locs → lv_has ls 6 [(0, .ref (a 0)), (1, .int y1), (3, .int y3), (4, .int y4), (5, .int y5)] → W p l e ({ frames := 6, cells := 0, slots := 0, locals := 135 } : Room) s m (([.ref (a 0), .int p1, .int p2] : List Value).toArray) below meth c H locs 0 0 (MQ below (xQi D κ r' (WM κ a uv') A) (([.ref (a 0), .int p1, .int p2] : List Value).toArray) s 0 0 A) (F0 m 94 ls [])), ∀ (x1 : Int32) (x3 : Int32) (x5 : Int32) (s0 : Int32) (uv : MS), f_X5_rekey_152 rec94 x1 x3 x5 s0 uv = some (r', uv') → ∀ (H : Heap) (locs : List Loc) (ls : Array Slot), xG D A s.heap (WM κ a uv) H locs → lv_has ls 6 [(0, .ref (a 0)), (1, .int x1), (3, .int x3), (5, .int x5)] → W p l e ({ frames := 6, cells := 0, slots := 0, locals := 135 } : Room) s m (([.ref (a 0), .int p1, .int p2] : List Value).toArray) below meth c H locs 0 0 (MQ below (xQi D κ r' (WM κ a uv') A) (([.ref (a 0), .int p1, .int p2] : List Value).toArray) s 0 0 A) (F0 m 152 ls [.int s0]) := by
    intro rec94 hr94 x1 x3 x5 s0 uv hf H locs ls hG hl
    unfold f_X5_rekey_152 at hf
    refine lv_iconst (v := 0) hx hb dX5_rekey_152 (by decide) ?_
    exact L153 rec94 hr94  x1 x3 x5 s0 0 uv hf H locs ls hG (lv_sub hl [0, 1, 2, 3] rfl)
  have L94 : ∀ (n : Nat), ∀ (x1 : Int32) (x3 : Int32) (x4 : Int32) (x5 : Int32) (uv : MS), f_X5_rekey_94 n x1 x3 x4 x5 uv = some (r', uv') → ∀ (H : Heap) (locs : List Loc) (ls : Array Slot), xG D A s.heap (WM κ a uv) H locs → lv_has ls 6 [(0, .ref (a 0)), (1, .int x1), (3, .int x3), (4, .int x4), (5, .int x5)] → W p l e ({ frames := 6, cells := 0, slots := 0, locals := 135 } : Room) s m (([.ref (a 0), .int p1, .int p2] : List Value).toArray) below meth c H locs 0 0 (MQ below (xQi D κ r' (WM κ a uv') A) (([.ref (a 0), .int p1, .int p2] : List Value).toArray) s 0 0 A) (F0 m 94 ls []) := by
    intro  n
    induction n with
    | zero => intro x1 x3 x4 x5 uv hf; cases hf
    | succ n ih =>
      intro x1 x3 x4 x5 uv hf H locs ls hG hl
      replace hf : f_X5_rekey_B94 (f_X5_rekey_94 n) x1 x3 x4 x5 uv = some (r', uv') := hf
      unfold f_X5_rekey_B94 at hf
      refine lv_iload hx hb dX5_rekey_94 (lv_at hl 4 rfl) ?_
      refine lv_aload_n hx hb dX5_rekey_96 rfl (lv_at hl 0 rfl) ?_
      refine x_get (C := RX5) (T := TX5) (N := 27) (ci := 5) hx hb hts iX5 hown hK hG 0 rfl rfl 2 (by decide) k13 (v := .ref (a 2)) rfl dX5_rekey_97 ?_
      refine lv_iconst (v := 0) hx hb dX5_rekey_100 (by decide) ?_
      obtain ⟨v3, ev3, hin, hf⟩ := ck_e hf
      refine x_iald hx hb hK hG 2 rfl ev3 hin dX5_rekey_101 ?_
      refine lv_icmp_ge (tgt := 162) hx hb dX5_rekey_102 (by decide) (fun c4 => ?_) (fun c4 => ?_)
      · replace hf := if_t c4 hf
        refine lv_iload hx hb dX5_rekey_162 (lv_at hl 3 rfl) ?_
        have hz := Option.some.inj hf
        have z0 := (Prod.mk.inj hz).1
        replace hz := (Prod.mk.inj hz).2
        have z1 := hz
        exact x_iret hx hb hr hlk hK hG z0 (by rw [z1]) dX5_rekey_164
      · replace hf := if_f c4 hf
        refine lv_iload hx hb dX5_rekey_105 (lv_at hl 3 rfl) ?_
        refine lv_aload_n hx hb dX5_rekey_107 rfl (lv_at hl 0 rfl) ?_
        refine x_get (C := RX5) (T := TX5) (N := 27) (ci := 5) hx hb hts iX5 hown hK hG 0 rfl rfl 2 (by decide) k13 (v := .ref (a 2)) rfl dX5_rekey_108 ?_
        refine lv_iload hx hb dX5_rekey_111 (lv_at hl 4 rfl) ?_
        obtain ⟨r5, q6, hf⟩ := cl1_e hf
        refine x_callSi (pre := ([] : va_W)) (wc := ([] : va_W)) (wc1 := ([] : va_W)) (post := WM κ a uv) (As := [.int x5]) (rest := [.ref (a 2), .int x4]) (w1 := WM κ a uv) ⟨hx, hb, hml, hown, hts⟩ hK hG hA (by simp only [List.append_assoc, List.nil_append, List.append_nil]) (by simp only [List.append_assoc, List.nil_append, List.append_nil]) (c_X5_at l D κ a H.size x5 r5 q6) (va_cwS 1 hts gX5_rekey_X5_at rfl rfl rfl (by decide +kernel) ⟨Nat.le_of_ble_eq_true rfl, Nat.le_of_ble_eq_true rfl⟩) rfl hl.1 rfl (Nat.le_of_ble_eq_true rfl) dX5_rekey_113 ⟨Nat.zero_le _, Nat.zero_le _⟩ (fun H locs hG => ?_)
        refine lv_iconst (v := 1) hx hb dX5_rekey_116 (by decide) ?_
        refine lv_iadd hx hb dX5_rekey_117 ?_
        obtain ⟨v7, ev7, hin, hf⟩ := ck_e hf
        refine x_iald hx hb hK hG 2 rfl ev7 hin dX5_rekey_118 ?_
        refine lv_iload_n hx hb dX5_rekey_119 rfl (lv_at hl 2 rfl) ?_
        refine lv_icmp_ne (tgt := 152) hx hb dX5_rekey_120 (by decide) (fun c8 => ?_) (fun c8 => ?_)
        · replace hf := if_f c8 hf
          exact L152 (f_X5_rekey_94 n) ih  x1 x3 x5 x4 uv hf H locs ls hG (lv_sub hl [0, 1, 2, 4] rfl)
        · replace hf := if_t c8 hf
          refine lv_aload_n hx hb dX5_rekey_123 rfl (lv_at hl 0 rfl) ?_
          refine x_get (C := RX5) (T := TX5) (N := 27) (ci := 5) hx hb hts iX5 hown hK hG 0 rfl rfl 2 (by decide) k13 (v := .ref (a 2)) rfl dX5_rekey_124 ?_
          refine lv_iload hx hb dX5_rekey_127 (lv_at hl 4 rfl) ?_
          obtain ⟨r9, q10, hf⟩ := cl1_e hf
          refine x_callSi (pre := ([] : va_W)) (wc := ([] : va_W)) (wc1 := ([] : va_W)) (post := WM κ a uv) (As := [.int x5]) (rest := [.ref (a 2), .int x4]) (w1 := WM κ a uv) ⟨hx, hb, hml, hown, hts⟩ hK hG hA (by simp only [List.append_assoc, List.nil_append, List.append_nil]) (by simp only [List.append_assoc, List.nil_append, List.append_nil]) (c_X5_at l D κ a H.size x5 r9 q10) (va_cwS 1 hts gX5_rekey_X5_at rfl rfl rfl (by decide +kernel) ⟨Nat.le_of_ble_eq_true rfl, Nat.le_of_ble_eq_true rfl⟩) rfl hl.1 rfl (Nat.le_of_ble_eq_true rfl) dX5_rekey_129 ⟨Nat.zero_le _, Nat.zero_le _⟩ (fun H locs hG => ?_)
          refine lv_iconst (v := 2) hx hb dX5_rekey_132 (by decide) ?_
          refine lv_iadd hx hb dX5_rekey_133 ?_
          obtain ⟨v11, ev11, hin, hf⟩ := ck_e hf
          refine x_iald hx hb hK hG 2 rfl ev11 hin dX5_rekey_134 ?_
          refine lv_if_ne (tgt := 152) hx hb dX5_rekey_135 (by decide) (fun c12 => ?_) (fun c12 => ?_)
          · replace hf := if_f c12 hf
            exact L152 (f_X5_rekey_94 n) ih  x1 x3 x5 x4 uv hf H locs ls hG (lv_sub hl [0, 1, 2, 4] rfl)
          · replace hf := if_t c12 hf
            refine lv_aload_n hx hb dX5_rekey_138 rfl (lv_at hl 0 rfl) ?_
            refine lv_iload hx hb dX5_rekey_139 (lv_at hl 4 rfl) ?_
            refine lv_iload_n hx hb dX5_rekey_141 rfl (lv_at hl 1 rfl) ?_
            obtain ⟨r13, q14, hf⟩ := cl1_e hf
            refine x_callVi (pre := ([] : va_W)) (wc := WM κ a uv) (wc1 := WM κ a uv) (post := ([] : va_W)) (As := [.int x5, .int x1]) (rest := [.int x4]) (w1 := WM κ a uv) ⟨hx, hb, hml, hown, hts⟩ hK hG hA (by simp only [List.append_assoc, List.nil_append, List.append_nil]) (by simp only [List.append_assoc, List.nil_append, List.append_nil]) (c_X5_isLess l D κ a H.size x5 x1 uv r13 q14) (cwV 2 hts gX5_rekey_X5_isLess rfl rfl rfl (by decide +kernel) ⟨Nat.le_of_ble_eq_true rfl, Nat.le_of_ble_eq_true rfl⟩) 0 5 rfl rfl rfl rfl hl.1 rfl (Nat.le_of_ble_eq_true rfl) dX5_rekey_142 ⟨Nat.zero_le _, Nat.zero_le _⟩ (fun H locs hG => ?_)
            refine lv_if_eq (tgt := 152) hx hb dX5_rekey_145 (by decide) (fun c15 => ?_) (fun c15 => ?_)
            · replace hf := if_t c15 hf
              exact L152 (f_X5_rekey_94 n) ih  x1 x3 x5 x4 uv hf H locs ls hG (lv_sub hl [0, 1, 2, 4] rfl)
            · replace hf := if_f c15 hf
              refine lv_iconst (v := 1) hx hb dX5_rekey_148 (by decide) ?_
              refine lv_goto (tgt := 153) hx hb dX5_rekey_149 (by decide) ?_
              exact L153 (f_X5_rekey_94 n) ih  x1 x3 x5 x4 1 uv hf H locs ls hG (lv_sub hl [0, 1, 2, 4] rfl)
  unfold f_X5_rekey at hf
  refine lv_aload_n hx hb dX5_rekey_0 rfl (lv_at hl 0 rfl) ?_
  refine lv_iconst (v := 0) hx hb dX5_rekey_1 (by decide) ?_
  obtain ⟨uv16, euv16, hf⟩ := bnd_e hf
  refine x_put (C := RX5) (T := TX5) (N := 27) (ci := 5) hx hb hts iX5 tyX5 tyX5_ok nmX5 hown hK hG 0 rfl rfl 0 (by decide) k63 rfl (ty := .int) (v := .int 0) rfl rfl rfl (Nat.le_of_ble_eq_true rfl) (w1 := WM κ a uv16) (by rw [euv16]; rfl) dX5_rekey_2 (fun H locs hG => ?_)
  refine lv_iload_n hx hb dX5_rekey_5 rfl (lv_at hl 2 rfl) ?_
  refine lv_i2l hx hb dX5_rekey_6 rfl ?_
  obtain ⟨r17, q18, hf⟩ := cl1_e hf
  refine x_callSi (pre := ([] : va_W)) (wc := ([] : va_W)) (wc1 := ([] : va_W)) (post := WM κ a uv16) (As := [.long (p2.toInt64)]) (rest := []) (w1 := WM κ a uv16) ⟨hx, hb, hml, hown, hts⟩ hK hG hA (by simp only [List.append_assoc, List.nil_append, List.append_nil]) (by simp only [List.append_assoc, List.nil_append, List.append_nil]) (c_X5_isKey l D κ a H.size (p2.toInt64) r17 q18) (va_cwS 1 hts gX5_rekey_X5_isKey rfl rfl rfl (by decide +kernel) ⟨Nat.le_of_ble_eq_true rfl, Nat.le_of_ble_eq_true rfl⟩) rfl hl.1 rfl (Nat.le_of_ble_eq_true rfl) dX5_rekey_7 ⟨Nat.zero_le _, Nat.zero_le _⟩ (fun H locs hG => ?_)
  refine lv_if_ne (tgt := 19) hx hb dX5_rekey_10 (by decide) (fun c19 => ?_) (fun c19 => ?_)
  · replace hf := if_f c19 hf
    refine lv_aload_n hx hb dX5_rekey_19 rfl (lv_at hl 0 rfl) ?_
    refine lv_iload_n hx hb dX5_rekey_20 rfl (lv_at hl 1 rfl) ?_
    obtain ⟨r20, q21, hf⟩ := cl1_e hf
    refine x_callVi (pre := ([] : va_W)) (wc := WM κ a uv16) (wc1 := WM κ a uv16) (post := ([] : va_W)) (As := [.int p1]) (rest := []) (w1 := WM κ a uv16) ⟨hx, hb, hml, hown, hts⟩ hK hG hA (by simp only [List.append_assoc, List.nil_append, List.append_nil]) (by simp only [List.append_assoc, List.nil_append, List.append_nil]) (c_X5_isItem l D κ a H.size p1 uv16 r20 q21) (cwV 1 hts gX5_rekey_X5_isItem rfl rfl rfl (by decide +kernel) ⟨Nat.le_of_ble_eq_true rfl, Nat.le_of_ble_eq_true rfl⟩) 0 5 rfl rfl rfl rfl hl.1 rfl (Nat.le_of_ble_eq_true rfl) dX5_rekey_21 ⟨Nat.zero_le _, Nat.zero_le _⟩ (fun H locs hG => ?_)
    refine lv_if_ne (tgt := 34) hx hb dX5_rekey_24 (by decide) (fun c22 => ?_) (fun c22 => ?_)
    · replace hf := if_f c22 hf
      refine lv_aload_n hx hb dX5_rekey_34 rfl (lv_at hl 0 rfl) ?_
      refine x_get (C := RX5) (T := TX5) (N := 27) (ci := 5) hx hb hts iX5 hown hK hG 0 rfl rfl 3 (by decide) k16 (v := .ref (a 3)) rfl dX5_rekey_35 ?_
      refine lv_iload_n hx hb dX5_rekey_38 rfl (lv_at hl 1 rfl) ?_
      obtain ⟨v23, ev23, hin, hf⟩ := ck_e hf
      refine x_lald hx hb hK hG 3 rfl ev23 hin dX5_rekey_39 ?_
      refine lv_iload_n hx hb dX5_rekey_40 rfl (lv_at hl 2 rfl) ?_
      refine lv_i2l hx hb dX5_rekey_41 rfl ?_
      refine W.lcmp hx hb dX5_rekey_42 ?_
      refine lv_if_ne (tgt := 53) hx hb dX5_rekey_43 (by decide) (fun c24 => ?_) (fun c24 => ?_)
      · rw [lg_cmp_eq] at c24
        replace hf := if_f c24 hf
        refine lv_aload_n hx hb dX5_rekey_53 rfl (lv_at hl 0 rfl) ?_
        refine x_get (C := RX5) (T := TX5) (N := 27) (ci := 5) hx hb hts iX5 hown hK hG 0 rfl rfl 2 (by decide) k13 (v := .ref (a 2)) rfl dX5_rekey_54 ?_
        refine lv_iload_n hx hb dX5_rekey_57 rfl (lv_at hl 1 rfl) ?_
        obtain ⟨r25, q26, hf⟩ := cl1_e hf
        refine x_callSi (pre := ([] : va_W)) (wc := ([] : va_W)) (wc1 := ([] : va_W)) (post := WM κ a uv16) (As := [.int p1]) (rest := [.ref (a 2)]) (w1 := WM κ a uv16) ⟨hx, hb, hml, hown, hts⟩ hK hG hA (by simp only [List.append_assoc, List.nil_append, List.append_nil]) (by simp only [List.append_assoc, List.nil_append, List.append_nil]) (c_X5_at l D κ a H.size p1 r25 q26) (va_cwS 1 hts gX5_rekey_X5_at rfl rfl rfl (by decide +kernel) ⟨Nat.le_of_ble_eq_true rfl, Nat.le_of_ble_eq_true rfl⟩) rfl hl.1 rfl (Nat.le_of_ble_eq_true rfl) dX5_rekey_58 ⟨Nat.zero_le _, Nat.zero_le _⟩ (fun H locs hG => ?_)
        refine lv_iconst (v := 1) hx hb dX5_rekey_61 (by decide) ?_
        refine lv_iadd hx hb dX5_rekey_62 ?_
        obtain ⟨v27, ev27, hin, hf⟩ := ck_e hf
        refine x_iald hx hb hK hG 2 rfl ev27 hin dX5_rekey_63 ?_
        refine lv_istore_n (lv' := [(3, .int v27), (0, .ref (a 0)), (1, .int p1), (2, .int p2)]) hx hb dX5_rekey_64 rfl hl (by decide) rfl (fun ls hl => ?_)
        refine lv_aload_n hx hb dX5_rekey_65 rfl (lv_at hl 1 rfl) ?_
        refine lv_iload_n hx hb dX5_rekey_66 rfl (lv_at hl 2 rfl) ?_
        obtain ⟨uv28, q29, hf⟩ := cl1_e hf
        refine x_callVv (pre := ([] : va_W)) (wc := WM κ a uv16) (wc1 := WM κ a uv28) (post := ([] : va_W)) (As := [.int p1]) (rest := []) (w1 := WM κ a uv28) ⟨hx, hb, hml, hown, hts⟩ hK hG hA (by simp only [List.append_assoc, List.nil_append, List.append_nil]) (by simp only [List.append_assoc, List.nil_append, List.append_nil]) (c_X5_cutOut l D κ a H.size p1 uv16 uv28 q29) (cwV 1 hts gX5_rekey_X5_cutOut rfl rfl rfl (by decide +kernel) ⟨Nat.le_of_ble_eq_true rfl, Nat.le_of_ble_eq_true rfl⟩) 0 5 rfl rfl rfl rfl hl.1 rfl (Nat.le_of_ble_eq_true rfl) dX5_rekey_67 ⟨Nat.zero_le _, Nat.zero_le _⟩ (fun H locs hG => ?_)
        refine lv_aload_n hx hb dX5_rekey_70 rfl (lv_at hl 1 rfl) ?_
        refine x_get (C := RX5) (T := TX5) (N := 27) (ci := 5) hx hb hts iX5 hown hK hG 0 rfl rfl 3 (by decide) k16 (v := .ref (a 3)) rfl dX5_rekey_71 ?_
        refine lv_iload_n hx hb dX5_rekey_74 rfl (lv_at hl 2 rfl) ?_
        refine lv_iload_n hx hb dX5_rekey_75 rfl (lv_at hl 3 rfl) ?_
        refine lv_i2l hx hb dX5_rekey_76 rfl ?_
        obtain ⟨uv30, euv30, hin, hf⟩ := ck_e hf
        refine x_last hx hb hK hG 3 rfl (w1 := WM κ a uv30) (by rw [euv30]; rfl) hin dX5_rekey_77 (fun H locs hG => ?_)
        refine lv_aload_n hx hb dX5_rekey_78 rfl (lv_at hl 1 rfl) ?_
        refine lv_iload_n hx hb dX5_rekey_79 rfl (lv_at hl 2 rfl) ?_
        refine lv_iload_n hx hb dX5_rekey_80 rfl (lv_at hl 0 rfl) ?_
        obtain ⟨uv31, q32, hf⟩ := cl1_e hf
        refine x_callVv (pre := ([] : va_W)) (wc := WM κ a uv30) (wc1 := WM κ a uv31) (post := ([] : va_W)) (As := [.int p1, .int v27]) (rest := []) (w1 := WM κ a uv31) ⟨hx, hb, hml, hown, hts⟩ hK hG hA (by simp only [List.append_assoc, List.nil_append, List.append_nil]) (by simp only [List.append_assoc, List.nil_append, List.append_nil]) (c_X5_put l D κ a H.size p1 v27 uv30 uv31 q32) (cwV 2 hts gX5_rekey_X5_put rfl rfl rfl (by decide +kernel) ⟨Nat.le_of_ble_eq_true rfl, Nat.le_of_ble_eq_true rfl⟩) 0 5 rfl rfl rfl rfl hl.1 rfl (Nat.le_of_ble_eq_true rfl) dX5_rekey_81 ⟨Nat.zero_le _, Nat.zero_le _⟩ (fun H locs hG => ?_)
        refine lv_aload_n hx hb dX5_rekey_84 rfl (lv_at hl 1 rfl) ?_
        obtain ⟨uv33, q34, hf⟩ := cl1_e hf
        refine x_callVv (pre := ([] : va_W)) (wc := WM κ a uv31) (wc1 := WM κ a uv33) (post := ([] : va_W)) (As := []) (rest := []) (w1 := WM κ a uv33) ⟨hx, hb, hml, hown, hts⟩ hK hG hA (by simp only [List.append_assoc, List.nil_append, List.append_nil]) (by simp only [List.append_assoc, List.nil_append, List.append_nil]) (c_X5_sweep l D κ a H.size uv31 uv33 q34) (cwV 0 hts gX5_rekey_X5_sweep rfl rfl rfl (by decide +kernel) ⟨Nat.le_of_ble_eq_true rfl, Nat.le_of_ble_eq_true rfl⟩) 0 5 rfl rfl rfl rfl hl.1 rfl (Nat.le_of_ble_eq_true rfl) dX5_rekey_85 ⟨Nat.zero_le _, Nat.zero_le _⟩ (fun H locs hG => ?_)
        refine lv_iconst (v := 0) hx hb dX5_rekey_88 (by decide) ?_
        refine lv_istore (lv' := [(4, .int 0), (3, .int v27), (0, .ref (a 0)), (1, .int p1), (2, .int p2)]) hx hb dX5_rekey_89 hl (by decide) rfl (fun ls hl => ?_)
        refine lv_iconst (v := 0) hx hb dX5_rekey_91 (by decide) ?_
        refine lv_istore (lv' := [(5, .int 0), (4, .int 0), (3, .int v27), (0, .ref (a 0)), (1, .int p1), (2, .int p2)]) hx hb dX5_rekey_92 hl (by decide) rfl (fun ls hl => ?_)
        exact L94  FU p1 v27 0 0 uv33 hf H locs ls hG (lv_sub hl [3, 4, 2, 1, 0] rfl)
      · rw [lg_cmp_eq] at c24
        replace hf := if_t c24 hf
        refine lv_aload_n hx hb dX5_rekey_46 rfl (lv_at hl 0 rfl) ?_
        refine lv_bipush (v := (-4)) hx hb dX5_rekey_47 (by decide) ?_
        obtain ⟨r35, uv36, q37, hf⟩ := cl2_e hf
        refine x_callVi (pre := ([] : va_W)) (wc := WM κ a uv16) (wc1 := WM κ a uv36) (post := ([] : va_W)) (As := [.int ((-4))]) (rest := []) (w1 := WM κ a uv36) ⟨hx, hb, hml, hown, hts⟩ hK hG hA (by simp only [List.append_assoc, List.nil_append, List.append_nil]) (by simp only [List.append_assoc, List.nil_append, List.append_nil]) (c_X5_refuse l D κ a H.size ((-4)) uv16 r35 uv36 q37) (cwV 1 hts gX5_rekey_X5_refuse rfl rfl rfl (by decide +kernel) ⟨Nat.le_of_ble_eq_true rfl, Nat.le_of_ble_eq_true rfl⟩) 0 5 rfl rfl rfl rfl hl.1 rfl (Nat.le_of_ble_eq_true rfl) dX5_rekey_49 ⟨Nat.zero_le _, Nat.zero_le _⟩ (fun H locs hG => ?_)
        have hz := Option.some.inj hf
        have z0 := (Prod.mk.inj hz).1
        replace hz := (Prod.mk.inj hz).2
        have z1 := hz
        exact x_iret hx hb hr hlk hK hG z0 (by rw [z1]) dX5_rekey_52
    · replace hf := if_t c22 hf
      refine lv_aload_n hx hb dX5_rekey_27 rfl (lv_at hl 0 rfl) ?_
      refine lv_bipush (v := (-2)) hx hb dX5_rekey_28 (by decide) ?_
      obtain ⟨r38, uv39, q40, hf⟩ := cl2_e hf
      refine x_callVi (pre := ([] : va_W)) (wc := WM κ a uv16) (wc1 := WM κ a uv39) (post := ([] : va_W)) (As := [.int ((-2))]) (rest := []) (w1 := WM κ a uv39) ⟨hx, hb, hml, hown, hts⟩ hK hG hA (by simp only [List.append_assoc, List.nil_append, List.append_nil]) (by simp only [List.append_assoc, List.nil_append, List.append_nil]) (c_X5_refuse l D κ a H.size ((-2)) uv16 r38 uv39 q40) (cwV 1 hts gX5_rekey_X5_refuse rfl rfl rfl (by decide +kernel) ⟨Nat.le_of_ble_eq_true rfl, Nat.le_of_ble_eq_true rfl⟩) 0 5 rfl rfl rfl rfl hl.1 rfl (Nat.le_of_ble_eq_true rfl) dX5_rekey_30 ⟨Nat.zero_le _, Nat.zero_le _⟩ (fun H locs hG => ?_)
      have hz := Option.some.inj hf
      have z0 := (Prod.mk.inj hz).1
      replace hz := (Prod.mk.inj hz).2
      have z1 := hz
      exact x_iret hx hb hr hlk hK hG z0 (by rw [z1]) dX5_rekey_33
  · replace hf := if_t c19 hf
    refine lv_aload_n hx hb dX5_rekey_13 rfl (lv_at hl 0 rfl) ?_
    refine lv_iconst (v := (-1)) hx hb dX5_rekey_14 (by decide) ?_
    obtain ⟨r41, uv42, q43, hf⟩ := cl2_e hf
    refine x_callVi (pre := ([] : va_W)) (wc := WM κ a uv16) (wc1 := WM κ a uv42) (post := ([] : va_W)) (As := [.int ((-1))]) (rest := []) (w1 := WM κ a uv42) ⟨hx, hb, hml, hown, hts⟩ hK hG hA (by simp only [List.append_assoc, List.nil_append, List.append_nil]) (by simp only [List.append_assoc, List.nil_append, List.append_nil]) (c_X5_refuse l D κ a H.size ((-1)) uv16 r41 uv42 q43) (cwV 1 hts gX5_rekey_X5_refuse rfl rfl rfl (by decide +kernel) ⟨Nat.le_of_ble_eq_true rfl, Nat.le_of_ble_eq_true rfl⟩) 0 5 rfl rfl rfl rfl hl.1 rfl (Nat.le_of_ble_eq_true rfl) dX5_rekey_15 ⟨Nat.zero_le _, Nat.zero_le _⟩ (fun H locs hG => ?_)
    have hz := Option.some.inj hf
    have z0 := (Prod.mk.inj hz).1
    replace hz := (Prod.mk.inj hz).2
    have z1 := hz
    exact x_iret hx hb hr hlk hK hG z0 (by rw [z1]) dX5_rekey_18
set_option maxRecDepth 100000 in
set_option maxHeartbeats 4000000 in
theorem c_X5_raise (l : Launch) (D : va_G) (κ : Nat → ClassId) (a : Nat → Nat) (sz : Nat) (p1 : Int32) (p2 : Int32) (uv : MS) (r' : Int32) (uv' : MS) (hf : f_X5_raise p1 p2 uv = some (r', uv')) : Met l yX5_raise wsX5_raise ({ frames := 2, cells := 0, slots := 0, locals := 45 } : Room) (xPc D κ [.ref (a 0), .int p1, .int p2] (WM κ a uv) sz) (xQi D κ r' (WM κ a uv') (va_A (WM κ a uv) sz)) 0 0 (va_A (WM κ a uv) sz) := by
  refine x_ofW (cc := cX5_raise) (maxL := 4) (ret := (some .int)) (Qf := fun A => xQi D κ r' (WM κ a uv') A) (by decide) rfl (Nat.le_of_ble_eq_true rfl) ?_
  intro p e s m below meth c hx hb hr hlk hml hown hts hK A hA H locs hG ls hl
  have hown : s.vm.findClass RX5 = some m.cls := hown
  have hl : lv_has ls 4 [(0, .ref (a 0)), (1, .int p1), (2, .int p2)] := hl
  have iX5 : ∀ w ∈ u_ws RX5 TX5 27, w ∈ wsX5_raise := fun _ h => List.mem_cons_of_mem _ (List.mem_append_right _ h)
  have k13 := hts (.fieldLink RX5 13 "SpineDesksModel" "row" "[I") (List.mem_of_getElem? (i := 4) rfl)
  have k16 := hts (.fieldLink RX5 16 "SpineDesksModel" "keys" "[J") (List.mem_of_getElem? (i := 5) rfl)
  have k166 := hts (.constantLong RX5 166 (-1000000)) (List.mem_of_getElem? (i := 2) rfl)
  have k168 := hts (.constantLong RX5 168 (1000000)) (List.mem_of_getElem? (i := 3) rfl)
  have k63 := hts (.fieldLink RX5 63 "SpineDesksModel" "thrown" "I") (List.mem_of_getElem? (i := 1) rfl)
  have L91 : ∀ (rec53 : Int32 → Int32 → Int32 → MS → Option (Int32 × MS)) (hr53 : ∀ (y1 : Int32) (y2 : Int32) (y3 : Int32) (uv : MS), rec53 y1 y2 y3 uv = some (r', uv') → ∀ (H : Heap) (locs : List Loc) (ls : Array Slot), xG D A s.heap (WM κ a uv) H locs → lv_has ls 4 [(0, .ref (a 0)), (1, .int y1), (2, .int y2), (3, .int y3)] → W p l e ({ frames := 2, cells := 0, slots := 0, locals := 45 } : Room) s m (([.ref (a 0), .int p1, .int p2] : List Value).toArray) below meth c H locs 0 0 (MQ below (xQi D κ r' (WM κ a uv') A) (([.ref (a 0), .int p1, .int p2] : List Value).toArray) s 0 0 A) (F0 m 53 ls [])), ∀ (x1 : Int32) (x2 : Int32) (x3 : Int32) (s1 : Int32) (s2 : Int64) (s3 : Int64) (uv : MS), f_X5_raise_91 rec53 x1 x2 x3 s1 s2 s3 uv = some (r', uv') → ∀ (H : Heap) (locs : List Loc) (ls : Array Slot), xG D A s.heap (WM κ a uv) H locs → lv_has ls 4 [(0, .ref (a 0)), (1, .int x1), (2, .int x2), (3, .int x3)] → W p l e ({ frames := 2, cells := 0, slots := 0, locals := 45 } : Room) s m (([.ref (a 0), .int p1, .int p2] : List Value).toArray) below meth c H locs 0 0 (MQ below (xQi D κ r' (WM κ a uv') A) (([.ref (a 0), .int p1, .int p2] : List Value).toArray) s 0 0 A) (F0 m 91 ls [.long s3, .long s2, .int s1, .ref (a 3)]) := by
    intro rec53 hr53 x1 x2 x3 s1 s2 s3 uv hf H locs ls hG hl
    unfold f_X5_raise_91 at hf
    refine lv_ladd hx hb dX5_raise_91 ?_
    obtain ⟨uv1, euv1, hin, hf⟩ := ck_e hf
    refine x_last hx hb hK hG 3 rfl (w1 := WM κ a uv1) (by rw [euv1]; rfl) hin dX5_raise_92 (fun H locs hG => ?_)
    obtain ⟨y2, ey2, hf⟩ := bnd_e hf
    refine lv_iinc (v := y2) (lv' := [(3, .int y2), (0, .ref (a 0)), (1, .int x1), (2, .int x2)]) hx hb dX5_raise_93 hl (k := 3) rfl (by rw [ey2]; rfl) (by decide) rfl (fun ls hl => ?_)
    refine lv_goto (tgt := 53) hx hb dX5_raise_96 (by decide) ?_
    exact hr53 x1 x2 y2 uv1 hf H locs ls hG (lv_sub hl [1, 2, 3, 0] rfl)
  have L53 : ∀ (n : Nat), ∀ (x1 : Int32) (x2 : Int32) (x3 : Int32) (uv : MS), f_X5_raise_53 n x1 x2 x3 uv = some (r', uv') → ∀ (H : Heap) (locs : List Loc) (ls : Array Slot), xG D A s.heap (WM κ a uv) H locs → lv_has ls 4 [(0, .ref (a 0)), (1, .int x1), (2, .int x2), (3, .int x3)] → W p l e ({ frames := 2, cells := 0, slots := 0, locals := 45 } : Room) s m (([.ref (a 0), .int p1, .int p2] : List Value).toArray) below meth c H locs 0 0 (MQ below (xQi D κ r' (WM κ a uv') A) (([.ref (a 0), .int p1, .int p2] : List Value).toArray) s 0 0 A) (F0 m 53 ls []) := by
    intro  n
    induction n with
    | zero => intro x1 x2 x3 uv hf; cases hf
    | succ n ih =>
      intro x1 x2 x3 uv hf H locs ls hG hl
      replace hf : f_X5_raise_B53 (f_X5_raise_53 n) x1 x2 x3 uv = some (r', uv') := hf
      unfold f_X5_raise_B53 at hf
      refine lv_iload_n hx hb dX5_raise_53 rfl (lv_at hl 3 rfl) ?_
      refine lv_aload_n hx hb dX5_raise_54 rfl (lv_at hl 0 rfl) ?_
      refine x_get (C := RX5) (T := TX5) (N := 27) (ci := 5) hx hb hts iX5 hown hK hG 0 rfl rfl 2 (by decide) k13 (v := .ref (a 2)) rfl dX5_raise_55 ?_
      refine lv_iconst (v := 0) hx hb dX5_raise_58 (by decide) ?_
      obtain ⟨v3, ev3, hin, hf⟩ := ck_e hf
      refine x_iald hx hb hK hG 2 rfl ev3 hin dX5_raise_59 ?_
      refine lv_icmp_ge (tgt := 99) hx hb dX5_raise_60 (by decide) (fun c4 => ?_) (fun c4 => ?_)
      · replace hf := if_t c4 hf
        refine lv_aload_n hx hb dX5_raise_99 rfl (lv_at hl 0 rfl) ?_
        refine lv_iload_n hx hb dX5_raise_100 rfl (lv_at hl 1 rfl) ?_
        refine lv_iconst (v := 1) hx hb dX5_raise_101 (by decide) ?_
        obtain ⟨r5, q6, hf⟩ := cl1_e hf
        refine x_callVi (pre := ([] : va_W)) (wc := WM κ a uv) (wc1 := WM κ a uv) (post := ([] : va_W)) (As := [.int x1, .int 1]) (rest := []) (w1 := WM κ a uv) ⟨hx, hb, hml, hown, hts⟩ hK hG hA (by simp only [List.append_assoc, List.nil_append, List.append_nil]) (by simp only [List.append_assoc, List.nil_append, List.append_nil]) (c_X5_many l D κ a H.size x1 1 uv r5 q6) (cwV 2 hts gX5_raise_X5_many rfl rfl rfl (by decide +kernel) ⟨Nat.le_of_ble_eq_true rfl, Nat.le_of_ble_eq_true rfl⟩) 0 5 rfl rfl rfl rfl hl.1 rfl (Nat.le_of_ble_eq_true rfl) dX5_raise_102 ⟨Nat.zero_le _, Nat.zero_le _⟩ (fun H locs hG => ?_)
        have hz := Option.some.inj hf
        have z0 := (Prod.mk.inj hz).1
        replace hz := (Prod.mk.inj hz).2
        have z1 := hz
        exact x_iret hx hb hr hlk hK hG z0 (by rw [z1]) dX5_raise_105
      · replace hf := if_f c4 hf
        refine lv_aload_n hx hb dX5_raise_63 rfl (lv_at hl 0 rfl) ?_
        refine x_get (C := RX5) (T := TX5) (N := 27) (ci := 5) hx hb hts iX5 hown hK hG 0 rfl rfl 3 (by decide) k16 (v := .ref (a 3)) rfl dX5_raise_64 ?_
        refine lv_iload_n hx hb dX5_raise_67 rfl (lv_at hl 3 rfl) ?_
        refine lv_dup2_11 hx hb dX5_raise_68 rfl rfl ?_
        obtain ⟨v7, ev7, hin, hf⟩ := ck_e hf
        refine x_lald hx hb hK hG 3 rfl ev7 hin dX5_raise_69 ?_
        refine lv_aload_n hx hb dX5_raise_70 rfl (lv_at hl 0 rfl) ?_
        refine x_get (C := RX5) (T := TX5) (N := 27) (ci := 5) hx hb hts iX5 hown hK hG 0 rfl rfl 2 (by decide) k13 (v := .ref (a 2)) rfl dX5_raise_71 ?_
        refine lv_iload_n hx hb dX5_raise_74 rfl (lv_at hl 3 rfl) ?_
        obtain ⟨r8, q9, hf⟩ := cl1_e hf
        refine x_callSi (pre := ([] : va_W)) (wc := ([] : va_W)) (wc1 := ([] : va_W)) (post := WM κ a uv) (As := [.int x3]) (rest := [.ref (a 2), .long v7, .int x3, .ref (a 3)]) (w1 := WM κ a uv) ⟨hx, hb, hml, hown, hts⟩ hK hG hA (by simp only [List.append_assoc, List.nil_append, List.append_nil]) (by simp only [List.append_assoc, List.nil_append, List.append_nil]) (c_X5_at l D κ a H.size x3 r8 q9) (va_cwS 1 hts gX5_raise_X5_at rfl rfl rfl (by decide +kernel) ⟨Nat.le_of_ble_eq_true rfl, Nat.le_of_ble_eq_true rfl⟩) rfl hl.1 rfl (Nat.le_of_ble_eq_true rfl) dX5_raise_75 ⟨Nat.zero_le _, Nat.zero_le _⟩ (fun H locs hG => ?_)
        refine lv_iconst (v := 1) hx hb dX5_raise_78 (by decide) ?_
        refine lv_iadd hx hb dX5_raise_79 ?_
        obtain ⟨v10, ev10, hin, hf⟩ := ck_e hf
        refine x_iald hx hb hK hG 2 rfl ev10 hin dX5_raise_80 ?_
        refine lv_iload_n hx hb dX5_raise_81 rfl (lv_at hl 1 rfl) ?_
        refine lv_icmp_ne (tgt := 90) hx hb dX5_raise_82 (by decide) (fun c11 => ?_) (fun c11 => ?_)
        · replace hf := if_f c11 hf
          refine lv_lconst (v := 0) hx hb dX5_raise_90 (by decide) ?_
          exact L91 (f_X5_raise_53 n) ih  x1 x2 x3 x3 v7 0 uv hf H locs ls hG (lv_sub hl [0, 1, 2, 3] rfl)
        · replace hf := if_t c11 hf
          refine lv_iload_n hx hb dX5_raise_85 rfl (lv_at hl 2 rfl) ?_
          refine lv_i2l hx hb dX5_raise_86 rfl ?_
          refine lv_goto (tgt := 91) hx hb dX5_raise_87 (by decide) ?_
          exact L91 (f_X5_raise_53 n) ih  x1 x2 x3 x3 v7 (x2.toInt64) uv hf H locs ls hG (lv_sub hl [0, 1, 2, 3] rfl)
  have L26 : ∀ (uv : MS), f_X5_raise_26 uv = some (r', uv') → ∀ (H : Heap) (locs : List Loc) (ls : Array Slot), xG D A s.heap (WM κ a uv) H locs → lv_has ls 4 [(0, .ref (a 0))] → W p l e ({ frames := 2, cells := 0, slots := 0, locals := 45 } : Room) s m (([.ref (a 0), .int p1, .int p2] : List Value).toArray) below meth c H locs 0 0 (MQ below (xQi D κ r' (WM κ a uv') A) (([.ref (a 0), .int p1, .int p2] : List Value).toArray) s 0 0 A) (F0 m 26 ls []) := by
    intro  uv hf H locs ls hG hl
    unfold f_X5_raise_26 at hf
    refine lv_aload_n hx hb dX5_raise_26 rfl (lv_at hl 0 rfl) ?_
    refine lv_iconst (v := (-1)) hx hb dX5_raise_27 (by decide) ?_
    obtain ⟨r12, uv13, q14, hf⟩ := cl2_e hf
    refine x_callVi (pre := ([] : va_W)) (wc := WM κ a uv) (wc1 := WM κ a uv13) (post := ([] : va_W)) (As := [.int ((-1))]) (rest := []) (w1 := WM κ a uv13) ⟨hx, hb, hml, hown, hts⟩ hK hG hA (by simp only [List.append_assoc, List.nil_append, List.append_nil]) (by simp only [List.append_assoc, List.nil_append, List.append_nil]) (c_X5_refuse l D κ a H.size ((-1)) uv r12 uv13 q14) (cwV 1 hts gX5_raise_X5_refuse rfl rfl rfl (by decide +kernel) ⟨Nat.le_of_ble_eq_true rfl, Nat.le_of_ble_eq_true rfl⟩) 0 5 rfl rfl rfl rfl hl.1 rfl (Nat.le_of_ble_eq_true rfl) dX5_raise_28 ⟨Nat.zero_le _, Nat.zero_le _⟩ (fun H locs hG => ?_)
    have hz := Option.some.inj hf
    have z0 := (Prod.mk.inj hz).1
    replace hz := (Prod.mk.inj hz).2
    have z1 := hz
    exact x_iret hx hb hr hlk hK hG z0 (by rw [z1]) dX5_raise_31
  unfold f_X5_raise at hf
  refine lv_aload_n hx hb dX5_raise_0 rfl (lv_at hl 0 rfl) ?_
  refine lv_iconst (v := 0) hx hb dX5_raise_1 (by decide) ?_
  obtain ⟨uv15, euv15, hf⟩ := bnd_e hf
  refine x_put (C := RX5) (T := TX5) (N := 27) (ci := 5) hx hb hts iX5 tyX5 tyX5_ok nmX5 hown hK hG 0 rfl rfl 0 (by decide) k63 rfl (ty := .int) (v := .int 0) rfl rfl rfl (Nat.le_of_ble_eq_true rfl) (w1 := WM κ a uv15) (by rw [euv15]; rfl) dX5_raise_2 (fun H locs hG => ?_)
  refine lv_iload_n hx hb dX5_raise_5 rfl (lv_at hl 1 rfl) ?_
  obtain ⟨r16, q17, hf⟩ := cl1_e hf
  refine x_callSi (pre := ([] : va_W)) (wc := ([] : va_W)) (wc1 := ([] : va_W)) (post := WM κ a uv15) (As := [.int p1]) (rest := []) (w1 := WM κ a uv15) ⟨hx, hb, hml, hown, hts⟩ hK hG hA (by simp only [List.append_assoc, List.nil_append, List.append_nil]) (by simp only [List.append_assoc, List.nil_append, List.append_nil]) (c_X5_isDesk l D κ a H.size p1 r16 q17) (va_cwS 1 hts gX5_raise_X5_isDesk rfl rfl rfl (by decide +kernel) ⟨Nat.le_of_ble_eq_true rfl, Nat.le_of_ble_eq_true rfl⟩) rfl hl.1 rfl (Nat.le_of_ble_eq_true rfl) dX5_raise_6 ⟨Nat.zero_le _, Nat.zero_le _⟩ (fun H locs hG => ?_)
  refine lv_if_eq (tgt := 26) hx hb dX5_raise_9 (by decide) (fun c18 => ?_) (fun c18 => ?_)
  · replace hf := if_t c18 hf
    exact L26   uv15 hf H locs ls hG (lv_sub hl [0] rfl)
  · replace hf := if_f c18 hf
    refine lv_iload_n hx hb dX5_raise_12 rfl (lv_at hl 2 rfl) ?_
    refine lv_i2l hx hb dX5_raise_13 rfl ?_
    refine lv_ldc2 (v := (-1000000)) hx hb hown k166 dX5_raise_14 ?_
    refine lv_ldc2 (v := 1000000) hx hb hown k168 dX5_raise_17 ?_
    obtain ⟨r19, q20, hf⟩ := cl1_e hf
    refine x_callSi (pre := ([] : va_W)) (wc := ([] : va_W)) (wc1 := ([] : va_W)) (post := WM κ a uv15) (As := [.long (p2.toInt64), .long ((-1000000)), .long 1000000]) (rest := []) (w1 := WM κ a uv15) ⟨hx, hb, hml, hown, hts⟩ hK hG hA (by simp only [List.append_assoc, List.nil_append, List.append_nil]) (by simp only [List.append_assoc, List.nil_append, List.append_nil]) (c_X5_in l D κ a H.size (p2.toInt64) ((-1000000)) 1000000 r19 q20) (va_cwS 3 hts gX5_raise_X5_in rfl rfl rfl (by decide +kernel) ⟨Nat.le_of_ble_eq_true rfl, Nat.le_of_ble_eq_true rfl⟩) rfl hl.1 rfl (Nat.le_of_ble_eq_true rfl) dX5_raise_20 ⟨Nat.zero_le _, Nat.zero_le _⟩ (fun H locs hG => ?_)
    refine lv_if_ne (tgt := 32) hx hb dX5_raise_23 (by decide) (fun c21 => ?_) (fun c21 => ?_)
    · replace hf := if_f c21 hf
      refine lv_aload_n hx hb dX5_raise_32 rfl (lv_at hl 0 rfl) ?_
      refine x_get (C := RX5) (T := TX5) (N := 27) (ci := 5) hx hb hts iX5 hown hK hG 0 rfl rfl 2 (by decide) k13 (v := .ref (a 2)) rfl dX5_raise_33 ?_
      refine lv_iconst (v := 4) hx hb dX5_raise_36 (by decide) ?_
      refine lv_iload_n hx hb dX5_raise_37 rfl (lv_at hl 1 rfl) ?_
      refine lv_iadd hx hb dX5_raise_38 ?_
      obtain ⟨v22, ev22, hin, hf⟩ := ck_e hf
      refine x_iald hx hb hK hG 2 rfl ev22 hin dX5_raise_39 ?_
      refine lv_iconst (v := (-1)) hx hb dX5_raise_40 (by decide) ?_
      refine lv_icmp_ne (tgt := 51) hx hb dX5_raise_41 (by decide) (fun c23 => ?_) (fun c23 => ?_)
      · replace hf := if_f c23 hf
        refine lv_iconst (v := 0) hx hb dX5_raise_51 (by decide) ?_
        refine lv_istore_n (lv' := [(3, .int 0), (0, .ref (a 0)), (1, .int p1), (2, .int p2)]) hx hb dX5_raise_52 rfl hl (by decide) rfl (fun ls hl => ?_)
        exact L53  FU p1 p2 0 uv15 hf H locs ls hG (lv_sub hl [1, 2, 3, 0] rfl)
      · replace hf := if_t c23 hf
        refine lv_aload_n hx hb dX5_raise_44 rfl (lv_at hl 0 rfl) ?_
        refine lv_bipush (v := (-3)) hx hb dX5_raise_45 (by decide) ?_
        obtain ⟨r24, uv25, q26, hf⟩ := cl2_e hf
        refine x_callVi (pre := ([] : va_W)) (wc := WM κ a uv15) (wc1 := WM κ a uv25) (post := ([] : va_W)) (As := [.int ((-3))]) (rest := []) (w1 := WM κ a uv25) ⟨hx, hb, hml, hown, hts⟩ hK hG hA (by simp only [List.append_assoc, List.nil_append, List.append_nil]) (by simp only [List.append_assoc, List.nil_append, List.append_nil]) (c_X5_refuse l D κ a H.size ((-3)) uv15 r24 uv25 q26) (cwV 1 hts gX5_raise_X5_refuse rfl rfl rfl (by decide +kernel) ⟨Nat.le_of_ble_eq_true rfl, Nat.le_of_ble_eq_true rfl⟩) 0 5 rfl rfl rfl rfl hl.1 rfl (Nat.le_of_ble_eq_true rfl) dX5_raise_47 ⟨Nat.zero_le _, Nat.zero_le _⟩ (fun H locs hG => ?_)
        have hz := Option.some.inj hf
        have z0 := (Prod.mk.inj hz).1
        replace hz := (Prod.mk.inj hz).2
        have z1 := hz
        exact x_iret hx hb hr hlk hK hG z0 (by rw [z1]) dX5_raise_50
    · replace hf := if_t c21 hf
      exact L26   uv15 hf H locs ls hG (lv_sub hl [0] rfl)
