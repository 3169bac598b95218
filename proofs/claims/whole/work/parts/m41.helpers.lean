theorem x_in01 : vp_in (0 : Int32) 1 := vp_in_iff.mpr ⟨by decide, by decide⟩
theorem x_ofWW {l : Launch} {D : va_G} {κ : Nat → ClassId} {y : MethodName} {wsy ws' : List Cond} {rm : Room} {cc : ByteArray} {maxL mc ms : Nat} {ret : Option FieldType} {hh : List (Nat × Nat × Nat × Nat)} {av : List Value} {w : va_W} {sz : Nat} {X : (Nat → Prop) → State → Prop} {Qf : (Nat → Prop) → Array Value → State → Outcome → State → Prop}
    (hy : plainName y.cls = true) (hw : wsy = Cond.codeWith y cc maxL ret hh :: ws') (hlen : (lg_sl av).length ≤ maxL)
    (body : ∀ (p : Program) (e : Env) (s : State) (m : MethodId) (below : List Frame) (meth : Method) (c : Code), p.tables.exec = Jvm.exec → c.code = cc → meth.sig.returnType = ret → meth.locks = false → c.maxLocals = maxL → c.exceptionTable.toList = tableOf hh → s.vm.findClass y.cls = some m.cls → (∀ w ∈ wsy, w.before av.toArray s = true) → va_K D vwCl (xT κ) s →
      ∀ A : Nat → Prop, (∀ q : Nat, s.heap.size ≤ q → A q) → X A s → ∀ (H : Heap) (locs : List Loc), xG D A s.heap w H locs → ∀ ls : Array Slot, lv_has ls maxL (lv_args 0 av) → W p l e rm s m av.toArray below meth c H locs 0 0 (MQ below (Qf A) av.toArray s mc ms A) (F0 m 0 ls [])) :
    Met l y wsy rm (fun a U => xPc D κ av w sz a U ∧ X (va_A w sz) U) (Qf (va_A w sz)) mc ms (va_A w sz) := by
  refine va_MetW (cc := cc) (maxL := maxL) (ret := ret) (hh := hh) hy hw ?_
  intro p e s m args below meth c s₁ B hml hv
  obtain ⟨⟨rfl, hsz, hP, hK, hD0⟩, hX⟩ := hv
  subst hsz
  have hl := lv_entry av hlen
  rw [lg_entry_eq]
  have hts := atoms_spec (ws := wsy) B.pre
  exact body p e s m below meth c B.exec B.bytes B.returns B.notSynchronized hml (vx_table (x := y) B (hts _ (by rw [hw]; exact List.mem_cons_self))) (findClass_of_methodNamed B.named) hts hK _ (fun q h => Or.inr h) hX _ _ ⟨hP, hD0.self, va_S.rf⟩ _ hl

def wsKL_key : List Cond := .codeWith yL_key cL_key 4 (some .int) [(0, 8, 11, 13)] :: ([.classLink RL 13 "java/util/NoSuchElementException", .methodLink RL 7 yX4_key, .instanceMethod yX4_key, .selects RX4 yX4_key yX4_key, .initialized RX4, .code yX4_key cX4_key 2 (some .long), .classLink RX4 175 "java/util/NoSuchElementException", .initialized "java/util/NoSuchElementException", .fieldLink RX4 12 "SpineDesks" "hall" "LSpineDesks$Hall;", .fieldLink RX4 110 "SpineDesks$Hall" "keyOf" "[J", .methodLink RX4 97 yX0_isThere, .instanceMethod yX0_isThere, .selects RX0 yX0_isThere yX0_isThere, .initialized RX0, .code yX0_isThere cX0_isThere 2 (some .boolean), .fieldLink RX0 55 "SpineDesks$Hall" "came" "I", .fieldLink RX0 28 "SpineDesks$Hall" "deskOf" "[I"] ++ wsX40 ++ wsX00 ++ xGood)
set_option maxRecDepth 20000 in
theorem ggKL_key_K_key : GoodIn wsKL_key wsK_key := goodIn_ca (goodIn_r _ [6, 7, 8, 9, 10, 11, 12, 13, 14, 15, 16, 17, 18, 19, 20, 21, 22, 23, 24, 25, 26, 27, 28, 29, 30, 31, 32, 33, 34, 35, 36, 37, 38, 39, 40, 41, 42] (by decide +kernel) (by decide +kernel)) (goodIn_sub (fun _ h => List.mem_cons_of_mem _ (List.mem_append_right _ h)) (by decide +kernel))
set_option maxRecDepth 20000 in
theorem gKL_key_K_key : GoodIn wsKL_key (wsV RL 7 RX4 yX4_key wsK_key) := goodIn_app (goodIn_of _ (by decide +kernel)) ggKL_key_K_key
set_option maxRecDepth 100000 in
set_option maxHeartbeats 4000000 in
theorem c_L_key (l : Launch) (D : va_G) (κ : Nat → ClassId) (a : Nat → Nat) (sz : Nat) (p1 : Int32) (uh : HS) (ur : RS) (un : NS) (us : SS) (uo : OS) (ad : Nat) (fo : Nat → Int64) (r : Int64)  (hf : f_X4_key p1 uh uo = some r) : Met l yL_key wsKL_key ({ frames := 4, cells := 0, slots := 0, locals := 90 } : Room) (fun v U => xPc D κ [.ref (a 25), .int p1, .ref ad] (WH κ a uh ++ (WR κ a ur ++ (WN κ a un ++ (WS κ a us ++ (WO κ a uo ++ [(ad, .inl (κ 1, 1, .inr (.inl fo)))]))))) sz v U ∧ True) (xQi D κ 0 (WH κ a uh ++ (WR κ a ur ++ (WN κ a un ++ (WS κ a us ++ (WO κ a uo ++ [(ad, .inl (κ 1, 1, .inr (.inl (vp_updL fo (0 : Int32).toNatClampNeg r))))]))))) (va_A (WH κ a uh ++ (WR κ a ur ++ (WN κ a un ++ (WS κ a us ++ (WO κ a uo ++ [(ad, .inl (κ 1, 1, .inr (.inl fo)))]))))) sz)) 0 0 (va_A (WH κ a uh ++ (WR κ a ur ++ (WN κ a un ++ (WS κ a us ++ (WO κ a uo ++ [(ad, .inl (κ 1, 1, .inr (.inl fo)))]))))) sz) := by
  refine x_ofWW (y := yL_key) (av := [.ref (a 25), .int p1, .ref ad]) (w := WH κ a uh ++ (WR κ a ur ++ (WN κ a un ++ (WS κ a us ++ (WO κ a uo ++ [(ad, .inl (κ 1, 1, .inr (.inl fo)))]))))) (sz := sz) (X := fun _ _ => True) (cc := cL_key) (maxL := 4) (ret := (some .int)) (hh := [(0, 8, 11, 13)]) (Qf := fun A => xQi D κ 0 (WH κ a uh ++ (WR κ a ur ++ (WN κ a un ++ (WS κ a us ++ (WO κ a uo ++ [(ad, .inl (κ 1, 1, .inr (.inl (vp_updL fo (0 : Int32).toNatClampNeg r))))]))))) A) (by decide) rfl (Nat.le_of_ble_eq_true rfl) ?_
  intro p e s m below meth c hx hb hr hlk hml htb hown hts hK A hA hTH H locs hG ls hl
  have hown : s.vm.findClass RL = some m.cls := hown
  have hl : lv_has ls 4 [(0, .ref (a 25)), (1, .int p1), (2, .ref ad)] := hl
  refine lv_aload_n hx hb dL_key_0 rfl (lv_at hl 2 rfl) ?_
  refine lv_iconst (v := 0) hx hb dL_key_1 (by decide) ?_
  refine lv_aload_n hx hb dL_key_2 rfl (lv_at hl 0 rfl) ?_
  refine lv_iload_n hx hb dL_key_3 rfl (lv_at hl 1 rfl) ?_
  refine x_callVl (pre := []) (wc := WH κ a uh ++ (WR κ a ur ++ (WN κ a un ++ (WS κ a us ++ WO κ a uo)))) (wc1 := WH κ a uh ++ (WR κ a ur ++ (WN κ a un ++ (WS κ a us ++ WO κ a uo)))) (post := [(ad, .inl (κ 1, 1, .inr (.inl fo)))]) (As := [.int p1]) (rest := [.int 0, .ref ad]) (w1 := WH κ a uh ++ (WR κ a ur ++ (WN κ a un ++ (WS κ a us ++ (WO κ a uo ++ [(ad, .inl (κ 1, 1, .inr (.inl fo)))]))))) ⟨hx, hb, hml, hown, hts⟩ hK hG hA (by simp only [List.append_assoc, List.nil_append]) (by simp only [List.append_assoc, List.nil_append]) (c_X4_key l D κ a H.size p1 uh ur un us uo r hf) (cwV 1 hts gKL_key_K_key rfl rfl rfl (by decide +kernel) ⟨Nat.le_of_ble_eq_true rfl, Nat.le_of_ble_eq_true rfl⟩) 25 4 rfl rfl rfl rfl hl.1 rfl (Nat.le_of_ble_eq_true rfl) dL_key_4 ⟨Nat.zero_le _, Nat.zero_le _⟩ (fun H locs hG => ?_)
  refine x_last hx hb hK hG 29 rfl (w1 := WH κ a uh ++ (WR κ a ur ++ (WN κ a un ++ (WS κ a us ++ (WO κ a uo ++ [(ad, .inl (κ 1, 1, .inr (.inl (vp_updL fo (0 : Int32).toNatClampNeg r))))]))))) rfl x_in01 dL_key_7 (fun H locs hG => ?_)
  refine lv_goto (tgt := 14) hx hb dL_key_8 (by decide) ?_
  refine lv_iconst (v := 0) hx hb dL_key_14 (by decide) ?_
  exact x_iret hx hb hr hlk hK hG rfl rfl dL_key_15
set_option maxRecDepth 100000 in
set_option maxHeartbeats 4000000 in
theorem t_L_key (l : Launch) (hl0 : l.stackTraces = false) (D : va_G) (κ : Nat → ClassId) (a : Nat → Nat) (sz sa : Nat) (p1 : Int32) (uh : HS) (ur : RS) (un : NS) (us : SS) (uo : OS) (ad : Nat) (fo : Nat → Int64) (hf : f_X0_isThere p1 uh = some 0) : Met l yL_key wsKL_key ({ frames := 8, cells := 1, slots := 6, locals := 130 } : Room) (fun v U => xPc D κ [.ref (a 25), .int p1, .ref ad] (WH κ a uh ++ (WR κ a ur ++ (WN κ a un ++ (WS κ a us ++ (WO κ a uo ++ [(ad, .inl (κ 1, 1, .inr (.inl fo)))]))))) sz v U ∧ xTH sa (va_A (WH κ a uh ++ (WR κ a ur ++ (WN κ a un ++ (WS κ a us ++ (WO κ a uo ++ [(ad, .inl (κ 1, 1, .inr (.inl fo)))]))))) sz) U) (xQi D κ 1 (WH κ a uh ++ (WR κ a ur ++ (WN κ a un ++ (WS κ a us ++ (WO κ a uo ++ [(ad, .inl (κ 1, 1, .inr (.inl fo)))]))))) (va_A (WH κ a uh ++ (WR κ a ur ++ (WN κ a un ++ (WS κ a us ++ (WO κ a uo ++ [(ad, .inl (κ 1, 1, .inr (.inl fo)))]))))) sz)) 1 6 (va_A (WH κ a uh ++ (WR κ a ur ++ (WN κ a un ++ (WS κ a us ++ (WO κ a uo ++ [(ad, .inl (κ 1, 1, .inr (.inl fo)))]))))) sz) := by
  refine x_ofWW (y := yL_key) (av := [.ref (a 25), .int p1, .ref ad]) (w := WH κ a uh ++ (WR κ a ur ++ (WN κ a un ++ (WS κ a us ++ (WO κ a uo ++ [(ad, .inl (κ 1, 1, .inr (.inl fo)))]))))) (sz := sz) (X := fun A U => xTH sa A U) (cc := cL_key) (maxL := 4) (ret := (some .int)) (hh := [(0, 8, 11, 13)]) (Qf := fun A => xQi D κ 1 (WH κ a uh ++ (WR κ a ur ++ (WN κ a un ++ (WS κ a us ++ (WO κ a uo ++ [(ad, .inl (κ 1, 1, .inr (.inl fo)))]))))) A) (by decide) rfl (Nat.le_of_ble_eq_true rfl) ?_
  intro p e s m below meth c hx hb hr hlk hml htb hown hts hK A hA hTH H locs hG ls hl
  have hown : s.vm.findClass RL = some m.cls := hown
  have hl : lv_has ls 4 [(0, .ref (a 25)), (1, .int p1), (2, .ref ad)] := hl
  have k13 := hts (.classLink RL 13 "java/util/NoSuchElementException") (List.mem_of_getElem? (i := 1) rfl)
  refine lv_aload_n hx hb dL_key_0 rfl (lv_at hl 2 rfl) ?_
  refine lv_iconst (v := 0) hx hb dL_key_1 (by decide) ?_
  refine lv_aload_n hx hb dL_key_2 rfl (lv_at hl 0 rfl) ?_
  refine lv_iload_n hx hb dL_key_3 rfl (lv_at hl 1 rfl) ?_
  have hw9 : (WH κ a uh ++ (WR κ a ur ++ (WN κ a un ++ (WS κ a us ++ (WO κ a uo ++ [(ad, .inl (κ 1, 1, .inr (.inl fo)))]))))) = [] ++ ((WH κ a uh ++ (WR κ a ur ++ (WN κ a un ++ (WS κ a us ++ WO κ a uo)))) ++ [(ad, .inl (κ 1, 1, .inr (.inl fo)))]) := by simp only [List.append_assoc, List.nil_append]
  obtain ⟨hPc, hDc, hF, hj⟩ := x_frame (wc1 := WH κ a uh ++ (WR κ a ur ++ (WN κ a un ++ (WS κ a us ++ WO κ a uo)))) hG hA hw9
  refine vx_calll (vx_runV (C := RX4) (As := [.int p1]) (rest := [.int 0, .ref ad]) ⟨hx, hb, hml, hown, hts⟩ (t_X4_key l hl0 D κ a H.size sa p1 uh ur un us uo hf) (cwV 1 hts gKL_key_K_key rfl rfl rfl (by decide +kernel) ⟨Nat.le_of_ble_eq_true rfl, Nat.le_of_ble_eq_true rfl⟩) ⟨fun v U g mk q => ⟨xPc_blind D κ _ _ _ v U g mk q.1, q.2.calling⟩, va_recv (q := (RX4, TX4, 8)) hK hPc (ci := 4) (q0 := 25) rfl rfl, fun U hU hW => ⟨⟨rfl, by rw [hU], by rw [hU]; exact hPc, va_K.moved hW.alike hK, hDc⟩, xTH.at hW hU hG.2.2 hF hTH⟩⟩ rfl rfl hl.1 rfl (lv_room (Nat.le_of_ble_eq_true rfl)) dL_key_4 ⟨Nat.le_of_ble_eq_true rfl, Nat.le_of_ble_eq_true rfl⟩) hG.2.2 (fun q _ h => hF q h) hF (fun q _ h => hF q h) (fun E ce q9 u t H1 locs1 ht hvm _ hB hz hk hS hce hcv hcl => ?_) (fun r_2 u t H1 locs1 ht hvm hpost hB hz hk hS => hpost.elim)
  obtain ⟨rfl, hP1, hK1, hD1⟩ := hB
  rw [ht] at hP1
  obtain ⟨hP2, hD2⟩ := hj H1 hk hP1 hD1
  rw [← hw9] at hP2 hD2
  have hG : xG D A s.heap (WH κ a uh ++ (WR κ a ur ++ (WN κ a un ++ (WS κ a us ++ (WO κ a uo ++ [(ad, .inl (κ 1, 1, .inr (.inl fo)))]))))) H1 locs1 := ⟨hP2, hD2, hS⟩
  refine vx_catch (own := RL) (name := "java/util/NoSuchElementException") hown [] ⟨0, 8, 11, 13⟩ [] htb (fun z hz => nomatch hz) (by decide) (by decide) k13 (hTH.1.use _ (List.mem_of_getElem? (i := 4) rfl)) hce hcv hcl ?_
  refine W.widen (k := 1) (n := 6) (Nat.le_of_ble_eq_true rfl) (Nat.le_of_ble_eq_true rfl) ?_
  refine lv_astore_n (lv' := [(3, .ref q9), (0, .ref (a 25)), (1, .int p1), (2, .ref ad)]) hx hb dL_key_11 rfl hl (by decide) rfl (fun ls hl => ?_)
  refine lv_iconst (v := 1) hx hb dL_key_12 (by decide) ?_
  exact x_iret hx hb hr hlk hK hG rfl rfl dL_key_13
def wsKL_item : List Cond := .codeWith yL_item cL_item 5 (some .int) [(0, 10, 13, 13)] :: ((wsL_item_r1 ++ wsL_item_r2) ++ wsX40 ++ wsX00 ++ wsX20 ++ xGood)
set_option maxRecDepth 20000 in
theorem ggKL_item_K_item : GoodIn wsKL_item wsK_item := goodIn_ca (goodIn_r _ [6, 7, 8, 9, 10, 11, 12, 13, 14, 15, 16, 17, 18, 19, 20, 21, 22, 23, 24, 25, 26, 27, 28, 29, 30, 31, 32, 33, 34, 35, 36, 37, 38, 39, 40, 41, 42, 43, 44, 45, 46, 47, 48, 49, 50, 51, 52, 53, 54, 55, 56, 57, 58, 59, 60, 61, 62, 63, 64, 65, 66, 67, 68, 69, 70] (by decide +kernel) (by decide +kernel)) (goodIn_sub (fun _ h => List.mem_cons_of_mem _ (List.mem_append_right _ h)) (by decide +kernel))
set_option maxRecDepth 20000 in
theorem gKL_item_K_item : GoodIn wsKL_item (wsV RL 15 RX4 yX4_item wsK_item) := goodIn_app (goodIn_of _ (by decide +kernel)) ggKL_item_K_item
set_option maxRecDepth 100000 in
set_option maxHeartbeats 4000000 in
theorem c_L_item (l : Launch) (D : va_G) (κ : Nat → ClassId) (a : Nat → Nat) (sz : Nat) (p1 p2 : Int32) (uh : HS) (ur : RS) (un : NS) (us : SS) (uo : OS) (ad : Nat) (fo : Nat → Int64) (r : Int32) (ur' : RS) (hf : f_X4_item p1 p2 uh ur uo = some (r, ur')) : Met l yL_item wsKL_item ({ frames := 4, cells := 0, slots := 0, locals := 90 } : Room) (fun v U => xPc D κ [.ref (a 25), .int p1, .int p2, .ref ad] (WH κ a uh ++ (WR κ a ur ++ (WN κ a un ++ (WS κ a us ++ (WO κ a uo ++ [(ad, .inl (κ 1, 1, .inr (.inl fo)))]))))) sz v U ∧ True) (xQi D κ 0 (WH κ a uh ++ (WR κ a ur' ++ (WN κ a un ++ (WS κ a us ++ (WO κ a uo ++ [(ad, .inl (κ 1, 1, .inr (.inl (vp_updL fo (0 : Int32).toNatClampNeg (r.toInt64)))))]))))) (va_A (WH κ a uh ++ (WR κ a ur ++ (WN κ a un ++ (WS κ a us ++ (WO κ a uo ++ [(ad, .inl (κ 1, 1, .inr (.inl fo)))]))))) sz)) 0 0 (va_A (WH κ a uh ++ (WR κ a ur ++ (WN κ a un ++ (WS κ a us ++ (WO κ a uo ++ [(ad, .inl (κ 1, 1, .inr (.inl fo)))]))))) sz) := by
  refine x_ofWW (y := yL_item) (av := [.ref (a 25), .int p1, .int p2, .ref ad]) (w := WH κ a uh ++ (WR κ a ur ++ (WN κ a un ++ (WS κ a us ++ (WO κ a uo ++ [(ad, .inl (κ 1, 1, .inr (.inl fo)))]))))) (sz := sz) (X := fun _ _ => True) (cc := cL_item) (maxL := 5) (ret := (some .int)) (hh := [(0, 10, 13, 13)]) (Qf := fun A => xQi D κ 0 (WH κ a uh ++ (WR κ a ur' ++ (WN κ a un ++ (WS κ a us ++ (WO κ a uo ++ [(ad, .inl (κ 1, 1, .inr (.inl (vp_updL fo (0 : Int32).toNatClampNeg (r.toInt64)))))]))))) A) (by decide) rfl (Nat.le_of_ble_eq_true rfl) ?_
  intro p e s m below meth c hx hb hr hlk hml htb hown hts hK A hA hTH H locs hG ls hl
  have hown : s.vm.findClass RL = some m.cls := hown
  have hl : lv_has ls 5 [(0, .ref (a 25)), (1, .int p1), (2, .int p2), (3, .ref ad)] := hl
  refine lv_aload_n hx hb dL_item_0 rfl (lv_at hl 3 rfl) ?_
  refine lv_iconst (v := 0) hx hb dL_item_1 (by decide) ?_
  refine lv_aload_n hx hb dL_item_2 rfl (lv_at hl 0 rfl) ?_
  refine lv_iload_n hx hb dL_item_3 rfl (lv_at hl 1 rfl) ?_
  refine lv_iload_n hx hb dL_item_4 rfl (lv_at hl 2 rfl) ?_
  refine x_callVi (pre := []) (wc := WH κ a uh ++ (WR κ a ur ++ (WN κ a un ++ (WS κ a us ++ WO κ a uo)))) (wc1 := WH κ a uh ++ (WR κ a ur' ++ (WN κ a un ++ (WS κ a us ++ WO κ a uo)))) (post := [(ad, .inl (κ 1, 1, .inr (.inl fo)))]) (As := [.int p1, .int p2]) (rest := [.int 0, .ref ad]) (w1 := WH κ a uh ++ (WR κ a ur' ++ (WN κ a un ++ (WS κ a us ++ (WO κ a uo ++ [(ad, .inl (κ 1, 1, .inr (.inl fo)))]))))) ⟨hx, hb, hml, hown, hts⟩ hK hG hA (by simp only [List.append_assoc, List.nil_append]) (by simp only [List.append_assoc, List.nil_append]) (c_X4_item l D κ a H.size p1 p2 uh ur un us uo r ur' hf) (cwV 2 hts gKL_item_K_item rfl rfl rfl (by decide +kernel) ⟨Nat.le_of_ble_eq_true rfl, Nat.le_of_ble_eq_true rfl⟩) 25 4 rfl rfl rfl rfl hl.1 rfl (Nat.le_of_ble_eq_true rfl) dL_item_5 ⟨Nat.zero_le _, Nat.zero_le _⟩ (fun H locs hG => ?_)
  refine lv_i2l hx hb dL_item_8 rfl ?_
  refine x_last hx hb hK hG 29 rfl (w1 := WH κ a uh ++ (WR κ a ur' ++ (WN κ a un ++ (WS κ a us ++ (WO κ a uo ++ [(ad, .inl (κ 1, 1, .inr (.inl (vp_updL fo (0 : Int32).toNatClampNeg (r.toInt64)))))]))))) rfl x_in01 dL_item_9 (fun H locs hG => ?_)
  refine lv_goto (tgt := 17) hx hb dL_item_10 (by decide) ?_
  refine lv_iconst (v := 0) hx hb dL_item_17 (by decide) ?_
  exact x_iret hx hb hr hlk hK hG rfl rfl dL_item_18
set_option maxRecDepth 100000 in
set_option maxHeartbeats 4000000 in
theorem t_L_item (l : Launch) (hl0 : l.stackTraces = false) (D : va_G) (κ : Nat → ClassId) (a : Nat → Nat) (sz sa : Nat) (p1 p2 : Int32) (uh : HS) (ur : RS) (un : NS) (us : SS) (uo : OS) (ad : Nat) (fo : Nat → Int64) (hf : f_X0_isThere p1 uh = some 0) : Met l yL_item wsKL_item ({ frames := 8, cells := 1, slots := 6, locals := 130 } : Room) (fun v U => xPc D κ [.ref (a 25), .int p1, .int p2, .ref ad] (WH κ a uh ++ (WR κ a ur ++ (WN κ a un ++ (WS κ a us ++ (WO κ a uo ++ [(ad, .inl (κ 1, 1, .inr (.inl fo)))]))))) sz v U ∧ xTH sa (va_A (WH κ a uh ++ (WR κ a ur ++ (WN κ a un ++ (WS κ a us ++ (WO κ a uo ++ [(ad, .inl (κ 1, 1, .inr (.inl fo)))]))))) sz) U) (xQi D κ 1 (WH κ a uh ++ (WR κ a ur ++ (WN κ a un ++ (WS κ a us ++ (WO κ a uo ++ [(ad, .inl (κ 1, 1, .inr (.inl fo)))]))))) (va_A (WH κ a uh ++ (WR κ a ur ++ (WN κ a un ++ (WS κ a us ++ (WO κ a uo ++ [(ad, .inl (κ 1, 1, .inr (.inl fo)))]))))) sz)) 1 6 (va_A (WH κ a uh ++ (WR κ a ur ++ (WN κ a un ++ (WS κ a us ++ (WO κ a uo ++ [(ad, .inl (κ 1, 1, .inr (.inl fo)))]))))) sz) := by
  refine x_ofWW (y := yL_item) (av := [.ref (a 25), .int p1, .int p2, .ref ad]) (w := WH κ a uh ++ (WR κ a ur ++ (WN κ a un ++ (WS κ a us ++ (WO κ a uo ++ [(ad, .inl (κ 1, 1, .inr (.inl fo)))]))))) (sz := sz) (X := fun A U => xTH sa A U) (cc := cL_item) (maxL := 5) (ret := (some .int)) (hh := [(0, 10, 13, 13)]) (Qf := fun A => xQi D κ 1 (WH κ a uh ++ (WR κ a ur ++ (WN κ a un ++ (WS κ a us ++ (WO κ a uo ++ [(ad, .inl (κ 1, 1, .inr (.inl fo)))]))))) A) (by decide) rfl (Nat.le_of_ble_eq_true rfl) ?_
  intro p e s m below meth c hx hb hr hlk hml htb hown hts hK A hA hTH H locs hG ls hl
  have hown : s.vm.findClass RL = some m.cls := hown
  have hl : lv_has ls 5 [(0, .ref (a 25)), (1, .int p1), (2, .int p2), (3, .ref ad)] := hl
  have k13 := hts (.classLink RL 13 "java/util/NoSuchElementException") (List.mem_of_getElem? (i := 1) rfl)
  refine lv_aload_n hx hb dL_item_0 rfl (lv_at hl 3 rfl) ?_
  refine lv_iconst (v := 0) hx hb dL_item_1 (by decide) ?_
  refine lv_aload_n hx hb dL_item_2 rfl (lv_at hl 0 rfl) ?_
  refine lv_iload_n hx hb dL_item_3 rfl (lv_at hl 1 rfl) ?_
  refine lv_iload_n hx hb dL_item_4 rfl (lv_at hl 2 rfl) ?_
  have hw9 : (WH κ a uh ++ (WR κ a ur ++ (WN κ a un ++ (WS κ a us ++ (WO κ a uo ++ [(ad, .inl (κ 1, 1, .inr (.inl fo)))]))))) = [] ++ ((WH κ a uh ++ (WR κ a ur ++ (WN κ a un ++ (WS κ a us ++ WO κ a uo)))) ++ [(ad, .inl (κ 1, 1, .inr (.inl fo)))]) := by simp only [List.append_assoc, List.nil_append]
  obtain ⟨hPc, hDc, hF, hj⟩ := x_frame (wc1 := WH κ a uh ++ (WR κ a ur ++ (WN κ a un ++ (WS κ a us ++ WO κ a uo)))) hG hA hw9
  refine vx_calli (vx_runV (C := RX4) (As := [.int p1, .int p2]) (rest := [.int 0, .ref ad]) ⟨hx, hb, hml, hown, hts⟩ (t_X4_item l hl0 D κ a H.size sa p1 p2 uh ur un us uo hf) (cwV 2 hts gKL_item_K_item rfl rfl rfl (by decide +kernel) ⟨Nat.le_of_ble_eq_true rfl, Nat.le_of_ble_eq_true rfl⟩) ⟨fun v U g mk q => ⟨xPc_blind D κ _ _ _ v U g mk q.1, q.2.calling⟩, va_recv (q := (RX4, TX4, 8)) hK hPc (ci := 4) (q0 := 25) rfl rfl, fun U hU hW => ⟨⟨rfl, by rw [hU], by rw [hU]; exact hPc, va_K.moved hW.alike hK, hDc⟩, xTH.at hW hU hG.2.2 hF hTH⟩⟩ rfl rfl hl.1 rfl (lv_room (Nat.le_of_ble_eq_true rfl)) dL_item_5 ⟨Nat.le_of_ble_eq_true rfl, Nat.le_of_ble_eq_true rfl⟩) hG.2.2 (fun q _ h => hF q h) hF (fun q _ h => hF q h) (fun E ce q9 u t H1 locs1 ht hvm _ hB hz hk hS hce hcv hcl => ?_) (fun r_2 u t H1 locs1 ht hvm hpost hB hz hk hS => hpost.elim)
  obtain ⟨rfl, hP1, hK1, hD1⟩ := hB
  rw [ht] at hP1
  obtain ⟨hP2, hD2⟩ := hj H1 hk hP1 hD1
  rw [← hw9] at hP2 hD2
  have hG : xG D A s.heap (WH κ a uh ++ (WR κ a ur ++ (WN κ a un ++ (WS κ a us ++ (WO κ a uo ++ [(ad, .inl (κ 1, 1, .inr (.inl fo)))]))))) H1 locs1 := ⟨hP2, hD2, hS⟩
  refine vx_catch (own := RL) (name := "java/util/NoSuchElementException") hown [] ⟨0, 10, 13, 13⟩ [] htb (fun z hz => nomatch hz) (by decide) (by decide) k13 (hTH.1.use _ (List.mem_of_getElem? (i := 4) rfl)) hce hcv hcl ?_
  refine W.widen (k := 1) (n := 6) (Nat.le_of_ble_eq_true rfl) (Nat.le_of_ble_eq_true rfl) ?_
  refine lv_astore (lv' := [(4, .ref q9), (0, .ref (a 25)), (1, .int p1), (2, .int p2), (3, .ref ad)]) hx hb dL_item_13 hl (by decide) rfl (fun ls hl => ?_)
  refine lv_iconst (v := 1) hx hb dL_item_15 (by decide) ?_
  exact x_iret hx hb hr hlk hK hG rfl rfl dL_item_16
def wsKL_above : List Cond := .codeWith yL_above cL_above 5 (some .int) [(0, 10, 13, 13)] :: ([.classLink RL 13 "java/util/NoSuchElementException", .methodLink RL 19 yX4_above, .instanceMethod yX4_above, .selects RX4 yX4_above yX4_above, .initialized RX4, .code yX4_above cX4_above 5 (some .int), .classLink RX4 175 "java/util/NoSuchElementException", .initialized "java/util/NoSuchElementException", .fieldLink RX4 12 "SpineDesks" "hall" "LSpineDesks$Hall;", .fieldLink RX4 197 "SpineDesks$Hall" "up" "[I", .methodLink RX4 97 yX0_isThere, .instanceMethod yX0_isThere, .selects RX0 yX0_isThere yX0_isThere, .initialized RX0, .code yX0_isThere cX0_isThere 2 (some .boolean), .fieldLink RX0 55 "SpineDesks$Hall" "came" "I", .fieldLink RX0 28 "SpineDesks$Hall" "deskOf" "[I"] ++ wsX40 ++ wsX00 ++ xGood)
set_option maxRecDepth 20000 in
theorem ggKL_above_K_above : GoodIn wsKL_above wsK_above := goodIn_ca (goodIn_r _ [6, 7, 8, 9, 10, 11, 12, 13, 14, 15, 16, 17, 18, 19, 20, 21, 22, 23, 24, 25, 26, 27, 28, 29, 30, 31, 32, 33, 34, 35, 36, 37, 38, 39, 40, 41, 42] (by decide +kernel) (by decide +kernel)) (goodIn_sub (fun _ h => List.mem_cons_of_mem _ (List.mem_append_right _ h)) (by decide +kernel))
set_option maxRecDepth 20000 in
theorem gKL_above_K_above : GoodIn wsKL_above (wsV RL 19 RX4 yX4_above wsK_above) := goodIn_app (goodIn_of _ (by decide +kernel)) ggKL_above_K_above
set_option maxRecDepth 100000 in
set_option maxHeartbeats 4000000 in
theorem c_L_above (l : Launch) (D : va_G) (κ : Nat → ClassId) (a : Nat → Nat) (sz : Nat) (p1 p2 : Int32) (uh : HS) (ur : RS) (un : NS) (us : SS) (uo : OS) (ad : Nat) (fo : Nat → Int64) (r : Int32)  (hf : f_X4_above p1 p2 uh uo = some r) : Met l yL_above wsKL_above ({ frames := 4, cells := 0, slots := 0, locals := 90 } : Room) (fun v U => xPc D κ [.ref (a 25), .int p1, .int p2, .ref ad] (WH κ a uh ++ (WR κ a ur ++ (WN κ a un ++ (WS κ a us ++ (WO κ a uo ++ [(ad, .inl (κ 1, 1, .inr (.inl fo)))]))))) sz v U ∧ True) (xQi D κ 0 (WH κ a uh ++ (WR κ a ur ++ (WN κ a un ++ (WS κ a us ++ (WO κ a uo ++ [(ad, .inl (κ 1, 1, .inr (.inl (vp_updL fo (0 : Int32).toNatClampNeg (r.toInt64)))))]))))) (va_A (WH κ a uh ++ (WR κ a ur ++ (WN κ a un ++ (WS κ a us ++ (WO κ a uo ++ [(ad, .inl (κ 1, 1, .inr (.inl fo)))]))))) sz)) 0 0 (va_A (WH κ a uh ++ (WR κ a ur ++ (WN κ a un ++ (WS κ a us ++ (WO κ a uo ++ [(ad, .inl (κ 1, 1, .inr (.inl fo)))]))))) sz) := by
  refine x_ofWW (y := yL_above) (av := [.ref (a 25), .int p1, .int p2, .ref ad]) (w := WH κ a uh ++ (WR κ a ur ++ (WN κ a un ++ (WS κ a us ++ (WO κ a uo ++ [(ad, .inl (κ 1, 1, .inr (.inl fo)))]))))) (sz := sz) (X := fun _ _ => True) (cc := cL_above) (maxL := 5) (ret := (some .int)) (hh := [(0, 10, 13, 13)]) (Qf := fun A => xQi D κ 0 (WH κ a uh ++ (WR κ a ur ++ (WN κ a un ++ (WS κ a us ++ (WO κ a uo ++ [(ad, .inl (κ 1, 1, .inr (.inl (vp_updL fo (0 : Int32).toNatClampNeg (r.toInt64)))))]))))) A) (by decide) rfl (Nat.le_of_ble_eq_true rfl) ?_
  intro p e s m below meth c hx hb hr hlk hml htb hown hts hK A hA hTH H locs hG ls hl
  have hown : s.vm.findClass RL = some m.cls := hown
  have hl : lv_has ls 5 [(0, .ref (a 25)), (1, .int p1), (2, .int p2), (3, .ref ad)] := hl
  refine lv_aload_n hx hb dL_above_0 rfl (lv_at hl 3 rfl) ?_
  refine lv_iconst (v := 0) hx hb dL_above_1 (by decide) ?_
  refine lv_aload_n hx hb dL_above_2 rfl (lv_at hl 0 rfl) ?_
  refine lv_iload_n hx hb dL_above_3 rfl (lv_at hl 1 rfl) ?_
  refine lv_iload_n hx hb dL_above_4 rfl (lv_at hl 2 rfl) ?_
  refine x_callVi (pre := []) (wc := WH κ a uh ++ (WR κ a ur ++ (WN κ a un ++ (WS κ a us ++ WO κ a uo)))) (wc1 := WH κ a uh ++ (WR κ a ur ++ (WN κ a un ++ (WS κ a us ++ WO κ a uo)))) (post := [(ad, .inl (κ 1, 1, .inr (.inl fo)))]) (As := [.int p1, .int p2]) (rest := [.int 0, .ref ad]) (w1 := WH κ a uh ++ (WR κ a ur ++ (WN κ a un ++ (WS κ a us ++ (WO κ a uo ++ [(ad, .inl (κ 1, 1, .inr (.inl fo)))]))))) ⟨hx, hb, hml, hown, hts⟩ hK hG hA (by simp only [List.append_assoc, List.nil_append]) (by simp only [List.append_assoc, List.nil_append]) (c_X4_above l D κ a H.size p1 p2 uh ur un us uo r hf) (cwV 2 hts gKL_above_K_above rfl rfl rfl (by decide +kernel) ⟨Nat.le_of_ble_eq_true rfl, Nat.le_of_ble_eq_true rfl⟩) 25 4 rfl rfl rfl rfl hl.1 rfl (Nat.le_of_ble_eq_true rfl) dL_above_5 ⟨Nat.zero_le _, Nat.zero_le _⟩ (fun H locs hG => ?_)
  refine lv_i2l hx hb dL_above_8 rfl ?_
  refine x_last hx hb hK hG 29 rfl (w1 := WH κ a uh ++ (WR κ a ur ++ (WN κ a un ++ (WS κ a us ++ (WO κ a uo ++ [(ad, .inl (κ 1, 1, .inr (.inl (vp_updL fo (0 : Int32).toNatClampNeg (r.toInt64)))))]))))) rfl x_in01 dL_above_9 (fun H locs hG => ?_)
  refine lv_goto (tgt := 17) hx hb dL_above_10 (by decide) ?_
  refine lv_iconst (v := 0) hx hb dL_above_17 (by decide) ?_
  exact x_iret hx hb hr hlk hK hG rfl rfl dL_above_18
set_option maxRecDepth 100000 in
set_option maxHeartbeats 4000000 in
theorem t_L_above (l : Launch) (hl0 : l.stackTraces = false) (D : va_G) (κ : Nat → ClassId) (a : Nat → Nat) (sz sa : Nat) (p1 p2 : Int32) (uh : HS) (ur : RS) (un : NS) (us : SS) (uo : OS) (ad : Nat) (fo : Nat → Int64) (hf : f_X0_isThere p1 uh = some 0) : Met l yL_above wsKL_above ({ frames := 8, cells := 1, slots := 6, locals := 130 } : Room) (fun v U => xPc D κ [.ref (a 25), .int p1, .int p2, .ref ad] (WH κ a uh ++ (WR κ a ur ++ (WN κ a un ++ (WS κ a us ++ (WO κ a uo ++ [(ad, .inl (κ 1, 1, .inr (.inl fo)))]))))) sz v U ∧ xTH sa (va_A (WH κ a uh ++ (WR κ a ur ++ (WN κ a un ++ (WS κ a us ++ (WO κ a uo ++ [(ad, .inl (κ 1, 1, .inr (.inl fo)))]))))) sz) U) (xQi D κ 1 (WH κ a uh ++ (WR κ a ur ++ (WN κ a un ++ (WS κ a us ++ (WO κ a uo ++ [(ad, .inl (κ 1, 1, .inr (.inl fo)))]))))) (va_A (WH κ a uh ++ (WR κ a ur ++ (WN κ a un ++ (WS κ a us ++ (WO κ a uo ++ [(ad, .inl (κ 1, 1, .inr (.inl fo)))]))))) sz)) 1 6 (va_A (WH κ a uh ++ (WR κ a ur ++ (WN κ a un ++ (WS κ a us ++ (WO κ a uo ++ [(ad, .inl (κ 1, 1, .inr (.inl fo)))]))))) sz) := by
  refine x_ofWW (y := yL_above) (av := [.ref (a 25), .int p1, .int p2, .ref ad]) (w := WH κ a uh ++ (WR κ a ur ++ (WN κ a un ++ (WS κ a us ++ (WO κ a uo ++ [(ad, .inl (κ 1, 1, .inr (.inl fo)))]))))) (sz := sz) (X := fun A U => xTH sa A U) (cc := cL_above) (maxL := 5) (ret := (some .int)) (hh := [(0, 10, 13, 13)]) (Qf := fun A => xQi D κ 1 (WH κ a uh ++ (WR κ a ur ++ (WN κ a un ++ (WS κ a us ++ (WO κ a uo ++ [(ad, .inl (κ 1, 1, .inr (.inl fo)))]))))) A) (by decide) rfl (Nat.le_of_ble_eq_true rfl) ?_
  intro p e s m below meth c hx hb hr hlk hml htb hown hts hK A hA hTH H locs hG ls hl
  have hown : s.vm.findClass RL = some m.cls := hown
  have hl : lv_has ls 5 [(0, .ref (a 25)), (1, .int p1), (2, .int p2), (3, .ref ad)] := hl
  have k13 := hts (.classLink RL 13 "java/util/NoSuchElementException") (List.mem_of_getElem? (i := 1) rfl)
  refine lv_aload_n hx hb dL_above_0 rfl (lv_at hl 3 rfl) ?_
  refine lv_iconst (v := 0) hx hb dL_above_1 (by decide) ?_
  refine lv_aload_n hx hb dL_above_2 rfl (lv_at hl 0 rfl) ?_
  refine lv_iload_n hx hb dL_above_3 rfl (lv_at hl 1 rfl) ?_
  refine lv_iload_n hx hb dL_above_4 rfl (lv_at hl 2 rfl) ?_
  have hw9 : (WH κ a uh ++ (WR κ a ur ++ (WN κ a un ++ (WS κ a us ++ (WO κ a uo ++ [(ad, .inl (κ 1, 1, .inr (.inl fo)))]))))) = [] ++ ((WH κ a uh ++ (WR κ a ur ++ (WN κ a un ++ (WS κ a us ++ WO κ a uo)))) ++ [(ad, .inl (κ 1, 1, .inr (.inl fo)))]) := by simp only [List.append_assoc, List.nil_append]
  obtain ⟨hPc, hDc, hF, hj⟩ := x_frame (wc1 := WH κ a uh ++ (WR κ a ur ++ (WN κ a un ++ (WS κ a us ++ WO κ a uo)))) hG hA hw9
  refine vx_calli (vx_runV (C := RX4) (As := [.int p1, .int p2]) (rest := [.int 0, .ref ad]) ⟨hx, hb, hml, hown, hts⟩ (t_X4_above l hl0 D κ a H.size sa p1 p2 uh ur un us uo hf) (cwV 2 hts gKL_above_K_above rfl rfl rfl (by decide +kernel) ⟨Nat.le_of_ble_eq_true rfl, Nat.le_of_ble_eq_true rfl⟩) ⟨fun v U g mk q => ⟨xPc_blind D κ _ _ _ v U g mk q.1, q.2.calling⟩, va_recv (q := (RX4, TX4, 8)) hK hPc (ci := 4) (q0 := 25) rfl rfl, fun U hU hW => ⟨⟨rfl, by rw [hU], by rw [hU]; exact hPc, va_K.moved hW.alike hK, hDc⟩, xTH.at hW hU hG.2.2 hF hTH⟩⟩ rfl rfl hl.1 rfl (lv_room (Nat.le_of_ble_eq_true rfl)) dL_above_5 ⟨Nat.le_of_ble_eq_true rfl, Nat.le_of_ble_eq_true rfl⟩) hG.2.2 (fun q _ h => hF q h) hF (fun q _ h => hF q h) (fun E ce q9 u t H1 locs1 ht hvm _ hB hz hk hS hce hcv hcl => ?_) (fun r_2 u t H1 locs1 ht hvm hpost hB hz hk hS => hpost.elim)
  obtain ⟨rfl, hP1, hK1, hD1⟩ := hB
  rw [ht] at hP1
  obtain ⟨hP2, hD2⟩ := hj H1 hk hP1 hD1
  rw [← hw9] at hP2 hD2
  have hG : xG D A s.heap (WH κ a uh ++ (WR κ a ur ++ (WN κ a un ++ (WS κ a us ++ (WO κ a uo ++ [(ad, .inl (κ 1, 1, .inr (.inl fo)))]))))) H1 locs1 := ⟨hP2, hD2, hS⟩
  refine vx_catch (own := RL) (name := "java/util/NoSuchElementException") hown [] ⟨0, 10, 13, 13⟩ [] htb (fun z hz => nomatch hz) (by decide) (by decide) k13 (hTH.1.use _ (List.mem_of_getElem? (i := 4) rfl)) hce hcv hcl ?_
  refine W.widen (k := 1) (n := 6) (Nat.le_of_ble_eq_true rfl) (Nat.le_of_ble_eq_true rfl) ?_
  refine lv_astore (lv' := [(4, .ref q9), (0, .ref (a 25)), (1, .int p1), (2, .int p2), (3, .ref ad)]) hx hb dL_above_13 hl (by decide) rfl (fun ls hl => ?_)
  refine lv_iconst (v := 1) hx hb dL_above_15 (by decide) ?_
  exact x_iret hx hb hr hlk hK hG rfl rfl dL_above_16
