def xGood : List Cond := (xAll.filter vx_no).filter goodWord
def xBad : List Cond := [.superclass Bundle.tN "java/lang/Object", .declares (Bundle.initS xRTE), .declares (Bundle.initS xEXC), .declares (Bundle.initS Bundle.tN), .castable xNSE xNSE]
theorem xBad_in : ∀ w ∈ (xAll.filter vx_no).filter (fun w => !goodWord w), w ∈ xBad := by decide +kernel
def xNS (U : State) : Prop := ∀ w ∈ xBad, va_Nw w U
theorem x_sup_moved {u U : State} (hvm : u.vm.Alike U.vm) {C D : String} (h : va_Nw (.superclass C D) u) : va_Nw (.superclass C D) U := by
  unfold va_Nw at h ⊢
  simp only [Cond.before, Cond.holds, Cond.value, hvm.findClass] at h ⊢
  cases e1 : u.vm.findClass C with
  | none => simp [e1] at h
  | some c =>
    cases e2 : u.vm.findClass D with
    | none => simp [e1, e2] at h
    | some p =>
      cases e3 : u.vm.classes[c]? with
      | none => simp [e1, e2, e3] at h
      | some k =>
        cases e4 : u.vm.classes[p]? with
        | none => simp [e1, e2, e3, e4] at h
        | some kp =>
          obtain ⟨k', hk', he⟩ := hvm.2.2 _ _ e3
          obtain ⟨kp', hkp', hep⟩ := hvm.2.2 _ _ e4
          simp only [e1, e2, e3, e4, hk', hkp', Option.bind_some, Option.map_some] at h ⊢
          rw [he, hep]
          exact h
theorem xNS.warm {s U : State} (hW : s.WarmedH U.vm) (h : xNS s) : xNS U := by
  intro w hw
  have h1 := h w hw
  simp only [xBad, List.mem_cons, List.not_mem_nil, or_false] at hw
  rcases hw with rfl | rfl | rfl | rfl | rfl
  · exact x_sup_moved hW.alike h1
  · exact va_Nw.warmD hW h1
  · exact va_Nw.warmD hW h1
  · exact va_Nw.warmD hW h1
  · exact va_Nw.warmC hW h1
theorem xNS.use {U : State} {A : Array Value} (h : xNS U) : ∀ w ∈ xBad, w.before A U = true := by
  intro w hw
  have h1 := h w hw
  simp only [xBad, List.mem_cons, List.not_mem_nil, or_false] at hw
  rcases hw with rfl | rfl | rfl | rfl | rfl <;> exact va_Nw.use rfl h1
theorem xNS.same {u U : State} (hv : u.vm = U.vm) (h : xNS u) : xNS U := by
  intro w hw
  have h1 := h w hw
  simp only [xBad, List.mem_cons, List.not_mem_nil, or_false] at hw
  rcases hw with rfl | rfl | rfl | rfl | rfl <;> exact va_Nw.same rfl hv h1
/-- what a throw needs of the state, with cells A that may change -/
def xTH (sa : Nat) (A : Nat → Prop) (U : State) : Prop := xNS U ∧ vx_Zq Bundle.tN "UNASSIGNED_STACK" Bundle.steD A U U.heap ∧ vx_Zq Bundle.tN "SUPPRESSED_SENTINEL" Bundle.listD A U U.heap ∧ vk_R RX4 177 "no such item" sa U
theorem xTH.calling {sa : Nat} {A : Nat → Prop} {U : State} {g : JFrame} {mk : MethodId} {a : Array Value} (h : xTH sa A U) : xTH sa A (U.calling g mk a) := by
  obtain ⟨h1, h2, h3, h4⟩ := h
  exact ⟨xNS.same (u := U) (U := U.calling g mk a) rfl h1, vx_Zq.moved (u := U) (U := U.calling g mk a) (Vm.Alike.refl U.vm) h2, vx_Zq.moved (u := U) (U := U.calling g mk a) (Vm.Alike.refl U.vm) h3, vk_R.same rfl h4⟩
/-- at a state whose heap is H, out of what stood at the caller's entry -/
theorem xTH.at {sa : Nat} {A B : Nat → Prop} {s U : State} {H : Heap} {locs : List Loc} (hW : s.WarmedH U.vm) (hU : U.heap = H) (hS : va_S A s.heap H locs) (hAB : ∀ q, B q → A q) (h : xTH sa A s) : xTH sa B U := by
  obtain ⟨h1, h2, h3, h4⟩ := h
  refine ⟨xNS.warm hW h1, ?_, ?_, vk_R.warm hW h4⟩
  · rw [hU]; exact vx_Zq.moved hW.alike ((h2.kept hS.2.1).narrow hAB)
  · rw [hU]; exact vx_Zq.moved hW.alike ((h3.kept hS.2.1).narrow hAB)
def xXC (D : va_G) (κ : Nat → ClassId) (w : va_W) (A : Nat → Prop) : String → State → State → Prop := vx_X (fun _ : Unit => True) (fun E _ t => E = xNSE ∧ va_P D vwCl w t.heap ∧ va_K D vwCl (xT κ) t ∧ va_D A w) A

def wsK_key : List Cond := .code yX4_key cX4_key 2 (some .long) :: ([.classLink RX4 175 "java/util/NoSuchElementException", .initialized "java/util/NoSuchElementException", .fieldLink RX4 12 "SpineDesks" "hall" "LSpineDesks$Hall;", .fieldLink RX4 110 "SpineDesks$Hall" "keyOf" "[J", .methodLink RX4 97 yX0_isThere, .instanceMethod yX0_isThere, .selects RX0 yX0_isThere yX0_isThere, .initialized RX0, .code yX0_isThere cX0_isThere 2 (some .boolean), .fieldLink RX0 55 "SpineDesks$Hall" "came" "I", .fieldLink RX0 28 "SpineDesks$Hall" "deskOf" "[I"] ++ wsX40 ++ wsX00 ++ xGood)
set_option maxRecDepth 20000 in
theorem ggK_key_X0_isThere : GoodIn wsK_key wsX0_isThere := goodIn_r _ [9, 10, 11, 20, 21, 22, 23, 24, 25, 26, 27, 28, 29, 30, 31, 32, 33, 34, 35, 36] (by decide +kernel) (by decide +kernel)
set_option maxRecDepth 20000 in
theorem gK_key_X0_isThere : GoodIn wsK_key (wsV RX4 97 RX0 yX0_isThere wsX0_isThere) := goodIn_app (goodIn_of _ (by decide +kernel)) ggK_key_X0_isThere
def wsK_item : List Cond := .code yX4_item cX4_item 3 (some .int) :: ((wsX4_item_r1 ++ wsX4_item_r2) ++ wsX40 ++ wsX00 ++ wsX20 ++ xGood)
set_option maxRecDepth 20000 in
theorem ggK_item_X0_isThere : GoodIn wsK_item wsX0_isThere := goodIn_r _ [16, 17, 18, 42, 43, 44, 45, 46, 47, 48, 49, 50, 51, 52, 53, 54, 55, 56, 57, 58] (by decide +kernel) (by decide +kernel)
set_option maxRecDepth 20000 in
theorem gK_item_X0_isThere : GoodIn wsK_item (wsV RX4 97 RX0 yX0_isThere wsX0_isThere) := goodIn_app (goodIn_of _ (by decide +kernel)) ggK_item_X0_isThere
set_option maxRecDepth 20000 in
theorem ggK_item_X0_howManyAbove : GoodIn wsK_item wsX0_howManyAbove := goodIn_r _ [22, 23, 42, 43, 44, 45, 46, 47, 48, 49, 50, 51, 52, 53, 54, 55, 56, 57, 58] (by decide +kernel) (by decide +kernel)
set_option maxRecDepth 20000 in
theorem gK_item_X0_howManyAbove : GoodIn wsK_item (wsV RX4 200 RX0 yX0_howManyAbove wsX0_howManyAbove) := goodIn_app (goodIn_of _ (by decide +kernel)) ggK_item_X0_howManyAbove
set_option maxRecDepth 20000 in
theorem ggK_item_X2_walk : GoodIn wsK_item wsX2_walk := goodIn_r _ [28, 29, 30, 31, 32, 33, 59, 60, 61, 62, 63, 64, 42, 43, 44, 45, 46, 47, 48, 49, 50, 51, 52, 53, 54, 55, 56, 57, 58] (by decide +kernel) (by decide +kernel)
set_option maxRecDepth 20000 in
theorem gK_item_X2_walk : GoodIn wsK_item (wsV RX4 203 RX2 yX2_walk wsX2_walk) := goodIn_app (goodIn_of _ (by decide +kernel)) ggK_item_X2_walk
def wsK_above : List Cond := .code yX4_above cX4_above 5 (some .int) :: ([.classLink RX4 175 "java/util/NoSuchElementException", .initialized "java/util/NoSuchElementException", .fieldLink RX4 12 "SpineDesks" "hall" "LSpineDesks$Hall;", .fieldLink RX4 197 "SpineDesks$Hall" "up" "[I", .methodLink RX4 97 yX0_isThere, .instanceMethod yX0_isThere, .selects RX0 yX0_isThere yX0_isThere, .initialized RX0, .code yX0_isThere cX0_isThere 2 (some .boolean), .fieldLink RX0 55 "SpineDesks$Hall" "came" "I", .fieldLink RX0 28 "SpineDesks$Hall" "deskOf" "[I"] ++ wsX40 ++ wsX00 ++ xGood)
set_option maxRecDepth 20000 in
theorem ggK_above_X0_isThere : GoodIn wsK_above wsX0_isThere := goodIn_r _ [9, 10, 11, 20, 21, 22, 23, 24, 25, 26, 27, 28, 29, 30, 31, 32, 33, 34, 35, 36] (by decide +kernel) (by decide +kernel)
set_option maxRecDepth 20000 in
theorem gK_above_X0_isThere : GoodIn wsK_above (wsV RX4 97 RX0 yX0_isThere wsX0_isThere) := goodIn_app (goodIn_of _ (by decide +kernel)) ggK_above_X0_isThere
set_option maxRecDepth 100000 in
set_option maxHeartbeats 4000000 in
theorem c_X4_key (l : Launch) (D : va_G) (κ : Nat → ClassId) (a : Nat → Nat) (sz : Nat) (p1 : Int32) (uh : HS) (ur : RS) (un : NS) (us : SS) (uo : OS) (r' : Int64)  (hf : f_X4_key p1 uh uo = some (r')) : Met l yX4_key wsK_key ({ frames := 1, cells := 0, slots := 0, locals := 21 } : Room) (xPc D κ [.ref (a 25), .int p1] (WH κ a uh ++ (WR κ a ur ++ (WN κ a un ++ (WS κ a us ++ (WO κ a uo))))) sz) (xQl D κ r' (WH κ a uh ++ (WR κ a ur ++ (WN κ a un ++ (WS κ a us ++ (WO κ a uo))))) (va_A (WH κ a uh ++ (WR κ a ur ++ (WN κ a un ++ (WS κ a us ++ (WO κ a uo))))) sz)) 0 0 (va_A (WH κ a uh ++ (WR κ a ur ++ (WN κ a un ++ (WS κ a us ++ (WO κ a uo))))) sz) := by
  refine x_ofW (cc := cX4_key) (maxL := 2) (ret := (some .long)) (Qf := fun A => xQl D κ r' (WH κ a uh ++ (WR κ a ur ++ (WN κ a un ++ (WS κ a us ++ (WO κ a uo))))) A) (by decide) rfl (Nat.le_of_ble_eq_true rfl) ?_
  intro p e s m below meth c hx hb hr hlk hml hown hts hK A hA H locs hG ls hl
  have hown : s.vm.findClass RX4 = some m.cls := hown
  have hl : lv_has ls 2 [(0, .ref (a 25)), (1, .int p1)] := hl
  have iX0 : ∀ w ∈ u_ws RX0 TX0 17, w ∈ wsK_key := fun _ h => List.mem_cons_of_mem _ (List.mem_append_left _ (List.mem_append_right _ h))
  have iX4 : ∀ w ∈ u_ws RX4 TX4 8, w ∈ wsK_key := fun _ h => List.mem_cons_of_mem _ (List.mem_append_left _ (List.mem_append_left _ (List.mem_append_right _ h)))
  have k110 := hts (.fieldLink RX4 110 "SpineDesks$Hall" "keyOf" "[J") (List.mem_of_getElem? (i := 4) rfl)
  have k12 := hts (.fieldLink RX4 12 "SpineDesks" "hall" "LSpineDesks$Hall;") (List.mem_of_getElem? (i := 3) rfl)
  unfold f_X4_key at hf
  refine lv_aload_n hx hb dX4_key_0 rfl (lv_at hl 0 rfl) ?_
  refine x_get (C := RX4) (T := TX4) (N := 8) (ci := 4) hx hb hts iX4 hown hK hG 25 rfl rfl 0 (by decide) k12 (v := .ref (a 0)) rfl dX4_key_1 ?_
  refine lv_iload_n hx hb dX4_key_4 rfl (lv_at hl 1 rfl) ?_
  obtain ⟨r1, q2, hf⟩ := cl1_e hf
  refine x_callVi (pre := ([] : va_W)) (wc := WH κ a uh) (wc1 := WH κ a uh) (post := WR κ a ur ++ (WN κ a un ++ (WS κ a us ++ (WO κ a uo)))) (As := [.int p1]) (rest := []) (w1 := WH κ a uh ++ (WR κ a ur ++ (WN κ a un ++ (WS κ a us ++ (WO κ a uo))))) ⟨hx, hb, hml, hown, hts⟩ hK hG hA (by simp only [List.append_assoc, List.nil_append, List.append_nil]) (by simp only [List.append_assoc, List.nil_append, List.append_nil]) (c_X0_isThere l D κ a H.size p1 uh r1 q2) (cwV 1 hts gK_key_X0_isThere rfl rfl rfl (by decide +kernel) ⟨Nat.le_of_ble_eq_true rfl, Nat.le_of_ble_eq_true rfl⟩) 0 0 rfl rfl rfl rfl hl.1 rfl (Nat.le_of_ble_eq_true rfl) dX4_key_5 ⟨Nat.zero_le _, Nat.zero_le _⟩ (fun H locs hG => ?_)
  refine lv_if_ne (tgt := 21) hx hb dX4_key_8 (by decide) (fun c3 => ?_) (fun c3 => ?_)
  · replace hf := if_f c3 hf
    refine lv_aload_n hx hb dX4_key_21 rfl (lv_at hl 0 rfl) ?_
    refine x_get (C := RX4) (T := TX4) (N := 8) (ci := 4) hx hb hts iX4 hown hK hG 25 rfl rfl 0 (by decide) k12 (v := .ref (a 0)) rfl dX4_key_22 ?_
    refine x_get (C := RX0) (T := TX0) (N := 17) (ci := 0) hx hb hts iX0 hown hK hG 0 rfl rfl 6 (by decide) k110 (v := .ref (a 2)) rfl dX4_key_25 ?_
    refine lv_iload_n hx hb dX4_key_28 rfl (lv_at hl 1 rfl) ?_
    obtain ⟨v4, ev4, hin, hf⟩ := ck_e hf
    refine x_lald hx hb hK hG 2 rfl ev4 hin dX4_key_29 ?_
    have z0 := Option.some.inj hf
    exact x_lret hx hb hr hlk hK hG z0 rfl dX4_key_30
  · replace hf := if_t c3 hf
    cases hf
set_option maxRecDepth 100000 in
set_option maxHeartbeats 4000000 in
theorem t_X4_key (l : Launch) (hl0 : l.stackTraces = false) (D : va_G) (κ : Nat → ClassId) (a : Nat → Nat) (sz sa : Nat) (p1 : Int32) (uh : HS) (ur : RS) (un : NS) (us : SS) (uo : OS) (hf : f_X0_isThere p1 uh = some 0) : vx_Met l yX4_key wsK_key ({ frames := 6, cells := 1, slots := 6, locals := 90 } : Room) (fun v U => xPc D κ [.ref (a 25), .int p1] (WH κ a uh ++ (WR κ a ur ++ (WN κ a un ++ (WS κ a us ++ WO κ a uo)))) sz v U ∧ xTH sa (va_A (WH κ a uh ++ (WR κ a ur ++ (WN κ a un ++ (WS κ a us ++ WO κ a uo)))) sz) U) (va_Ql (fun (_ : Int64) (_ : Unit) => False) (fun _ _ => True) (va_A (WH κ a uh ++ (WR κ a ur ++ (WN κ a un ++ (WS κ a us ++ WO κ a uo)))) sz)) (xXC D κ (WH κ a uh ++ (WR κ a ur ++ (WN κ a un ++ (WS κ a us ++ WO κ a uo)))) (va_A (WH κ a uh ++ (WR κ a ur ++ (WN κ a un ++ (WS κ a us ++ WO κ a uo)))) sz)) 1 6 (va_A (WH κ a uh ++ (WR κ a ur ++ (WN κ a un ++ (WS κ a us ++ WO κ a uo)))) sz) := by
  refine vx_ofW (cc := cX4_key) (maxL := 2) (ret := (some .long)) (by decide) rfl ?_
  intro p e s m args below meth c s₁ B hml hno hv
  obtain ⟨⟨rfl, hsz, hP, hK, hD0⟩, hTH⟩ := hv
  subst hsz
  have hl := lv_entry [.ref (a 25), .int p1] (n := 2) (Nat.le_of_ble_eq_true rfl)
  rw [lg_entry_eq]
  generalize (lg_sl ([.ref (a 25), .int p1]) ++ List.replicate (2 - (lg_sl ([.ref (a 25), .int p1])).length) Slot.unset).toArray = ls at hl ⊢
  have hl : lv_has ls 2 [(0, .ref (a 25)), (1, .int p1)] := hl
  have hx := B.exec
  have hb := B.bytes
  have hts := atoms_spec (ws := wsK_key) B.pre
  have hown : s.vm.findClass RX4 = some m.cls := findClass_of_methodNamed B.named
  have hlk := B.notSynchronized
  have hD := hD0.self (sz := s.heap.size)
  generalize hAe : va_A (WH κ a uh ++ (WR κ a ur ++ (WN κ a un ++ (WS κ a us ++ WO κ a uo)))) s.heap.size = A at hD hTH ⊢
  have hA : ∀ q : Nat, s.heap.size ≤ q → A q := fun q h => by rw [← hAe]; exact Or.inr h
  obtain ⟨H, hH⟩ : ∃ z, z = s.heap := ⟨_, rfl⟩
  obtain ⟨locs, hL⟩ : ∃ z : List Loc, z = [] := ⟨_, rfl⟩
  have hG : xG D A s.heap (WH κ a uh ++ (WR κ a ur ++ (WN κ a un ++ (WS κ a us ++ WO κ a uo)))) H locs := by rw [hH, hL]; exact ⟨hP, hD, va_S.rf⟩
  rw [← hL]
  show W p l e ({ frames := 6, cells := 1, slots := 6, locals := 90 } : Room) s m ([.ref (a 25), .int p1] : List Value).toArray below meth c s.heap locs 0 0 _ _
  rw [← hH]
  have iX4 : ∀ w ∈ u_ws RX4 TX4 8, w ∈ wsK_key := fun _ h => List.mem_cons_of_mem _ (List.mem_append_left _ (List.mem_append_left _ (List.mem_append_right _ h)))
  have k12 := hts (.fieldLink RX4 12 "SpineDesks" "hall" "LSpineDesks$Hall;") (List.mem_of_getElem? (i := 3) rfl)
  have k175 := hts (.classLink RX4 175 "java/util/NoSuchElementException") (List.mem_of_getElem? (i := 1) rfl)
  have kin := hts (.initialized "java/util/NoSuchElementException") (List.mem_of_getElem? (i := 2) rfl)
  refine lv_aload_n hx hb dX4_key_0 rfl (lv_at hl 0 rfl) ?_
  refine x_get (C := RX4) (T := TX4) (N := 8) (ci := 4) hx hb hts iX4 hown hK hG 25 rfl rfl 0 (by decide) k12 (v := .ref (a 0)) rfl dX4_key_1 ?_
  refine lv_iload_n hx hb dX4_key_4 rfl (lv_at hl 1 rfl) ?_
  refine x_callVi (pre := []) (wc := WH κ a uh) (wc1 := WH κ a uh) (post := WR κ a ur ++ (WN κ a un ++ (WS κ a us ++ WO κ a uo))) (As := [.int p1]) (rest := []) (w1 := WH κ a uh ++ (WR κ a ur ++ (WN κ a un ++ (WS κ a us ++ WO κ a uo)))) ⟨hx, hb, hml, hown, hts⟩ hK hG hA rfl rfl (c_X0_isThere l D κ a H.size p1 uh 0 hf) (cwV 1 hts gK_key_X0_isThere rfl rfl rfl (by decide +kernel) ⟨Nat.le_of_ble_eq_true rfl, Nat.le_of_ble_eq_true rfl⟩) 0 0 rfl rfl rfl rfl hl.1 rfl (Nat.le_of_ble_eq_true rfl) dX4_key_5 ⟨Nat.zero_le _, Nat.zero_le _⟩ (fun H locs hG => ?_)
  refine lv_if_ne (tgt := 21) hx hb dX4_key_8 (by decide) (fun c1 => absurd rfl c1) (fun c1 => ?_)
  have hat : ∀ w ∈ xAll.filter vx_no, w.before ([.ref (a 25), .int p1] : List Value).toArray s = true := vx_hat (fun w hw => hts w (List.mem_cons_of_mem _ <| List.mem_append_right _ hw)) xBad_in hTH.1.use
  exact x_throwNSE hx hb hl0 hown k175 kin hTH.2.2.2 hat hTH.2.1 hTH.2.2.1 hG.2.2 (hl.1.trans hml.symm) dX4_key_11 dX4_key_14 dX4_key_15 dX4_key_17 dX4_key_20 (fun x hx => (hno x hx).elim) (Nat.le_of_ble_eq_true rfl) (Nat.le_of_ble_eq_true rfl) (Nat.le_of_ble_eq_true rfl) (Nat.le_of_ble_eq_true rfl) hlk (fun t ha hle heq => ⟨(), trivial, ⟨rfl, fun k q hk => (hG.1 k q hk).kept (heq q.1 (hG.1 k q hk).lt), va_K.moved ha hK, hG.2.1⟩, Nat.le_trans hG.2.2.1 hle, fun q h1 h2 => (heq q (Nat.lt_of_lt_of_le h1 hG.2.2.1)).trans (hG.2.2.2.1 q h1 h2)⟩) hG.2.2.2.2 (Nat.le_of_ble_eq_true rfl) (Nat.le_of_ble_eq_true rfl)
set_option maxRecDepth 100000 in
set_option maxHeartbeats 4000000 in
theorem c_X4_item (l : Launch) (D : va_G) (κ : Nat → ClassId) (a : Nat → Nat) (sz : Nat) (p1 : Int32) (p2 : Int32) (uh : HS) (ur : RS) (un : NS) (us : SS) (uo : OS) (r' : Int32) (ur' : RS) (hf : f_X4_item p1 p2 uh ur uo = some (r', ur')) : Met l yX4_item wsK_item ({ frames := 1, cells := 0, slots := 0, locals := 24 } : Room) (xPc D κ [.ref (a 25), .int p1, .int p2] (WH κ a uh ++ (WR κ a ur ++ (WN κ a un ++ (WS κ a us ++ (WO κ a uo))))) sz) (xQi D κ r' (WH κ a uh ++ (WR κ a ur' ++ (WN κ a un ++ (WS κ a us ++ (WO κ a uo))))) (va_A (WH κ a uh ++ (WR κ a ur ++ (WN κ a un ++ (WS κ a us ++ (WO κ a uo))))) sz)) 0 0 (va_A (WH κ a uh ++ (WR κ a ur ++ (WN κ a un ++ (WS κ a us ++ (WO κ a uo))))) sz) := by
  refine x_ofW (cc := cX4_item) (maxL := 3) (ret := (some .int)) (Qf := fun A => xQi D κ r' (WH κ a uh ++ (WR κ a ur' ++ (WN κ a un ++ (WS κ a us ++ (WO κ a uo))))) A) (by decide) rfl (Nat.le_of_ble_eq_true rfl) ?_
  intro p e s m below meth c hx hb hr hlk hml hown hts hK A hA H locs hG ls hl
  have hown : s.vm.findClass RX4 = some m.cls := hown
  have hl : lv_has ls 3 [(0, .ref (a 25)), (1, .int p1), (2, .int p2)] := hl
  have iX0 : ∀ w ∈ u_ws RX0 TX0 17, w ∈ wsK_item := fun _ h => List.mem_cons_of_mem _ (List.mem_append_left _ (List.mem_append_left _ (List.mem_append_right _ h)))
  have iX4 : ∀ w ∈ u_ws RX4 TX4 8, w ∈ wsK_item := fun _ h => List.mem_cons_of_mem _ (List.mem_append_left _ (List.mem_append_left _ (List.mem_append_left _ (List.mem_append_right _ h))))
  have k100 := hts (.fieldLink RX4 100 "SpineDesks$Hall" "deskOf" "[I") (List.mem_of_getElem? (i := 5) rfl)
  have k12 := hts (.fieldLink RX4 12 "SpineDesks" "hall" "LSpineDesks$Hall;") (List.mem_of_getElem? (i := 3) rfl)
  have k182 := hts (.fieldLink RX4 182 "SpineDesks$Hall" "tagOf" "[I") (List.mem_of_getElem? (i := 4) rfl)
  have k185 := hts (.fieldLink RX4 185 "SpineDesks$Hall" "crossed" "[I") (List.mem_of_getElem? (i := 6) rfl)
  have k188 := hts (.fieldLink RX4 188 "SpineDesks$Hall" "rank" "[I") (List.mem_of_getElem? (i := 7) rfl)
  have k191 := hts (.fieldLink RX4 191 "SpineDesks$Hall" "left" "[I") (List.mem_of_getElem? (i := 8) rfl)
  have k194 := hts (.fieldLink RX4 194 "SpineDesks$Hall" "right" "[I") (List.mem_of_getElem? (i := 9) rfl)
  have k197 := hts (.fieldLink RX4 197 "SpineDesks$Hall" "up" "[I") (List.mem_of_getElem? (i := 10) rfl)
  have k42 := hts (.fieldLink RX4 42 "SpineDesks" "rows" "LSpineDesks$Rows;") (List.mem_of_getElem? (i := 11) rfl)
  unfold f_X4_item at hf
  refine lv_aload_n hx hb dX4_item_0 rfl (lv_at hl 0 rfl) ?_
  refine x_get (C := RX4) (T := TX4) (N := 8) (ci := 4) hx hb hts iX4 hown hK hG 25 rfl rfl 0 (by decide) k12 (v := .ref (a 0)) rfl dX4_item_1 ?_
  refine lv_iload_n hx hb dX4_item_4 rfl (lv_at hl 1 rfl) ?_
  obtain ⟨r1, q2, hf⟩ := cl1_e hf
  refine x_callVi (pre := ([] : va_W)) (wc := WH κ a uh) (wc1 := WH κ a uh) (post := WR κ a ur ++ (WN κ a un ++ (WS κ a us ++ (WO κ a uo)))) (As := [.int p1]) (rest := []) (w1 := WH κ a uh ++ (WR κ a ur ++ (WN κ a un ++ (WS κ a us ++ (WO κ a uo))))) ⟨hx, hb, hml, hown, hts⟩ hK hG hA (by simp only [List.append_assoc, List.nil_append, List.append_nil]) (by simp only [List.append_assoc, List.nil_append, List.append_nil]) (c_X0_isThere l D κ a H.size p1 uh r1 q2) (cwV 1 hts gK_item_X0_isThere rfl rfl rfl (by decide +kernel) ⟨Nat.le_of_ble_eq_true rfl, Nat.le_of_ble_eq_true rfl⟩) 0 0 rfl rfl rfl rfl hl.1 rfl (Nat.le_of_ble_eq_true rfl) dX4_item_5 ⟨Nat.zero_le _, Nat.zero_le _⟩ (fun H locs hG => ?_)
  refine lv_if_ne (tgt := 21) hx hb dX4_item_8 (by decide) (fun c3 => ?_) (fun c3 => ?_)
  · replace hf := if_f c3 hf
    refine lv_iload_n hx hb dX4_item_21 rfl (lv_at hl 2 rfl) ?_
    by_cases c4 : p2 = 0
    · replace hf := if_t c4 hf
      refine lv_tableIn (tgt := 72) (off := 50) hx hb dX4_item_22 (by rw [c4]; decide) (by rw [c4]; decide) (by rw [c4]; rfl) (by decide) ?_
      refine lv_aload_n hx hb dX4_item_72 rfl (lv_at hl 0 rfl) ?_
      refine x_get (C := RX4) (T := TX4) (N := 8) (ci := 4) hx hb hts iX4 hown hK hG 25 rfl rfl 0 (by decide) k12 (v := .ref (a 0)) rfl dX4_item_73 ?_
      refine x_get (C := RX0) (T := TX0) (N := 17) (ci := 0) hx hb hts iX0 hown hK hG 0 rfl rfl 7 (by decide) k182 (v := .ref (a 3)) rfl dX4_item_76 ?_
      refine lv_iload_n hx hb dX4_item_79 rfl (lv_at hl 1 rfl) ?_
      obtain ⟨v5, ev5, hin, hf⟩ := ck_e hf
      refine x_iald hx hb hK hG 3 rfl ev5 hin dX4_item_80 ?_
      have hz := Option.some.inj hf
      have z0 := (Prod.mk.inj hz).1
      replace hz := (Prod.mk.inj hz).2
      have z1 := hz
      exact x_iret hx hb hr hlk hK hG z0 (by rw [z1]) dX4_item_81
    replace hf := if_f c4 hf
    by_cases c6 : p2 = 1
    · replace hf := if_t c6 hf
      refine lv_tableIn (tgt := 82) (off := 60) hx hb dX4_item_22 (by rw [c6]; decide) (by rw [c6]; decide) (by rw [c6]; rfl) (by decide) ?_
      refine lv_aload_n hx hb dX4_item_82 rfl (lv_at hl 0 rfl) ?_
      refine x_get (C := RX4) (T := TX4) (N := 8) (ci := 4) hx hb hts iX4 hown hK hG 25 rfl rfl 0 (by decide) k12 (v := .ref (a 0)) rfl dX4_item_83 ?_
      refine x_get (C := RX0) (T := TX0) (N := 17) (ci := 0) hx hb hts iX0 hown hK hG 0 rfl rfl 8 (by decide) k100 (v := .ref (a 4)) rfl dX4_item_86 ?_
      refine lv_iload_n hx hb dX4_item_89 rfl (lv_at hl 1 rfl) ?_
      obtain ⟨v7, ev7, hin, hf⟩ := ck_e hf
      refine x_iald hx hb hK hG 4 rfl ev7 hin dX4_item_90 ?_
      have hz := Option.some.inj hf
      have z0 := (Prod.mk.inj hz).1
      replace hz := (Prod.mk.inj hz).2
      have z1 := hz
      exact x_iret hx hb hr hlk hK hG z0 (by rw [z1]) dX4_item_91
    replace hf := if_f c6 hf
    by_cases c8 : p2 = 2
    · replace hf := if_t c8 hf
      refine lv_tableIn (tgt := 92) (off := 70) hx hb dX4_item_22 (by rw [c8]; decide) (by rw [c8]; decide) (by rw [c8]; rfl) (by decide) ?_
      refine lv_aload_n hx hb dX4_item_92 rfl (lv_at hl 0 rfl) ?_
      refine x_get (C := RX4) (T := TX4) (N := 8) (ci := 4) hx hb hts iX4 hown hK hG 25 rfl rfl 0 (by decide) k12 (v := .ref (a 0)) rfl dX4_item_93 ?_
      refine x_get (C := RX0) (T := TX0) (N := 17) (ci := 0) hx hb hts iX0 hown hK hG 0 rfl rfl 9 (by decide) k185 (v := .ref (a 5)) rfl dX4_item_96 ?_
      refine lv_iload_n hx hb dX4_item_99 rfl (lv_at hl 1 rfl) ?_
      obtain ⟨v9, ev9, hin, hf⟩ := ck_e hf
      refine x_iald hx hb hK hG 5 rfl ev9 hin dX4_item_100 ?_
      have hz := Option.some.inj hf
      have z0 := (Prod.mk.inj hz).1
      replace hz := (Prod.mk.inj hz).2
      have z1 := hz
      exact x_iret hx hb hr hlk hK hG z0 (by rw [z1]) dX4_item_101
    replace hf := if_f c8 hf
    by_cases c10 : p2 = 3
    · replace hf := if_t c10 hf
      refine lv_tableIn (tgt := 102) (off := 80) hx hb dX4_item_22 (by rw [c10]; decide) (by rw [c10]; decide) (by rw [c10]; rfl) (by decide) ?_
      refine lv_aload_n hx hb dX4_item_102 rfl (lv_at hl 0 rfl) ?_
      refine x_get (C := RX4) (T := TX4) (N := 8) (ci := 4) hx hb hts iX4 hown hK hG 25 rfl rfl 0 (by decide) k12 (v := .ref (a 0)) rfl dX4_item_103 ?_
      refine x_get (C := RX0) (T := TX0) (N := 17) (ci := 0) hx hb hts iX0 hown hK hG 0 rfl rfl 13 (by decide) k188 (v := .ref (a 9)) rfl dX4_item_106 ?_
      refine lv_iload_n hx hb dX4_item_109 rfl (lv_at hl 1 rfl) ?_
      obtain ⟨v11, ev11, hin, hf⟩ := ck_e hf
      refine x_iald hx hb hK hG 9 rfl ev11 hin dX4_item_110 ?_
      have hz := Option.some.inj hf
      have z0 := (Prod.mk.inj hz).1
      replace hz := (Prod.mk.inj hz).2
      have z1 := hz
      exact x_iret hx hb hr hlk hK hG z0 (by rw [z1]) dX4_item_111
    replace hf := if_f c10 hf
    by_cases c12 : p2 = 4
    · replace hf := if_t c12 hf
      refine lv_tableIn (tgt := 112) (off := 90) hx hb dX4_item_22 (by rw [c12]; decide) (by rw [c12]; decide) (by rw [c12]; rfl) (by decide) ?_
      refine lv_aload_n hx hb dX4_item_112 rfl (lv_at hl 0 rfl) ?_
      refine x_get (C := RX4) (T := TX4) (N := 8) (ci := 4) hx hb hts iX4 hown hK hG 25 rfl rfl 0 (by decide) k12 (v := .ref (a 0)) rfl dX4_item_113 ?_
      refine x_get (C := RX0) (T := TX0) (N := 17) (ci := 0) hx hb hts iX0 hown hK hG 0 rfl rfl 10 (by decide) k191 (v := .ref (a 6)) rfl dX4_item_116 ?_
      refine lv_iload_n hx hb dX4_item_119 rfl (lv_at hl 1 rfl) ?_
      obtain ⟨v13, ev13, hin, hf⟩ := ck_e hf
      refine x_iald hx hb hK hG 6 rfl ev13 hin dX4_item_120 ?_
      have hz := Option.some.inj hf
      have z0 := (Prod.mk.inj hz).1
      replace hz := (Prod.mk.inj hz).2
      have z1 := hz
      exact x_iret hx hb hr hlk hK hG z0 (by rw [z1]) dX4_item_121
    replace hf := if_f c12 hf
    by_cases c14 : p2 = 5
    · replace hf := if_t c14 hf
      refine lv_tableIn (tgt := 122) (off := 100) hx hb dX4_item_22 (by rw [c14]; decide) (by rw [c14]; decide) (by rw [c14]; rfl) (by decide) ?_
      refine lv_aload_n hx hb dX4_item_122 rfl (lv_at hl 0 rfl) ?_
      refine x_get (C := RX4) (T := TX4) (N := 8) (ci := 4) hx hb hts iX4 hown hK hG 25 rfl rfl 0 (by decide) k12 (v := .ref (a 0)) rfl dX4_item_123 ?_
      refine x_get (C := RX0) (T := TX0) (N := 17) (ci := 0) hx hb hts iX0 hown hK hG 0 rfl rfl 11 (by decide) k194 (v := .ref (a 7)) rfl dX4_item_126 ?_
      refine lv_iload_n hx hb dX4_item_129 rfl (lv_at hl 1 rfl) ?_
      obtain ⟨v15, ev15, hin, hf⟩ := ck_e hf
      refine x_iald hx hb hK hG 7 rfl ev15 hin dX4_item_130 ?_
      have hz := Option.some.inj hf
      have z0 := (Prod.mk.inj hz).1
      replace hz := (Prod.mk.inj hz).2
      have z1 := hz
      exact x_iret hx hb hr hlk hK hG z0 (by rw [z1]) dX4_item_131
    replace hf := if_f c14 hf
    by_cases c16 : p2 = 6
    · replace hf := if_t c16 hf
      refine lv_tableIn (tgt := 132) (off := 110) hx hb dX4_item_22 (by rw [c16]; decide) (by rw [c16]; decide) (by rw [c16]; rfl) (by decide) ?_
      refine lv_aload_n hx hb dX4_item_132 rfl (lv_at hl 0 rfl) ?_
      refine x_get (C := RX4) (T := TX4) (N := 8) (ci := 4) hx hb hts iX4 hown hK hG 25 rfl rfl 0 (by decide) k12 (v := .ref (a 0)) rfl dX4_item_133 ?_
      refine x_get (C := RX0) (T := TX0) (N := 17) (ci := 0) hx hb hts iX0 hown hK hG 0 rfl rfl 12 (by decide) k197 (v := .ref (a 8)) rfl dX4_item_136 ?_
      refine lv_iload_n hx hb dX4_item_139 rfl (lv_at hl 1 rfl) ?_
      obtain ⟨v17, ev17, hin, hf⟩ := ck_e hf
      refine x_iald hx hb hK hG 8 rfl ev17 hin dX4_item_140 ?_
      have hz := Option.some.inj hf
      have z0 := (Prod.mk.inj hz).1
      replace hz := (Prod.mk.inj hz).2
      have z1 := hz
      exact x_iret hx hb hr hlk hK hG z0 (by rw [z1]) dX4_item_141
    replace hf := if_f c16 hf
    by_cases c18 : p2 = 7
    · replace hf := if_t c18 hf
      refine lv_tableIn (tgt := 142) (off := 120) hx hb dX4_item_22 (by rw [c18]; decide) (by rw [c18]; decide) (by rw [c18]; rfl) (by decide) ?_
      refine lv_aload_n hx hb dX4_item_142 rfl (lv_at hl 0 rfl) ?_
      refine x_get (C := RX4) (T := TX4) (N := 8) (ci := 4) hx hb hts iX4 hown hK hG 25 rfl rfl 0 (by decide) k12 (v := .ref (a 0)) rfl dX4_item_143 ?_
      refine lv_iload_n hx hb dX4_item_146 rfl (lv_at hl 1 rfl) ?_
      obtain ⟨r19, q20, hf⟩ := cl1_e hf
      refine x_callVi (pre := ([] : va_W)) (wc := WH κ a uh) (wc1 := WH κ a uh) (post := WR κ a ur ++ (WN κ a un ++ (WS κ a us ++ (WO κ a uo)))) (As := [.int p1]) (rest := []) (w1 := WH κ a uh ++ (WR κ a ur ++ (WN κ a un ++ (WS κ a us ++ (WO κ a uo))))) ⟨hx, hb, hml, hown, hts⟩ hK hG hA (by simp only [List.append_assoc, List.nil_append, List.append_nil]) (by simp only [List.append_assoc, List.nil_append, List.append_nil]) (c_X0_howManyAbove l D κ a H.size p1 uh r19 q20) (cwV 1 hts gK_item_X0_howManyAbove rfl rfl rfl (by decide +kernel) ⟨Nat.le_of_ble_eq_true rfl, Nat.le_of_ble_eq_true rfl⟩) 0 0 rfl rfl rfl rfl hl.1 rfl (Nat.le_of_ble_eq_true rfl) dX4_item_147 ⟨Nat.zero_le _, Nat.zero_le _⟩ (fun H locs hG => ?_)
      have hz := Option.some.inj hf
      have z0 := (Prod.mk.inj hz).1
      replace hz := (Prod.mk.inj hz).2
      have z1 := hz
      exact x_iret hx hb hr hlk hK hG z0 (by rw [z1]) dX4_item_150
    replace hf := if_f c18 hf
    by_cases c21 : p2 = 8
    · replace hf := if_t c21 hf
      refine lv_tableIn (tgt := 151) (off := 129) hx hb dX4_item_22 (by rw [c21]; decide) (by rw [c21]; decide) (by rw [c21]; rfl) (by decide) ?_
      refine lv_aload_n hx hb dX4_item_151 rfl (lv_at hl 0 rfl) ?_
      refine x_get (C := RX4) (T := TX4) (N := 8) (ci := 4) hx hb hts iX4 hown hK hG 25 rfl rfl 5 (by decide) k42 (v := .ref (a 13)) rfl dX4_item_152 ?_
      refine lv_iload_n hx hb dX4_item_155 rfl (lv_at hl 1 rfl) ?_
      obtain ⟨r22, ur23, q24, hf⟩ := cl2_e hf
      refine x_callVi (pre := ([] : va_W)) (wc := WH κ a uh ++ (WR κ a ur)) (wc1 := WH κ a uh ++ (WR κ a ur23)) (post := WN κ a un ++ (WS κ a us ++ (WO κ a uo))) (As := [.int p1]) (rest := []) (w1 := WH κ a uh ++ (WR κ a ur23 ++ (WN κ a un ++ (WS κ a us ++ (WO κ a uo))))) ⟨hx, hb, hml, hown, hts⟩ hK hG hA (by simp only [List.append_assoc, List.nil_append, List.append_nil]) (by simp only [List.append_assoc, List.nil_append, List.append_nil]) (c_X2_walk l D κ a H.size p1 uh ur r22 ur23 q24) (cwV 1 hts gK_item_X2_walk rfl rfl rfl (by decide +kernel) ⟨Nat.le_of_ble_eq_true rfl, Nat.le_of_ble_eq_true rfl⟩) 13 2 rfl rfl rfl rfl hl.1 rfl (Nat.le_of_ble_eq_true rfl) dX4_item_156 ⟨Nat.zero_le _, Nat.zero_le _⟩ (fun H locs hG => ?_)
      have hz := Option.some.inj hf
      have z0 := (Prod.mk.inj hz).1
      replace hz := (Prod.mk.inj hz).2
      have z1 := hz
      exact x_iret hx hb hr hlk hK hG z0 (by rw [z1]) dX4_item_159
    replace hf := if_f c21 hf
    refine lv_tableOut (tgt := 160) hx hb dX4_item_22 (x_sw (k := 8) (by decide) (fun j hj => ?_)) (by decide) ?_
    · match j, hj with
      | 0, _ => exact c4
      | 1, _ => exact c6
      | 2, _ => exact c8
      | 3, _ => exact c10
      | 4, _ => exact c12
      | 5, _ => exact c14
      | 6, _ => exact c16
      | 7, _ => exact c18
      | 8, _ => exact c21
      | j + 9, hj => exact absurd hj (by omega)
    · refine lv_iconst (v := (-1)) hx hb dX4_item_160 (by decide) ?_
      have hz := Option.some.inj hf
      have z0 := (Prod.mk.inj hz).1
      replace hz := (Prod.mk.inj hz).2
      have z1 := hz
      exact x_iret hx hb hr hlk hK hG z0 (by rw [z1]) dX4_item_161
  · replace hf := if_t c3 hf
    cases hf
set_option maxRecDepth 100000 in
set_option maxHeartbeats 4000000 in
theorem t_X4_item (l : Launch) (hl0 : l.stackTraces = false) (D : va_G) (κ : Nat → ClassId) (a : Nat → Nat) (sz sa : Nat) (p1 p2 : Int32) (uh : HS) (ur : RS) (un : NS) (us : SS) (uo : OS) (hf : f_X0_isThere p1 uh = some 0) : vx_Met l yX4_item wsK_item ({ frames := 6, cells := 1, slots := 6, locals := 90 } : Room) (fun v U => xPc D κ [.ref (a 25), .int p1, .int p2] (WH κ a uh ++ (WR κ a ur ++ (WN κ a un ++ (WS κ a us ++ WO κ a uo)))) sz v U ∧ xTH sa (va_A (WH κ a uh ++ (WR κ a ur ++ (WN κ a un ++ (WS κ a us ++ WO κ a uo)))) sz) U) (va_Qi (fun (_ : Int32) (_ : Unit) => False) (fun _ _ => True) (va_A (WH κ a uh ++ (WR κ a ur ++ (WN κ a un ++ (WS κ a us ++ WO κ a uo)))) sz)) (xXC D κ (WH κ a uh ++ (WR κ a ur ++ (WN κ a un ++ (WS κ a us ++ WO κ a uo)))) (va_A (WH κ a uh ++ (WR κ a ur ++ (WN κ a un ++ (WS κ a us ++ WO κ a uo)))) sz)) 1 6 (va_A (WH κ a uh ++ (WR κ a ur ++ (WN κ a un ++ (WS κ a us ++ WO κ a uo)))) sz) := by
  refine vx_ofW (cc := cX4_item) (maxL := 3) (ret := (some .int)) (by decide) rfl ?_
  intro p e s m args below meth c s₁ B hml hno hv
  obtain ⟨⟨rfl, hsz, hP, hK, hD0⟩, hTH⟩ := hv
  subst hsz
  have hl := lv_entry [.ref (a 25), .int p1, .int p2] (n := 3) (Nat.le_of_ble_eq_true rfl)
  rw [lg_entry_eq]
  generalize (lg_sl ([.ref (a 25), .int p1, .int p2]) ++ List.replicate (3 - (lg_sl ([.ref (a 25), .int p1, .int p2])).length) Slot.unset).toArray = ls at hl ⊢
  have hl : lv_has ls 3 [(0, .ref (a 25)), (1, .int p1), (2, .int p2)] := hl
  have hx := B.exec
  have hb := B.bytes
  have hts := atoms_spec (ws := wsK_item) B.pre
  have hown : s.vm.findClass RX4 = some m.cls := findClass_of_methodNamed B.named
  have hlk := B.notSynchronized
  have hD := hD0.self (sz := s.heap.size)
  generalize hAe : va_A (WH κ a uh ++ (WR κ a ur ++ (WN κ a un ++ (WS κ a us ++ WO κ a uo)))) s.heap.size = A at hD hTH ⊢
  have hA : ∀ q : Nat, s.heap.size ≤ q → A q := fun q h => by rw [← hAe]; exact Or.inr h
  obtain ⟨H, hH⟩ : ∃ z, z = s.heap := ⟨_, rfl⟩
  obtain ⟨locs, hL⟩ : ∃ z : List Loc, z = [] := ⟨_, rfl⟩
  have hG : xG D A s.heap (WH κ a uh ++ (WR κ a ur ++ (WN κ a un ++ (WS κ a us ++ WO κ a uo)))) H locs := by rw [hH, hL]; exact ⟨hP, hD, va_S.rf⟩
  rw [← hL]
  show W p l e ({ frames := 6, cells := 1, slots := 6, locals := 90 } : Room) s m ([.ref (a 25), .int p1, .int p2] : List Value).toArray below meth c s.heap locs 0 0 _ _
  rw [← hH]
  have iX4 : ∀ w ∈ u_ws RX4 TX4 8, w ∈ wsK_item := fun _ h => List.mem_cons_of_mem _ (List.mem_append_left _ (List.mem_append_left _ (List.mem_append_left _ (List.mem_append_right _ h))))
  have k12 := hts (.fieldLink RX4 12 "SpineDesks" "hall" "LSpineDesks$Hall;") (List.mem_of_getElem? (i := 3) rfl)
  have k175 := hts (.classLink RX4 175 "java/util/NoSuchElementException") (List.mem_of_getElem? (i := 1) rfl)
  have kin := hts (.initialized "java/util/NoSuchElementException") (List.mem_of_getElem? (i := 2) rfl)
  refine lv_aload_n hx hb dX4_item_0 rfl (lv_at hl 0 rfl) ?_
  refine x_get (C := RX4) (T := TX4) (N := 8) (ci := 4) hx hb hts iX4 hown hK hG 25 rfl rfl 0 (by decide) k12 (v := .ref (a 0)) rfl dX4_item_1 ?_
  refine lv_iload_n hx hb dX4_item_4 rfl (lv_at hl 1 rfl) ?_
  refine x_callVi (pre := []) (wc := WH κ a uh) (wc1 := WH κ a uh) (post := WR κ a ur ++ (WN κ a un ++ (WS κ a us ++ WO κ a uo))) (As := [.int p1]) (rest := []) (w1 := WH κ a uh ++ (WR κ a ur ++ (WN κ a un ++ (WS κ a us ++ WO κ a uo)))) ⟨hx, hb, hml, hown, hts⟩ hK hG hA rfl rfl (c_X0_isThere l D κ a H.size p1 uh 0 hf) (cwV 1 hts gK_item_X0_isThere rfl rfl rfl (by decide +kernel) ⟨Nat.le_of_ble_eq_true rfl, Nat.le_of_ble_eq_true rfl⟩) 0 0 rfl rfl rfl rfl hl.1 rfl (Nat.le_of_ble_eq_true rfl) dX4_item_5 ⟨Nat.zero_le _, Nat.zero_le _⟩ (fun H locs hG => ?_)
  refine lv_if_ne (tgt := 21) hx hb dX4_item_8 (by decide) (fun c1 => absurd rfl c1) (fun c1 => ?_)
  have hat : ∀ w ∈ xAll.filter vx_no, w.before ([.ref (a 25), .int p1, .int p2] : List Value).toArray s = true := vx_hat (fun w hw => hts w (List.mem_cons_of_mem _ <| List.mem_append_right _ hw)) xBad_in hTH.1.use
  exact x_throwNSE hx hb hl0 hown k175 kin hTH.2.2.2 hat hTH.2.1 hTH.2.2.1 hG.2.2 (hl.1.trans hml.symm) dX4_item_11 dX4_item_14 dX4_item_15 dX4_item_17 dX4_item_20 (fun x hx => (hno x hx).elim) (Nat.le_of_ble_eq_true rfl) (Nat.le_of_ble_eq_true rfl) (Nat.le_of_ble_eq_true rfl) (Nat.le_of_ble_eq_true rfl) hlk (fun t ha hle heq => ⟨(), trivial, ⟨rfl, fun k q hk => (hG.1 k q hk).kept (heq q.1 (hG.1 k q hk).lt), va_K.moved ha hK, hG.2.1⟩, Nat.le_trans hG.2.2.1 hle, fun q h1 h2 => (heq q (Nat.lt_of_lt_of_le h1 hG.2.2.1)).trans (hG.2.2.2.1 q h1 h2)⟩) hG.2.2.2.2 (Nat.le_of_ble_eq_true rfl) (Nat.le_of_ble_eq_true rfl)
set_option maxRecDepth 100000 in
set_option maxHeartbeats 4000000 in
theorem c_X4_above (l : Launch) (D : va_G) (κ : Nat → ClassId) (a : Nat → Nat) (sz : Nat) (p1 : Int32) (p2 : Int32) (uh : HS) (ur : RS) (un : NS) (us : SS) (uo : OS) (r' : Int32)  (hf : f_X4_above p1 p2 uh uo = some (r')) : Met l yX4_above wsK_above ({ frames := 1, cells := 0, slots := 0, locals := 21 } : Room) (xPc D κ [.ref (a 25), .int p1, .int p2] (WH κ a uh ++ (WR κ a ur ++ (WN κ a un ++ (WS κ a us ++ (WO κ a uo))))) sz) (xQi D κ r' (WH κ a uh ++ (WR κ a ur ++ (WN κ a un ++ (WS κ a us ++ (WO κ a uo))))) (va_A (WH κ a uh ++ (WR κ a ur ++ (WN κ a un ++ (WS κ a us ++ (WO κ a uo))))) sz)) 0 0 (va_A (WH κ a uh ++ (WR κ a ur ++ (WN κ a un ++ (WS κ a us ++ (WO κ a uo))))) sz) := by
  refine x_ofW (cc := cX4_above) (maxL := 5) (ret := (some .int)) (Qf := fun A => xQi D κ r' (WH κ a uh ++ (WR κ a ur ++ (WN κ a un ++ (WS κ a us ++ (WO κ a uo))))) A) (by decide) rfl (Nat.le_of_ble_eq_true rfl) ?_
  intro p e s m below meth c hx hb hr hlk hml hown hts hK A hA H locs hG ls hl
  have hown : s.vm.findClass RX4 = some m.cls := hown
  have hl : lv_has ls 5 [(0, .ref (a 25)), (1, .int p1), (2, .int p2)] := hl
  have iX0 : ∀ w ∈ u_ws RX0 TX0 17, w ∈ wsK_above := fun _ h => List.mem_cons_of_mem _ (List.mem_append_left _ (List.mem_append_right _ h))
  have iX4 : ∀ w ∈ u_ws RX4 TX4 8, w ∈ wsK_above := fun _ h => List.mem_cons_of_mem _ (List.mem_append_left _ (List.mem_append_left _ (List.mem_append_right _ h)))
  have k12 := hts (.fieldLink RX4 12 "SpineDesks" "hall" "LSpineDesks$Hall;") (List.mem_of_getElem? (i := 3) rfl)
  have k197 := hts (.fieldLink RX4 197 "SpineDesks$Hall" "up" "[I") (List.mem_of_getElem? (i := 4) rfl)
  have L47 : ∀ (n : Nat), ∀ (x2 : Int32) (x3 : Int32) (x4 : Int32), f_X4_above_47 uh uo n x2 x3 x4 = some (r') → ∀ (H : Heap) (locs : List Loc) (ls : Array Slot), xG D A s.heap (WH κ a uh ++ (WR κ a ur ++ (WN κ a un ++ (WS κ a us ++ (WO κ a uo))))) H locs → lv_has ls 5 [(0, .ref (a 25)), (2, .int x2), (3, .int x3), (4, .int x4)] → W p l e ({ frames := 1, cells := 0, slots := 0, locals := 21 } : Room) s m (([.ref (a 25), .int p1, .int p2] : List Value).toArray) below meth c H locs 0 0 (MQ below (xQi D κ r' (WH κ a uh ++ (WR κ a ur ++ (WN κ a un ++ (WS κ a us ++ (WO κ a uo))))) A) (([.ref (a 25), .int p1, .int p2] : List Value).toArray) s 0 0 A) (F0 m 47 ls []) := by
    intro  n
    induction n with
    | zero => intro x2 x3 x4 hf; cases hf
    | succ n ih =>
      intro x2 x3 x4 hf H locs ls hG hl
      replace hf : f_X4_above_B47 uh uo (f_X4_above_47 uh uo n) x2 x3 x4 = some (r') := hf
      unfold f_X4_above_B47 at hf
      refine lv_iload hx hb dX4_above_47 (lv_at hl 3 rfl) ?_
      refine lv_iload_n hx hb dX4_above_49 rfl (lv_at hl 1 rfl) ?_
      refine lv_icmp_ge (tgt := 74) hx hb dX4_above_50 (by decide) (fun c1 => ?_) (fun c1 => ?_)
      · replace hf := if_t c1 hf
        refine lv_iload_n hx hb dX4_above_74 rfl (lv_at hl 2 rfl) ?_
        have z0 := Option.some.inj hf
        exact x_iret hx hb hr hlk hK hG z0 rfl dX4_above_75
      · replace hf := if_f c1 hf
        refine lv_iload_n hx hb dX4_above_53 rfl (lv_at hl 2 rfl) ?_
        refine lv_iconst (v := (-1)) hx hb dX4_above_54 (by decide) ?_
        refine lv_icmp_eq (tgt := 74) hx hb dX4_above_55 (by decide) (fun c2 => ?_) (fun c2 => ?_)
        · replace hf := if_t c2 hf
          refine lv_iload_n hx hb dX4_above_74 rfl (lv_at hl 2 rfl) ?_
          have z0 := Option.some.inj hf
          exact x_iret hx hb hr hlk hK hG z0 rfl dX4_above_75
        · replace hf := if_f c2 hf
          refine lv_aload_n hx hb dX4_above_58 rfl (lv_at hl 0 rfl) ?_
          refine x_get (C := RX4) (T := TX4) (N := 8) (ci := 4) hx hb hts iX4 hown hK hG 25 rfl rfl 0 (by decide) k12 (v := .ref (a 0)) rfl dX4_above_59 ?_
          refine x_get (C := RX0) (T := TX0) (N := 17) (ci := 0) hx hb hts iX0 hown hK hG 0 rfl rfl 12 (by decide) k197 (v := .ref (a 8)) rfl dX4_above_62 ?_
          refine lv_iload_n hx hb dX4_above_65 rfl (lv_at hl 2 rfl) ?_
          obtain ⟨v3, ev3, hin, hf⟩ := ck_e hf
          refine x_iald hx hb hK hG 8 rfl ev3 hin dX4_above_66 ?_
          refine lv_istore_n (lv' := [(3, .int v3), (0, .ref (a 25)), (2, .int x2), (4, .int x4)]) hx hb dX4_above_67 rfl hl (by decide) rfl (fun ls hl => ?_)
          obtain ⟨y4, ey4, hf⟩ := bnd_e hf
          refine lv_iinc (v := y4) (lv' := [(4, .int y4), (3, .int v3), (0, .ref (a 25)), (2, .int x2)]) hx hb dX4_above_68 hl (k := 3) rfl (by rw [ey4]; rfl) (by decide) rfl (fun ls hl => ?_)
          refine lv_goto (tgt := 47) hx hb dX4_above_71 (by decide) ?_
          exact ih x2 v3 y4 hf H locs ls hG (lv_sub hl [2, 3, 1, 0] rfl)
  unfold f_X4_above at hf
  refine lv_aload_n hx hb dX4_above_0 rfl (lv_at hl 0 rfl) ?_
  refine x_get (C := RX4) (T := TX4) (N := 8) (ci := 4) hx hb hts iX4 hown hK hG 25 rfl rfl 0 (by decide) k12 (v := .ref (a 0)) rfl dX4_above_1 ?_
  refine lv_iload_n hx hb dX4_above_4 rfl (lv_at hl 1 rfl) ?_
  obtain ⟨r5, q6, hf⟩ := cl1_e hf
  refine x_callVi (pre := ([] : va_W)) (wc := WH κ a uh) (wc1 := WH κ a uh) (post := WR κ a ur ++ (WN κ a un ++ (WS κ a us ++ (WO κ a uo)))) (As := [.int p1]) (rest := []) (w1 := WH κ a uh ++ (WR κ a ur ++ (WN κ a un ++ (WS κ a us ++ (WO κ a uo))))) ⟨hx, hb, hml, hown, hts⟩ hK hG hA (by simp only [List.append_assoc, List.nil_append, List.append_nil]) (by simp only [List.append_assoc, List.nil_append, List.append_nil]) (c_X0_isThere l D κ a H.size p1 uh r5 q6) (cwV 1 hts gK_above_X0_isThere rfl rfl rfl (by decide +kernel) ⟨Nat.le_of_ble_eq_true rfl, Nat.le_of_ble_eq_true rfl⟩) 0 0 rfl rfl rfl rfl hl.1 rfl (Nat.le_of_ble_eq_true rfl) dX4_above_5 ⟨Nat.zero_le _, Nat.zero_le _⟩ (fun H locs hG => ?_)
  refine lv_if_ne (tgt := 21) hx hb dX4_above_8 (by decide) (fun c7 => ?_) (fun c7 => ?_)
  · replace hf := if_f c7 hf
    refine lv_iload_n hx hb dX4_above_21 rfl (lv_at hl 2 rfl) ?_
    refine lv_if_lt (tgt := 32) hx hb dX4_above_22 (by decide) (fun c8 => ?_) (fun c8 => ?_)
    · replace hf := if_t c8 hf
      refine lv_iconst (v := (-1)) hx hb dX4_above_32 (by decide) ?_
      have z0 := Option.some.inj hf
      exact x_iret hx hb hr hlk hK hG z0 rfl dX4_above_33
    · replace hf := if_f c8 hf
      refine lv_iload_n hx hb dX4_above_25 rfl (lv_at hl 2 rfl) ?_
      refine lv_sipush (v := 300) hx hb dX4_above_26 (by decide) ?_
      refine lv_icmp_lt (tgt := 34) hx hb dX4_above_29 (by decide) (fun c9 => ?_) (fun c9 => ?_)
      · replace hf := if_t c9 hf
        refine lv_aload_n hx hb dX4_above_34 rfl (lv_at hl 0 rfl) ?_
        refine x_get (C := RX4) (T := TX4) (N := 8) (ci := 4) hx hb hts iX4 hown hK hG 25 rfl rfl 0 (by decide) k12 (v := .ref (a 0)) rfl dX4_above_35 ?_
        refine x_get (C := RX0) (T := TX0) (N := 17) (ci := 0) hx hb hts iX0 hown hK hG 0 rfl rfl 12 (by decide) k197 (v := .ref (a 8)) rfl dX4_above_38 ?_
        refine lv_iload_n hx hb dX4_above_41 rfl (lv_at hl 1 rfl) ?_
        obtain ⟨v10, ev10, hin, hf⟩ := ck_e hf
        refine x_iald hx hb hK hG 8 rfl ev10 hin dX4_above_42 ?_
        refine lv_istore_n (lv' := [(3, .int v10), (0, .ref (a 25)), (1, .int p1), (2, .int p2)]) hx hb dX4_above_43 rfl hl (by decide) rfl (fun ls hl => ?_)
        refine lv_iconst (v := 0) hx hb dX4_above_44 (by decide) ?_
        refine lv_istore (lv' := [(4, .int 0), (3, .int v10), (0, .ref (a 25)), (1, .int p1), (2, .int p2)]) hx hb dX4_above_45 hl (by decide) rfl (fun ls hl => ?_)
        exact L47  FU p2 v10 0 hf H locs ls hG (lv_sub hl [2, 4, 1, 0] rfl)
      · replace hf := if_f c9 hf
        refine lv_iconst (v := (-1)) hx hb dX4_above_32 (by decide) ?_
        have z0 := Option.some.inj hf
        exact x_iret hx hb hr hlk hK hG z0 rfl dX4_above_33
  · replace hf := if_t c7 hf
    cases hf
set_option maxRecDepth 100000 in
set_option maxHeartbeats 4000000 in
theorem t_X4_above (l : Launch) (hl0 : l.stackTraces = false) (D : va_G) (κ : Nat → ClassId) (a : Nat → Nat) (sz sa : Nat) (p1 p2 : Int32) (uh : HS) (ur : RS) (un : NS) (us : SS) (uo : OS) (hf : f_X0_isThere p1 uh = some 0) : vx_Met l yX4_above wsK_above ({ frames := 6, cells := 1, slots := 6, locals := 90 } : Room) (fun v U => xPc D κ [.ref (a 25), .int p1, .int p2] (WH κ a uh ++ (WR κ a ur ++ (WN κ a un ++ (WS κ a us ++ WO κ a uo)))) sz v U ∧ xTH sa (va_A (WH κ a uh ++ (WR κ a ur ++ (WN κ a un ++ (WS κ a us ++ WO κ a uo)))) sz) U) (va_Qi (fun (_ : Int32) (_ : Unit) => False) (fun _ _ => True) (va_A (WH κ a uh ++ (WR κ a ur ++ (WN κ a un ++ (WS κ a us ++ WO κ a uo)))) sz)) (xXC D κ (WH κ a uh ++ (WR κ a ur ++ (WN κ a un ++ (WS κ a us ++ WO κ a uo)))) (va_A (WH κ a uh ++ (WR κ a ur ++ (WN κ a un ++ (WS κ a us ++ WO κ a uo)))) sz)) 1 6 (va_A (WH κ a uh ++ (WR κ a ur ++ (WN κ a un ++ (WS κ a us ++ WO κ a uo)))) sz) := by
  refine vx_ofW (cc := cX4_above) (maxL := 5) (ret := (some .int)) (by decide) rfl ?_
  intro p e s m args below meth c s₁ B hml hno hv
  obtain ⟨⟨rfl, hsz, hP, hK, hD0⟩, hTH⟩ := hv
  subst hsz
  have hl := lv_entry [.ref (a 25), .int p1, .int p2] (n := 5) (Nat.le_of_ble_eq_true rfl)
  rw [lg_entry_eq]
  generalize (lg_sl ([.ref (a 25), .int p1, .int p2]) ++ List.replicate (5 - (lg_sl ([.ref (a 25), .int p1, .int p2])).length) Slot.unset).toArray = ls at hl ⊢
  have hl : lv_has ls 5 [(0, .ref (a 25)), (1, .int p1), (2, .int p2)] := hl
  have hx := B.exec
  have hb := B.bytes
  have hts := atoms_spec (ws := wsK_above) B.pre
  have hown : s.vm.findClass RX4 = some m.cls := findClass_of_methodNamed B.named
  have hlk := B.notSynchronized
  have hD := hD0.self (sz := s.heap.size)
  generalize hAe : va_A (WH κ a uh ++ (WR κ a ur ++ (WN κ a un ++ (WS κ a us ++ WO κ a uo)))) s.heap.size = A at hD hTH ⊢
  have hA : ∀ q : Nat, s.heap.size ≤ q → A q := fun q h => by rw [← hAe]; exact Or.inr h
  obtain ⟨H, hH⟩ : ∃ z, z = s.heap := ⟨_, rfl⟩
  obtain ⟨locs, hL⟩ : ∃ z : List Loc, z = [] := ⟨_, rfl⟩
  have hG : xG D A s.heap (WH κ a uh ++ (WR κ a ur ++ (WN κ a un ++ (WS κ a us ++ WO κ a uo)))) H locs := by rw [hH, hL]; exact ⟨hP, hD, va_S.rf⟩
  rw [← hL]
  show W p l e ({ frames := 6, cells := 1, slots := 6, locals := 90 } : Room) s m ([.ref (a 25), .int p1, .int p2] : List Value).toArray below meth c s.heap locs 0 0 _ _
  rw [← hH]
  have iX4 : ∀ w ∈ u_ws RX4 TX4 8, w ∈ wsK_above := fun _ h => List.mem_cons_of_mem _ (List.mem_append_left _ (List.mem_append_left _ (List.mem_append_right _ h)))
  have k12 := hts (.fieldLink RX4 12 "SpineDesks" "hall" "LSpineDesks$Hall;") (List.mem_of_getElem? (i := 3) rfl)
  have k175 := hts (.classLink RX4 175 "java/util/NoSuchElementException") (List.mem_of_getElem? (i := 1) rfl)
  have kin := hts (.initialized "java/util/NoSuchElementException") (List.mem_of_getElem? (i := 2) rfl)
  refine lv_aload_n hx hb dX4_above_0 rfl (lv_at hl 0 rfl) ?_
  refine x_get (C := RX4) (T := TX4) (N := 8) (ci := 4) hx hb hts iX4 hown hK hG 25 rfl rfl 0 (by decide) k12 (v := .ref (a 0)) rfl dX4_above_1 ?_
  refine lv_iload_n hx hb dX4_above_4 rfl (lv_at hl 1 rfl) ?_
  refine x_callVi (pre := []) (wc := WH κ a uh) (wc1 := WH κ a uh) (post := WR κ a ur ++ (WN κ a un ++ (WS κ a us ++ WO κ a uo))) (As := [.int p1]) (rest := []) (w1 := WH κ a uh ++ (WR κ a ur ++ (WN κ a un ++ (WS κ a us ++ WO κ a uo)))) ⟨hx, hb, hml, hown, hts⟩ hK hG hA rfl rfl (c_X0_isThere l D κ a H.size p1 uh 0 hf) (cwV 1 hts gK_above_X0_isThere rfl rfl rfl (by decide +kernel) ⟨Nat.le_of_ble_eq_true rfl, Nat.le_of_ble_eq_true rfl⟩) 0 0 rfl rfl rfl rfl hl.1 rfl (Nat.le_of_ble_eq_true rfl) dX4_above_5 ⟨Nat.zero_le _, Nat.zero_le _⟩ (fun H locs hG => ?_)
  refine lv_if_ne (tgt := 21) hx hb dX4_above_8 (by decide) (fun c1 => absurd rfl c1) (fun c1 => ?_)
  have hat : ∀ w ∈ xAll.filter vx_no, w.before ([.ref (a 25), .int p1, .int p2] : List Value).toArray s = true := vx_hat (fun w hw => hts w (List.mem_cons_of_mem _ <| List.mem_append_right _ hw)) xBad_in hTH.1.use
  exact x_throwNSE hx hb hl0 hown k175 kin hTH.2.2.2 hat hTH.2.1 hTH.2.2.1 hG.2.2 (hl.1.trans hml.symm) dX4_above_11 dX4_above_14 dX4_above_15 dX4_above_17 dX4_above_20 (fun x hx => (hno x hx).elim) (Nat.le_of_ble_eq_true rfl) (Nat.le_of_ble_eq_true rfl) (Nat.le_of_ble_eq_true rfl) (Nat.le_of_ble_eq_true rfl) hlk (fun t ha hle heq => ⟨(), trivial, ⟨rfl, fun k q hk => (hG.1 k q hk).kept (heq q.1 (hG.1 k q hk).lt), va_K.moved ha hK, hG.2.1⟩, Nat.le_trans hG.2.2.1 hle, fun q h1 h2 => (heq q (Nat.lt_of_lt_of_le h1 hG.2.2.1)).trans (hG.2.2.2.1 q h1 h2)⟩) hG.2.2.2.2 (Nat.le_of_ble_eq_true rfl) (Nat.le_of_ble_eq_true rfl)
