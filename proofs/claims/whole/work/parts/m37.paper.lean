/-- the paper's cells: none yet, or a hall of its own -/
def xPap (κ : Nat → ClassId) (pp : Option Nat) (wp : va_W) (u0 : HS) : Prop := (pp = none ∧ wp = [] ∧ u0 = HZ) ∨ ∃ b : Nat → Nat, pp = some (b 0) ∧ wp = WH κ b u0
def xQp (D : va_G) (κ : Nat → ClassId) (a : Nat → Nat) (uh : HS) (ur : RS) (un : NS) (us : SS) (uo : OS) (r : Int32) (A : Nat → Prop) : Array Value → State → Outcome → State → Prop :=
  va_Qi (fun (r2 : Int32) (u : Option Nat × va_W × HS) => r2 = r ∧ xPap κ u.1 u.2.1 u.2.2) (fun u t => va_P D vwCl (WH κ a uh ++ (WR κ a ur ++ (WN κ a un ++ (WS κ a us ++ (WO κ a (uo.setPaper u.1) ++ u.2.1))))) t.heap ∧ va_K D vwCl (xT κ) t ∧ va_D A (WH κ a uh ++ (WR κ a ur ++ (WN κ a un ++ (WS κ a us ++ (WO κ a (uo.setPaper u.1) ++ u.2.1)))))) A
theorem xpl (U R N S O K : va_W) : (U ++ (R ++ (N ++ (S ++ (O ++ K))))).Perm ((K ++ U) ++ (R ++ (N ++ (S ++ O)))) := by
  have e1 : U ++ (R ++ (N ++ (S ++ (O ++ K)))) = (U ++ (R ++ (N ++ (S ++ O)))) ++ K := by simp only [List.append_assoc]
  have e2 : (K ++ U) ++ (R ++ (N ++ (S ++ O))) = K ++ (U ++ (R ++ (N ++ (S ++ O)))) := by simp only [List.append_assoc]
  rw [e1, e2]
  exact List.perm_append_comm
theorem x_callVr {S : Type} {p : Program} {l : Launch} {e : Env} {R : Room} {s : State} {m : MethodId} {args : Array Value} {below : List Frame} {meth : Method} {c : Code} {H : Heap} {locs : List Loc} {cells slots : Nat} {Q : State → Prop} {cc : ByteArray} {pc : Nat} {ls : Array Slot} {rest : List Value} {D : va_G} {κ : Nat → ClassId} {A : Nat → Prop} {w : va_W} {H0 : Heap} {y : MethodName} {bytes : ByteArray} {maxL nL n index mc ms : Nat} {ret : Option FieldType} {wsy : List Cond} {rm : Room} {Ts : List Cond} {own C : String} {b : Addr} {As st0 : List Value} {X : S → Nat → Prop} {F : S → va_W}
    (Sx : CallFix p m c cc nL s args Ts own) (hK : va_K D vwCl (xT κ) s) (hG : xG D A H0 w H locs) (hA : ∀ q : Nat, H0.size ≤ q → A q)
    (hM : Met l y wsy rm (fun a U => xPc D κ (.ref b :: As) w H.size a U ∧ True) (va_Qr (fun _ : S => True) (fun u ra t => X u ra ∧ va_P D vwCl (F u) t.heap ∧ va_K D vwCl (xT κ) t ∧ va_D (va_A w H.size) (F u)) (va_A w H.size)) mc ms (va_A w H.size)) (cw : CallW R s args own C index y bytes maxL ret wsy rm mc ms n) (q0 ci : Nat) {q : vw_C} {fs : List Value} (hq : w[q0]? = some (b, .inr (ci, fs))) (hc : vwCl[ci]? = some q) (hC : q.1 = C)
    (hn : As.length = n) (hsz : ls.size = nL) (hst : st0 = As.reverse ++ .ref b :: rest) (hW : (rest.map fun v => v.category).sum ≤ 8) (hdg : decode cc pc = .ok (.invokevirtual index, 3)) (hcs : cells + mc ≤ R.cells ∧ slots + ms ≤ R.slots)
    (kk : ∀ (u : S) (ra : Nat) (H1 : Heap) (locs1 : List Loc), X u ra → xG D A H0 (F u) H1 locs1 → W p l e R s m args below meth c H1 locs1 (cells + mc) (slots + ms) Q (F0 m (pc + 3) ls (.ref ra :: rest))) : W p l e R s m args below meth c H locs cells slots Q (F0 m pc ls st0) := by
  have hw : w = ([] : va_W) ++ (w ++ []) := by simp only [List.nil_append, List.append_nil]
  obtain ⟨hPc, hDc, hF, -⟩ := x_frame (wc1 := w) hG hA hw
  subst hC
  refine va_callr (va_runV (As := As) (rest := rest) Sx hM cw ⟨fun a U g mk q => ⟨xPc_blind D κ _ w _ a U g mk q.1, trivial⟩, va_recv hK hPc hc hq, fun U hU hW => ⟨⟨rfl, by rw [hU], by rw [hU]; exact hPc, va_K.moved hW.alike hK, hDc⟩, trivial⟩⟩ rfl hn hsz hst (lv_room hW) hdg hcs) hG.2.2 (fun q _ h => hF q h) hF (fun u ra t H1 locs ht hvm hpost hB hz1 hk1 hS => ?_)
  obtain ⟨hX, hP1, hK1, hD1⟩ := hB
  rw [ht] at hP1
  obtain ⟨-, -, -, hj⟩ := x_frame (wc1 := F u) hG hA hw
  obtain ⟨hP2, hD2⟩ := hj H1 hk1 hP1 hD1
  simp only [List.nil_append, List.append_nil] at hP2 hD2
  exact kk u ra H1 locs hX ⟨hP2, hD2, hS⟩

set_option maxRecDepth 100000 in
set_option maxHeartbeats 4000000 in
theorem c_X4_onPaper (l : Launch) (D : va_G) (κ : Nat → ClassId) (a : Nat → Nat) (sz : Nat) (uh : HS) (ur : RS) (un : NS) (us : SS) (uo : OS) (wp : va_W) (u0 u1 : HS) (hpp : xPap κ uo.paper wp u0) (hcp : f_X0_copyFrom u0 uh = some u1) : Met l yX4_onPaper wsX4_onPaper ({ frames := 2, cells := 13, slots := 2543, locals := 85 } : Room) (fun v U => xPc D κ [.ref (a 25)] (WH κ a uh ++ (WR κ a ur ++ (WN κ a un ++ (WS κ a us ++ (WO κ a uo ++ wp))))) sz v U ∧ True) (va_Qr (fun _ : Nat → Nat => True) (fun (b : Nat → Nat) (ra : Nat) t => ra = b 0 ∧ va_P D vwCl (WH κ a uh ++ (WR κ a ur ++ (WN κ a un ++ (WS κ a us ++ (WO κ a (uo.setPaper (some (b 0))) ++ WH κ b (u1.setSteps 0)))))) t.heap ∧ va_K D vwCl (xT κ) t ∧ va_D (va_A (WH κ a uh ++ (WR κ a ur ++ (WN κ a un ++ (WS κ a us ++ (WO κ a uo ++ wp))))) sz) (WH κ a uh ++ (WR κ a ur ++ (WN κ a un ++ (WS κ a us ++ (WO κ a (uo.setPaper (some (b 0))) ++ WH κ b (u1.setSteps 0))))))) (va_A (WH κ a uh ++ (WR κ a ur ++ (WN κ a un ++ (WS κ a us ++ (WO κ a uo ++ wp))))) sz)) 13 2543 (va_A (WH κ a uh ++ (WR κ a ur ++ (WN κ a un ++ (WS κ a us ++ (WO κ a uo ++ wp))))) sz) := by
  refine x_ofWG (X := fun _ => True) (cc := cX4_onPaper) (maxL := 1) (ret := some (.object "SpineDesks$Hall")) (Qf := fun A => va_Qr (fun _ : Nat → Nat => True) (fun (b : Nat → Nat) (ra : Nat) t => ra = b 0 ∧ va_P D vwCl (WH κ a uh ++ (WR κ a ur ++ (WN κ a un ++ (WS κ a us ++ (WO κ a (uo.setPaper (some (b 0))) ++ WH κ b (u1.setSteps 0)))))) t.heap ∧ va_K D vwCl (xT κ) t ∧ va_D A (WH κ a uh ++ (WR κ a ur ++ (WN κ a un ++ (WS κ a us ++ (WO κ a (uo.setPaper (some (b 0))) ++ WH κ b (u1.setSteps 0))))))) A) (by decide) rfl (Nat.le_of_ble_eq_true rfl) ?_
  intro p e s m below meth c hx hb hr hlk hml hnm hown hts hK _ A hA H locs hG ls hl
  have hl : lv_has ls 1 [(0, .ref (a 25))] := hl
  have hown : s.vm.findClass RX4 = some m.cls := hown
  have iX0 : ∀ w ∈ u_ws RX0 TX0 17, w ∈ wsX4_onPaper := fun _ h => List.mem_cons_of_mem _ (List.mem_append_right _ h)
  have iX4 : ∀ w ∈ u_ws RX4 TX4 8, w ∈ wsX4_onPaper := fun _ h => List.mem_cons_of_mem _ (List.mem_append_left _ (List.mem_append_right _ h))
  have k12 := hts (.fieldLink RX4 12 "SpineDesks" "hall" "LSpineDesks$Hall;") (List.mem_of_getElem? (i := 5) rfl)
  have k126 := hts (.fieldLink RX4 126 "SpineDesks$Hall" "steps" "I") (List.mem_of_getElem? (i := 6) rfl)
  have k334 := hts (.fieldLink RX4 334 "SpineDesks" "paper" "LSpineDesks$Hall;") (List.mem_of_getElem? (i := 1) rfl)
  have kc9 := hts (.classLink RX4 9 RX0) (List.mem_of_getElem? (i := 2) rfl)
  have kiX0 := hts (.initialized RX0) (List.mem_of_getElem? (i := 4) rfl)
  have kimX0 := hts (.instanceMethod yX0_init) (List.mem_of_getElem? (i := 8) rfl)
  have km11 := hts (.methodLink RX4 11 yX0_init) (List.mem_of_getElem? (i := 7) rfl)
  have knX0 := hts (.instantiable RX0 17) (List.mem_of_getElem? (i := 3) rfl)
  have T18 : ∀ (b : Nat → Nat) (H : Heap) (locs : List Loc) (ls : Array Slot), xG D A s.heap (WH κ a uh ++ (WR κ a ur ++ (WN κ a un ++ (WS κ a us ++ (WO κ a (uo.setPaper (some (b 0))) ++ WH κ b u0))))) H locs → lv_has ls 1 [(0, .ref (a 25))] → W p l e ({ frames := 2, cells := 13, slots := 2543, locals := 85 } : Room) s m (([.ref (a 25)] : List Value).toArray) below meth c H locs 13 2543 (MQ below (va_Qr (fun _ : Nat → Nat => True) (fun (b : Nat → Nat) (ra : Nat) t => ra = b 0 ∧ va_P D vwCl (WH κ a uh ++ (WR κ a ur ++ (WN κ a un ++ (WS κ a us ++ (WO κ a (uo.setPaper (some (b 0))) ++ WH κ b (u1.setSteps 0)))))) t.heap ∧ va_K D vwCl (xT κ) t ∧ va_D A (WH κ a uh ++ (WR κ a ur ++ (WN κ a un ++ (WS κ a us ++ (WO κ a (uo.setPaper (some (b 0))) ++ WH κ b (u1.setSteps 0))))))) A) (([.ref (a 25)] : List Value).toArray) s 13 2543 A) (F0 m 18 ls []) := by
    intro b H locs ls hG hl
    refine lv_aload_n hx hb dX4_onPaper_18 rfl (lv_at hl 0 rfl) ?_
    refine x_get (C := RX4) (T := TX4) (N := 8) (ci := 4) hx hb hts iX4 hown hK hG 25 rfl rfl 7 (by decide) k334 (v := .ref (b 0)) rfl dX4_onPaper_19 ?_
    refine lv_aload_n hx hb dX4_onPaper_22 rfl (lv_at hl 0 rfl) ?_
    refine x_get (C := RX4) (T := TX4) (N := 8) (ci := 4) hx hb hts iX4 hown hK hG 25 rfl rfl 0 (by decide) k12 (v := .ref (a 0)) rfl dX4_onPaper_23 ?_
    have hG := xG_perm (xpl _ _ _ _ _ _) hG
    refine x_callVv (pre := []) (wc := WH κ b u0 ++ WH κ a uh) (wc1 := WH κ b u1 ++ WH κ a uh) (post := WR κ a ur ++ (WN κ a un ++ (WS κ a us ++ WO κ a (uo.setPaper (some (b 0)))))) (As := [.ref (a 0)]) (rest := []) (w1 := (WH κ b u1 ++ WH κ a uh) ++ (WR κ a ur ++ (WN κ a un ++ (WS κ a us ++ WO κ a (uo.setPaper (some (b 0))))))) ⟨hx, hb, hml, hown, hts⟩ hK hG hA rfl rfl (c_X0_copyFrom l D κ b a H.size u0 uh u1 hcp) (cwV 1 hts gX4_onPaper_X0_copyFrom rfl rfl rfl (by decide +kernel) ⟨Nat.le_of_ble_eq_true rfl, Nat.le_of_ble_eq_true rfl⟩) 0 0 rfl rfl rfl rfl hl.1 rfl (Nat.le_of_ble_eq_true rfl) dX4_onPaper_26 ⟨Nat.le_of_ble_eq_true rfl, Nat.le_of_ble_eq_true rfl⟩ (fun H locs hG => ?_)
    have hG : xG D A s.heap (WH κ a uh ++ (WR κ a ur ++ (WN κ a un ++ (WS κ a us ++ (WO κ a (uo.setPaper (some (b 0))) ++ WH κ b u1))))) H locs := xG_perm (xpl _ _ _ _ _ _).symm hG
    refine lv_aload_n hx hb dX4_onPaper_29 rfl (lv_at hl 0 rfl) ?_
    refine x_get (C := RX4) (T := TX4) (N := 8) (ci := 4) hx hb hts iX4 hown hK hG 25 rfl rfl 7 (by decide) k334 (v := .ref (b 0)) rfl dX4_onPaper_30 ?_
    refine lv_iconst (v := 0) hx hb dX4_onPaper_33 (by decide) ?_
    refine x_put (C := RX0) (T := TX0) (N := 17) (ci := 0) hx hb hts iX0 tyX0 tyX0_ok nmX0 hown hK hG 29 rfl rfl 4 (by decide) k126 rfl (ty := .int) (v := .int 0) rfl rfl rfl (Nat.le_of_ble_eq_true rfl) (w1 := WH κ a uh ++ (WR κ a ur ++ (WN κ a un ++ (WS κ a us ++ (WO κ a (uo.setPaper (some (b 0))) ++ WH κ b (u1.setSteps 0)))))) rfl dX4_onPaper_34 (fun H locs hG => ?_)
    refine lv_aload_n hx hb dX4_onPaper_37 rfl (lv_at hl 0 rfl) ?_
    refine x_get (C := RX4) (T := TX4) (N := 8) (ci := 4) hx hb hts iX4 hown hK hG 25 rfl rfl 7 (by decide) k334 (v := .ref (b 0)) rfl dX4_onPaper_38 ?_
    exact W.aret hx hb hr (Or.inl ⟨_, rfl⟩) (Or.inr ⟨_, rfl⟩) (fun t ht hW => ⟨⟨b, b 0, rfl, trivial, rfl, by rw [ht]; exact hG.1, va_K.moved hW.alike hK, hG.2.1⟩, hG.2.2.F ht⟩) hG.2.2.2.2 dX4_onPaper_41 hlk
  refine lv_aload_n hx hb dX4_onPaper_0 rfl (lv_at hl 0 rfl) ?_
  refine x_get (C := RX4) (T := TX4) (N := 8) (ci := 4) hx hb hts iX4 hown hK hG 25 rfl rfl 7 (by decide) k334 (v := va_rf uo.paper) rfl dX4_onPaper_1 ?_
  rcases hpp with ⟨hp1, rfl, rfl⟩ | ⟨b, hp1, rfl⟩
  · rw [hp1]
    refine lv_ifnonnullN hx hb dX4_onPaper_4 ?_
    refine lv_aload_n hx hb dX4_onPaper_7 rfl (lv_at hl 0 rfl) ?_
    refine x_new (C := RX0) (T := TX0) (N := 17) (ci := 0) (fs := [.int 0, .int 0, .int 0, .int 0, .int 0, .null, .null, .null, .null, .null, .null, .null, .null, .null, .null, .null, .null]) hx hb hts iX0 tyX0 tyX0_ok hown kc9 knX0 kiX0 hK hG hA rfl (by decide +kernel) (Nat.le_of_ble_eq_true rfl) (Nat.le_of_ble_eq_true rfl) dX4_onPaper_8 (fun q H hG => ?_)
    replace hG : xG D A s.heap (WH κ a uh ++ (WR κ a ur ++ (WN κ a un ++ (WS κ a us ++ (WO κ a uo ++ [(q, .inr (0, [.int 0, .int 0, .int 0, .int 0, .int 0, .null, .null, .null, .null, .null, .null, .null, .null, .null, .null, .null, .null]))]))))) H locs := by simpa only [List.append_assoc, List.nil_append, List.append_nil] using hG
    refine W.widen (k := 1) (n := 17) (Nat.le_of_ble_eq_true rfl) (Nat.le_of_ble_eq_true rfl) ?_
    refine lv_dup hx hb dX4_onPaper_11 rfl ?_
    refine x_callI (S := Nat → Nat) (pre := WH κ a uh ++ (WR κ a ur ++ (WN κ a un ++ (WS κ a us ++ WO κ a uo)))) (wc := [(q, .inr (0, [.int 0, .int 0, .int 0, .int 0, .int 0, .null, .null, .null, .null, .null, .null, .null, .null, .null, .null, .null, .null]))]) (post := []) (As := []) (rest := [.ref q, .ref (a 25)]) (F := fun b => WH κ b HZ) ⟨hx, hb, hml, hown, hts⟩ hK (fun _ _ => trivial) (fun _ _ _ _ h => h) hG hA (by simp only [List.append_assoc, List.nil_append, List.append_nil]) (c_X0_init l D κ q H.size) (cwI 0 hts gX4_onPaper_X0_init rfl rfl rfl kiX0 km11 kimX0 rfl (by decide +kernel) ⟨Nat.le_of_ble_eq_true rfl, Nat.le_of_ble_eq_true rfl⟩) rfl hl.1 rfl (Nat.le_of_ble_eq_true rfl) dX4_onPaper_12 ⟨Nat.le_of_ble_eq_true rfl, Nat.le_of_ble_eq_true rfl⟩ (fun b H locs hb1 hG => ?_)
    replace hG : xG D A s.heap (WH κ a uh ++ (WR κ a ur ++ (WN κ a un ++ (WS κ a us ++ (WO κ a uo ++ WH κ b HZ))))) H locs := by simpa only [List.append_assoc, List.nil_append, List.append_nil] using hG
    rw [← hb1]
    refine W.widen (k := 13) (n := 2543) (Nat.le_of_ble_eq_true rfl) (Nat.le_of_ble_eq_true rfl) ?_
    refine x_put (C := RX4) (T := TX4) (N := 8) (ci := 4) hx hb hts iX4 tyX4 tyX4_ok nmX4 hown hK hG 25 rfl rfl 7 (by decide) k334 rfl (v := .ref (b 0)) rfl rfl rfl (Nat.le_of_ble_eq_true rfl) (w1 := WH κ a uh ++ (WR κ a ur ++ (WN κ a un ++ (WS κ a us ++ (WO κ a (uo.setPaper (some (b 0))) ++ WH κ b HZ))))) rfl dX4_onPaper_15 (fun H locs hG => ?_)
    exact T18 b H locs ls hG hl
  · rw [hp1]
    refine lv_ifnonnull (tgt := 18) hx hb dX4_onPaper_4 (by decide) ?_
    have e9 : uo = uo.setPaper (some (b 0)) := by rw [← hp1]; rfl
    refine W.widen (k := 13) (n := 2543) (Nat.zero_le _) (Nat.zero_le _) ?_
    exact T18 b H locs ls (by rw [← e9]; exact hG) hl
set_option maxRecDepth 100000 in
set_option maxHeartbeats 4000000 in
theorem c_X4_melding (l : Launch) (D : va_G) (κ : Nat → ClassId) (a : Nat → Nat) (sz : Nat) (p1 : Int32) (p2 : Int32) (p3 : Int32) (uh : HS) (ur : RS) (un : NS) (us : SS) (uo : OS) (wp : va_W) (u0 u1 : HS) (r' : Int32) (uk' : HS) (hpp : xPap κ uo.paper wp u0) (hcp : f_X0_copyFrom u0 uh = some u1) (hf : f_X4_melding p1 p2 p3 uh (u1.setSteps 0) = some (r', uk')) : Met l yX4_melding wsX4_melding ({ frames := 3, cells := 13, slots := 2543, locals := 105 } : Room) (fun v U => xPc D κ [.ref (a 25), .int p1, .int p2, .int p3] (WH κ a uh ++ (WR κ a ur ++ (WN κ a un ++ (WS κ a us ++ (WO κ a uo ++ wp))))) sz v U ∧ True) (xQp D κ a uh ur un us uo r' (va_A (WH κ a uh ++ (WR κ a ur ++ (WN κ a un ++ (WS κ a us ++ (WO κ a uo ++ wp))))) sz)) 13 2543 (va_A (WH κ a uh ++ (WR κ a ur ++ (WN κ a un ++ (WS κ a us ++ (WO κ a uo ++ wp))))) sz) := by
  refine x_ofWG (X := fun _ => True) (cc := cX4_melding) (maxL := 5) (ret := some .int) (Qf := fun A => xQp D κ a uh ur un us uo r' A) (by decide) rfl (Nat.le_of_ble_eq_true rfl) ?_
  intro p e s m below meth c hx hb hr hlk hml hnm hown hts hK _ A hA H locs hG ls hl
  have hl : lv_has ls 5 [(0, .ref (a 25)), (1, .int p1), (2, .int p2), (3, .int p3)] := hl
  have hown : s.vm.findClass RX4 = some m.cls := hown
  have iX0 : ∀ w ∈ u_ws RX0 TX0 17, w ∈ wsX4_melding := fun _ h => List.mem_cons_of_mem _ (List.mem_append_right _ h)
  have iX4 : ∀ w ∈ u_ws RX4 TX4 8, w ∈ wsX4_melding := fun _ h => List.mem_cons_of_mem _ (List.mem_append_left _ (List.mem_append_right _ h))
  have k12 := hts (.fieldLink RX4 12 "SpineDesks" "hall" "LSpineDesks$Hall;") (List.mem_of_getElem? (i := 1) rfl)
  have k126 := hts (.fieldLink RX4 126 "SpineDesks$Hall" "steps" "I") (List.mem_of_getElem? (i := 3) rfl)
  have k84 := hts (.fieldLink RX4 84 "SpineDesks$Hall" "root" "[I") (List.mem_of_getElem? (i := 2) rfl)
  have P38 : ∀ (b : Nat → Nat) (x1 : Int32) (x2 : Int32) (x3 : Int32) (uk : HS), f_X4_melding_P x1 x2 x3  uk = some (r', uk') → ∀ (H : Heap) (locs : List Loc) (ls : Array Slot), xG D A s.heap (WH κ a uh ++ (WR κ a ur ++ (WN κ a un ++ (WS κ a us ++ (WO κ a (uo.setPaper (some (b 0))) ++ WH κ b uk))))) H locs → lv_has ls 5 [(0, .ref (a 25)), (1, .int x1), (2, .int x2), (3, .int x3), (4, .ref (b 0))] → W p l e ({ frames := 3, cells := 13, slots := 2543, locals := 105 } : Room) s m (([.ref (a 25), .int p1, .int p2, .int p3] : List Value).toArray) below meth c H locs 13 2543 (MQ below (xQp D κ a uh ur un us uo r' A) (([.ref (a 25), .int p1, .int p2, .int p3] : List Value).toArray) s 13 2543 A) (F0 m 38 ls []) := by
    intro b x1 x2 x3 uk hf H locs ls hG hl
    unfold f_X4_melding_P at hf
    refine lv_aload hx hb dX4_melding_38 (lv_at hl 4 rfl) ?_
    refine lv_iload_n hx hb dX4_melding_40 rfl (lv_at hl 1 rfl) ?_
    refine lv_iload_n hx hb dX4_melding_41 rfl (lv_at hl 2 rfl) ?_
    obtain ⟨uk1, q2, hf⟩ := cl1_e hf
    refine x_callVv (pre := WH κ a uh ++ (WR κ a ur ++ (WN κ a un ++ (WS κ a us ++ (WO κ a (uo.setPaper (some (b 0)))))))) (wc := WH κ b uk) (wc1 := WH κ b uk1) (post := ([] : va_W)) (As := [.int x1, .int x2]) (rest := []) (w1 := WH κ a uh ++ (WR κ a ur ++ (WN κ a un ++ (WS κ a us ++ (WO κ a (uo.setPaper (some (b 0))) ++ (WH κ b uk1)))))) ⟨hx, hb, hml, hown, hts⟩ hK hG hA (by simp only [List.append_assoc, List.nil_append, List.append_nil]) (by simp only [List.append_assoc, List.nil_append, List.append_nil]) (c_X0_meldInto l D κ b H.size x1 x2 uk uk1 q2) (cwV 2 hts gX4_melding_X0_meldInto rfl rfl rfl (by decide +kernel) ⟨Nat.le_of_ble_eq_true rfl, Nat.le_of_ble_eq_true rfl⟩) 0 0 rfl rfl rfl rfl hl.1 rfl (Nat.le_of_ble_eq_true rfl) dX4_melding_42 ⟨Nat.le_of_ble_eq_true rfl, Nat.le_of_ble_eq_true rfl⟩ (fun H locs hG => ?_)
    refine lv_iload_n hx hb dX4_melding_45 rfl (lv_at hl 3 rfl) ?_
    refine lv_if_ne (tgt := 57) hx hb dX4_melding_46 (by decide) (fun c3 => ?_) (fun c3 => ?_)
    · replace hf := if_f c3 hf
      refine lv_aload hx hb dX4_melding_57 (lv_at hl 4 rfl) ?_
      refine lv_aload hx hb dX4_melding_59 (lv_at hl 4 rfl) ?_
      refine x_get (C := RX0) (T := TX0) (N := 17) (ci := 0) hx hb hts iX0 hown hK hG 29 rfl rfl 5 (by decide) k84 (v := .ref (b 1)) rfl dX4_melding_61 ?_
      refine lv_iload_n hx hb dX4_melding_64 rfl (lv_at hl 1 rfl) ?_
      obtain ⟨v4, ev4, hin, hf⟩ := ck_e hf
      refine x_iald hx hb hK hG 30 rfl ev4 hin dX4_melding_65 ?_
      obtain ⟨r5, q6, hf⟩ := cl1_e hf
      refine x_callVi (pre := WH κ a uh ++ (WR κ a ur ++ (WN κ a un ++ (WS κ a us ++ (WO κ a (uo.setPaper (some (b 0)))))))) (wc := WH κ b uk1) (wc1 := WH κ b uk1) (post := ([] : va_W)) (As := [.int v4]) (rest := []) (w1 := WH κ a uh ++ (WR κ a ur ++ (WN κ a un ++ (WS κ a us ++ (WO κ a (uo.setPaper (some (b 0))) ++ (WH κ b uk1)))))) ⟨hx, hb, hml, hown, hts⟩ hK hG hA (by simp only [List.append_assoc, List.nil_append, List.append_nil]) (by simp only [List.append_assoc, List.nil_append, List.append_nil]) (c_X0_rankOf l D κ b H.size v4 uk1 r5 q6) (cwV 1 hts gX4_melding_X0_rankOf rfl rfl rfl (by decide +kernel) ⟨Nat.le_of_ble_eq_true rfl, Nat.le_of_ble_eq_true rfl⟩) 0 0 rfl rfl rfl rfl hl.1 rfl (Nat.le_of_ble_eq_true rfl) dX4_melding_66 ⟨Nat.le_of_ble_eq_true rfl, Nat.le_of_ble_eq_true rfl⟩ (fun H locs hG => ?_)
      have z0 := (Prod.mk.inj (Option.some.inj hf)).1
      exact W.iret (v := r5) hx hb hr (fun t ht hW => ⟨⟨r5, (some (b 0), WH κ b uk1, uk1), rfl, ⟨z0, Or.inr ⟨b, rfl, rfl⟩⟩, by rw [ht]; exact hG.1, va_K.moved hW.alike hK, hG.2.1⟩, hG.2.2.F ht⟩) hG.2.2.2.2 dX4_melding_69 hlk
    · replace hf := if_t c3 hf
      refine lv_aload hx hb dX4_melding_49 (lv_at hl 4 rfl) ?_
      refine x_get (C := RX0) (T := TX0) (N := 17) (ci := 0) hx hb hts iX0 hown hK hG 29 rfl rfl 4 (by decide) k126 (v := .int (uk1.steps)) rfl dX4_melding_51 ?_
      refine lv_goto (tgt := 69) hx hb dX4_melding_54 (by decide) ?_
      have z0 := (Prod.mk.inj (Option.some.inj hf)).1
      exact W.iret (v := uk1.steps) hx hb hr (fun t ht hW => ⟨⟨uk1.steps, (some (b 0), WH κ b uk1, uk1), rfl, ⟨z0, Or.inr ⟨b, rfl, rfl⟩⟩, by rw [ht]; exact hG.1, va_K.moved hW.alike hK, hG.2.1⟩, hG.2.2.F ht⟩) hG.2.2.2.2 dX4_melding_69 hlk
  generalize hU : u1.setSteps 0 = uk at hf
  unfold f_X4_melding at hf
  refine lv_iload_n hx hb dX4_melding_0 rfl (lv_at hl 1 rfl) ?_
  refine lv_iload_n hx hb dX4_melding_1 rfl (lv_at hl 2 rfl) ?_
  obtain ⟨r1, q2, hf⟩ := cl1_e hf
  refine x_callSi (pre := ([] : va_W)) (wc := ([] : va_W)) (wc1 := ([] : va_W)) (post := WH κ a uh ++ (WR κ a ur ++ (WN κ a un ++ (WS κ a us ++ (WO κ a uo ++ (wp)))))) (As := [.int p1, .int p2]) (rest := []) (w1 := WH κ a uh ++ (WR κ a ur ++ (WN κ a un ++ (WS κ a us ++ (WO κ a uo ++ (wp)))))) ⟨hx, hb, hml, hown, hts⟩ hK hG hA (by simp only [List.append_assoc, List.nil_append, List.append_nil]) (by simp only [List.append_assoc, List.nil_append, List.append_nil]) (c_X4_areTwoDesks l D κ a H.size p1 p2 r1 q2) (va_cwS 2 hts gX4_melding_X4_areTwoDesks rfl rfl rfl (by decide +kernel) ⟨Nat.le_of_ble_eq_true rfl, Nat.le_of_ble_eq_true rfl⟩) rfl hl.1 rfl (Nat.le_of_ble_eq_true rfl) dX4_melding_2 ⟨Nat.zero_le _, Nat.zero_le _⟩ (fun H locs hG => ?_)
  refine lv_if_eq (tgt := 30) hx hb dX4_melding_5 (by decide) (fun c3 => ?_) (fun c3 => ?_)
  · replace hf := if_t c3 hf
    refine lv_iconst (v := (-1)) hx hb dX4_melding_30 (by decide) ?_
    have z0 := (Prod.mk.inj (Option.some.inj hf)).1
    refine W.widen (k := 13) (n := 2543) (Nat.zero_le _) (Nat.zero_le _) ?_
    exact W.iret (v := (-1)) hx hb hr (fun t ht hW => ⟨⟨(-1), (uo.paper, wp, u0), rfl, ⟨z0, hpp⟩, by rw [ht]; exact hG.1, va_K.moved hW.alike hK, hG.2.1⟩, hG.2.2.F ht⟩) hG.2.2.2.2 dX4_melding_31 hlk
  · replace hf := if_f c3 hf
    refine lv_aload_n hx hb dX4_melding_8 rfl (lv_at hl 0 rfl) ?_
    refine x_get (C := RX4) (T := TX4) (N := 8) (ci := 4) hx hb hts iX4 hown hK hG 25 rfl rfl 0 (by decide) k12 (v := .ref (a 0)) rfl dX4_melding_9 ?_
    refine x_get (C := RX0) (T := TX0) (N := 17) (ci := 0) hx hb hts iX0 hown hK hG 0 rfl rfl 5 (by decide) k84 (v := .ref (a 1)) rfl dX4_melding_12 ?_
    refine lv_iload_n hx hb dX4_melding_15 rfl (lv_at hl 2 rfl) ?_
    obtain ⟨v4, ev4, hin, hf⟩ := ck_e hf
    refine x_iald hx hb hK hG 1 rfl ev4 hin dX4_melding_16 ?_
    refine lv_iconst (v := (-1)) hx hb dX4_melding_17 (by decide) ?_
    refine lv_icmp_eq (tgt := 30) hx hb dX4_melding_18 (by decide) (fun c5 => ?_) (fun c5 => ?_)
    · replace hf := if_t c5 hf
      refine lv_iconst (v := (-1)) hx hb dX4_melding_30 (by decide) ?_
      have z0 := (Prod.mk.inj (Option.some.inj hf)).1
      refine W.widen (k := 13) (n := 2543) (Nat.zero_le _) (Nat.zero_le _) ?_
      exact W.iret (v := (-1)) hx hb hr (fun t ht hW => ⟨⟨(-1), (uo.paper, wp, u0), rfl, ⟨z0, hpp⟩, by rw [ht]; exact hG.1, va_K.moved hW.alike hK, hG.2.1⟩, hG.2.2.F ht⟩) hG.2.2.2.2 dX4_melding_31 hlk
    · replace hf := if_f c5 hf
      refine lv_iload_n hx hb dX4_melding_21 rfl (lv_at hl 3 rfl) ?_
      refine lv_if_lt (tgt := 30) hx hb dX4_melding_22 (by decide) (fun c6 => ?_) (fun c6 => ?_)
      · replace hf := if_t c6 hf
        refine lv_iconst (v := (-1)) hx hb dX4_melding_30 (by decide) ?_
        have z0 := (Prod.mk.inj (Option.some.inj hf)).1
        refine W.widen (k := 13) (n := 2543) (Nat.zero_le _) (Nat.zero_le _) ?_
        exact W.iret (v := (-1)) hx hb hr (fun t ht hW => ⟨⟨(-1), (uo.paper, wp, u0), rfl, ⟨z0, hpp⟩, by rw [ht]; exact hG.1, va_K.moved hW.alike hK, hG.2.1⟩, hG.2.2.F ht⟩) hG.2.2.2.2 dX4_melding_31 hlk
      · replace hf := if_f c6 hf
        refine lv_iload_n hx hb dX4_melding_25 rfl (lv_at hl 3 rfl) ?_
        refine lv_iconst (v := 1) hx hb dX4_melding_26 (by decide) ?_
        refine lv_icmp_le (tgt := 32) hx hb dX4_melding_27 (by decide) (fun c7 => ?_) (fun c7 => ?_)
        · replace hf := if_t c7 hf
          refine lv_aload_n hx hb dX4_melding_32 rfl (lv_at hl 0 rfl) ?_
          refine x_callVr (S := Nat → Nat) (X := fun b ra => ra = b 0) (F := fun b => WH κ a uh ++ (WR κ a ur ++ (WN κ a un ++ (WS κ a us ++ (WO κ a (uo.setPaper (some (b 0))) ++ WH κ b (u1.setSteps 0)))))) (As := []) (rest := []) ⟨hx, hb, hml, hown, hts⟩ hK hG hA (c_X4_onPaper l D κ a H.size uh ur un us uo wp u0 u1 hpp hcp) (cwV 0 hts gX4_melding_X4_onPaper rfl rfl rfl (by decide +kernel) ⟨Nat.le_of_ble_eq_true rfl, Nat.le_of_ble_eq_true rfl⟩) 25 4 rfl rfl rfl rfl hl.1 rfl (Nat.le_of_ble_eq_true rfl) dX4_melding_33 ⟨Nat.le_of_ble_eq_true rfl, Nat.le_of_ble_eq_true rfl⟩ (fun b ra H locs hra hG => ?_)
          subst hra
          rw [hU] at hG
          refine W.widen (k := 13) (n := 2543) (Nat.le_of_ble_eq_true rfl) (Nat.le_of_ble_eq_true rfl) ?_
          refine lv_astore (lv' := [(4, .ref (b 0)), (0, .ref (a 25)), (1, .int p1), (2, .int p2), (3, .int p3)]) hx hb dX4_melding_36 hl (by decide) rfl (fun ls hl => ?_)
          exact P38 b p1 p2 p3 uk hf H locs ls hG (lv_sub hl [1, 2, 3, 4, 0] rfl)
        · replace hf := if_f c7 hf
          refine lv_iconst (v := (-1)) hx hb dX4_melding_30 (by decide) ?_
          have z0 := (Prod.mk.inj (Option.some.inj hf)).1
          refine W.widen (k := 13) (n := 2543) (Nat.zero_le _) (Nat.zero_le _) ?_
          exact W.iret (v := (-1)) hx hb hr (fun t ht hW => ⟨⟨(-1), (uo.paper, wp, u0), rfl, ⟨z0, hpp⟩, by rw [ht]; exact hG.1, va_K.moved hW.alike hK, hG.2.1⟩, hG.2.2.F ht⟩) hG.2.2.2.2 dX4_melding_31 hlk
set_option maxRecDepth 100000 in
set_option maxHeartbeats 4000000 in
theorem c_X4_taking (l : Launch) (D : va_G) (κ : Nat → ClassId) (a : Nat → Nat) (sz : Nat) (p1 : Int32) (uh : HS) (ur : RS) (un : NS) (us : SS) (uo : OS) (wp : va_W) (u0 u1 : HS) (r' : Int32) (uk' : HS) (hpp : xPap κ uo.paper wp u0) (hcp : f_X0_copyFrom u0 uh = some u1) (hf : f_X4_taking p1 uh (u1.setSteps 0) = some (r', uk')) : Met l yX4_taking wsX4_taking ({ frames := 5, cells := 13, slots := 2543, locals := 119 } : Room) (fun v U => xPc D κ [.ref (a 25), .int p1] (WH κ a uh ++ (WR κ a ur ++ (WN κ a un ++ (WS κ a us ++ (WO κ a uo ++ wp))))) sz v U ∧ True) (xQp D κ a uh ur un us uo r' (va_A (WH κ a uh ++ (WR κ a ur ++ (WN κ a un ++ (WS κ a us ++ (WO κ a uo ++ wp))))) sz)) 13 2543 (va_A (WH κ a uh ++ (WR κ a ur ++ (WN κ a un ++ (WS κ a us ++ (WO κ a uo ++ wp))))) sz) := by
  refine x_ofWG (X := fun _ => True) (cc := cX4_taking) (maxL := 3) (ret := some .int) (Qf := fun A => xQp D κ a uh ur un us uo r' A) (by decide) rfl (Nat.le_of_ble_eq_true rfl) ?_
  intro p e s m below meth c hx hb hr hlk hml hnm hown hts hK _ A hA H locs hG ls hl
  have hl : lv_has ls 3 [(0, .ref (a 25)), (1, .int p1)] := hl
  have hown : s.vm.findClass RX4 = some m.cls := hown
  have iX0 : ∀ w ∈ u_ws RX0 TX0 17, w ∈ wsX4_taking := fun _ h => List.mem_cons_of_mem _ (List.mem_append_right _ h)
  have iX4 : ∀ w ∈ u_ws RX4 TX4 8, w ∈ wsX4_taking := fun _ h => List.mem_cons_of_mem _ (List.mem_append_left _ (List.mem_append_right _ h))
  have k12 := hts (.fieldLink RX4 12 "SpineDesks" "hall" "LSpineDesks$Hall;") (List.mem_of_getElem? (i := 1) rfl)
  have k126 := hts (.fieldLink RX4 126 "SpineDesks$Hall" "steps" "I") (List.mem_of_getElem? (i := 3) rfl)
  have k84 := hts (.fieldLink RX4 84 "SpineDesks$Hall" "root" "[I") (List.mem_of_getElem? (i := 2) rfl)
  have P27 : ∀ (b : Nat → Nat) (x1 : Int32) (uk : HS), f_X4_taking_P x1  uk = some (r', uk') → ∀ (H : Heap) (locs : List Loc) (ls : Array Slot), xG D A s.heap (WH κ a uh ++ (WR κ a ur ++ (WN κ a un ++ (WS κ a us ++ (WO κ a (uo.setPaper (some (b 0))) ++ WH κ b uk))))) H locs → lv_has ls 3 [(0, .ref (a 25)), (1, .int x1), (2, .ref (b 0))] → W p l e ({ frames := 5, cells := 13, slots := 2543, locals := 119 } : Room) s m (([.ref (a 25), .int p1] : List Value).toArray) below meth c H locs 13 2543 (MQ below (xQp D κ a uh ur un us uo r' A) (([.ref (a 25), .int p1] : List Value).toArray) s 13 2543 A) (F0 m 27 ls []) := by
    intro b x1 uk hf H locs ls hG hl
    unfold f_X4_taking_P at hf
    refine lv_aload_n hx hb dX4_taking_27 rfl (lv_at hl 2 rfl) ?_
    refine lv_iload_n hx hb dX4_taking_28 rfl (lv_at hl 1 rfl) ?_
    obtain ⟨r1, uk2, q3, hf⟩ := cl2_e hf
    refine x_callVi (pre := WH κ a uh ++ (WR κ a ur ++ (WN κ a un ++ (WS κ a us ++ (WO κ a (uo.setPaper (some (b 0)))))))) (wc := WH κ b uk) (wc1 := WH κ b uk2) (post := ([] : va_W)) (As := [.int x1]) (rest := []) (w1 := WH κ a uh ++ (WR κ a ur ++ (WN κ a un ++ (WS κ a us ++ (WO κ a (uo.setPaper (some (b 0))) ++ (WH κ b uk2)))))) ⟨hx, hb, hml, hown, hts⟩ hK hG hA (by simp only [List.append_assoc, List.nil_append, List.append_nil]) (by simp only [List.append_assoc, List.nil_append, List.append_nil]) (c_X0_dispatch l D κ b H.size x1 uk r1 uk2 q3) (cwV 1 hts gX4_taking_X0_dispatch rfl rfl rfl (by decide +kernel) ⟨Nat.le_of_ble_eq_true rfl, Nat.le_of_ble_eq_true rfl⟩) 0 0 rfl rfl rfl rfl hl.1 rfl (Nat.le_of_ble_eq_true rfl) dX4_taking_29 ⟨Nat.le_of_ble_eq_true rfl, Nat.le_of_ble_eq_true rfl⟩ (fun H locs hG => ?_)
    refine lv_pop hx hb dX4_taking_32 rfl ?_
    refine lv_aload_n hx hb dX4_taking_33 rfl (lv_at hl 2 rfl) ?_
    refine x_get (C := RX0) (T := TX0) (N := 17) (ci := 0) hx hb hts iX0 hown hK hG 29 rfl rfl 4 (by decide) k126 (v := .int (uk2.steps)) rfl dX4_taking_34 ?_
    have z0 := (Prod.mk.inj (Option.some.inj hf)).1
    exact W.iret (v := uk2.steps) hx hb hr (fun t ht hW => ⟨⟨uk2.steps, (some (b 0), WH κ b uk2, uk2), rfl, ⟨z0, Or.inr ⟨b, rfl, rfl⟩⟩, by rw [ht]; exact hG.1, va_K.moved hW.alike hK, hG.2.1⟩, hG.2.2.F ht⟩) hG.2.2.2.2 dX4_taking_37 hlk
  generalize hU : u1.setSteps 0 = uk at hf
  unfold f_X4_taking at hf
  refine lv_iload_n hx hb dX4_taking_0 rfl (lv_at hl 1 rfl) ?_
  obtain ⟨r1, q2, hf⟩ := cl1_e hf
  refine x_callSi (pre := ([] : va_W)) (wc := ([] : va_W)) (wc1 := ([] : va_W)) (post := WH κ a uh ++ (WR κ a ur ++ (WN κ a un ++ (WS κ a us ++ (WO κ a uo ++ (wp)))))) (As := [.int p1]) (rest := []) (w1 := WH κ a uh ++ (WR κ a ur ++ (WN κ a un ++ (WS κ a us ++ (WO κ a uo ++ (wp)))))) ⟨hx, hb, hml, hown, hts⟩ hK hG hA (by simp only [List.append_assoc, List.nil_append, List.append_nil]) (by simp only [List.append_assoc, List.nil_append, List.append_nil]) (c_X4_isDesk l D κ a H.size p1 r1 q2) (va_cwS 1 hts gX4_taking_X4_isDesk rfl rfl rfl (by decide +kernel) ⟨Nat.le_of_ble_eq_true rfl, Nat.le_of_ble_eq_true rfl⟩) rfl hl.1 rfl (Nat.le_of_ble_eq_true rfl) dX4_taking_1 ⟨Nat.zero_le _, Nat.zero_le _⟩ (fun H locs hG => ?_)
  refine lv_if_eq (tgt := 20) hx hb dX4_taking_4 (by decide) (fun c3 => ?_) (fun c3 => ?_)
  · replace hf := if_t c3 hf
    refine lv_iconst (v := (-1)) hx hb dX4_taking_20 (by decide) ?_
    have z0 := (Prod.mk.inj (Option.some.inj hf)).1
    refine W.widen (k := 13) (n := 2543) (Nat.zero_le _) (Nat.zero_le _) ?_
    exact W.iret (v := (-1)) hx hb hr (fun t ht hW => ⟨⟨(-1), (uo.paper, wp, u0), rfl, ⟨z0, hpp⟩, by rw [ht]; exact hG.1, va_K.moved hW.alike hK, hG.2.1⟩, hG.2.2.F ht⟩) hG.2.2.2.2 dX4_taking_21 hlk
  · replace hf := if_f c3 hf
    refine lv_aload_n hx hb dX4_taking_7 rfl (lv_at hl 0 rfl) ?_
    refine x_get (C := RX4) (T := TX4) (N := 8) (ci := 4) hx hb hts iX4 hown hK hG 25 rfl rfl 0 (by decide) k12 (v := .ref (a 0)) rfl dX4_taking_8 ?_
    refine x_get (C := RX0) (T := TX0) (N := 17) (ci := 0) hx hb hts iX0 hown hK hG 0 rfl rfl 5 (by decide) k84 (v := .ref (a 1)) rfl dX4_taking_11 ?_
    refine lv_iload_n hx hb dX4_taking_14 rfl (lv_at hl 1 rfl) ?_
    obtain ⟨v4, ev4, hin, hf⟩ := ck_e hf
    refine x_iald hx hb hK hG 1 rfl ev4 hin dX4_taking_15 ?_
    refine lv_iconst (v := (-1)) hx hb dX4_taking_16 (by decide) ?_
    refine lv_icmp_ne (tgt := 22) hx hb dX4_taking_17 (by decide) (fun c5 => ?_) (fun c5 => ?_)
    · replace hf := if_f c5 hf
      refine lv_aload_n hx hb dX4_taking_22 rfl (lv_at hl 0 rfl) ?_
      refine x_callVr (S := Nat → Nat) (X := fun b ra => ra = b 0) (F := fun b => WH κ a uh ++ (WR κ a ur ++ (WN κ a un ++ (WS κ a us ++ (WO κ a (uo.setPaper (some (b 0))) ++ WH κ b (u1.setSteps 0)))))) (As := []) (rest := []) ⟨hx, hb, hml, hown, hts⟩ hK hG hA (c_X4_onPaper l D κ a H.size uh ur un us uo wp u0 u1 hpp hcp) (cwV 0 hts gX4_taking_X4_onPaper rfl rfl rfl (by decide +kernel) ⟨Nat.le_of_ble_eq_true rfl, Nat.le_of_ble_eq_true rfl⟩) 25 4 rfl rfl rfl rfl hl.1 rfl (Nat.le_of_ble_eq_true rfl) dX4_taking_23 ⟨Nat.le_of_ble_eq_true rfl, Nat.le_of_ble_eq_true rfl⟩ (fun b ra H locs hra hG => ?_)
      subst hra
      rw [hU] at hG
      refine W.widen (k := 13) (n := 2543) (Nat.le_of_ble_eq_true rfl) (Nat.le_of_ble_eq_true rfl) ?_
      refine lv_astore_n (lv' := [(2, .ref (b 0)), (0, .ref (a 25)), (1, .int p1)]) hx hb dX4_taking_26 rfl hl (by decide) rfl (fun ls hl => ?_)
      exact P27 b p1 uk hf H locs ls hG (lv_sub hl [1, 2, 0] rfl)
    · replace hf := if_t c5 hf
      refine lv_iconst (v := (-1)) hx hb dX4_taking_20 (by decide) ?_
      have z0 := (Prod.mk.inj (Option.some.inj hf)).1
      refine W.widen (k := 13) (n := 2543) (Nat.zero_le _) (Nat.zero_le _) ?_
      exact W.iret (v := (-1)) hx hb hr (fun t ht hW => ⟨⟨(-1), (uo.paper, wp, u0), rfl, ⟨z0, hpp⟩, by rw [ht]; exact hG.1, va_K.moved hW.alike hK, hG.2.1⟩, hG.2.2.F ht⟩) hG.2.2.2.2 dX4_taking_21 hlk
set_option maxRecDepth 100000 in
set_option maxHeartbeats 4000000 in
theorem c_X4_coming (l : Launch) (D : va_G) (κ : Nat → ClassId) (a : Nat → Nat) (sz : Nat) (p1 : Int32) (uh : HS) (ur : RS) (un : NS) (us : SS) (uo : OS) (wp : va_W) (u0 u1 : HS) (r' : Int32) (uk' : HS) (hpp : xPap κ uo.paper wp u0) (hcp : f_X0_copyFrom u0 uh = some u1) (hf : f_X4_coming p1  (u1.setSteps 0) = some (r', uk')) : Met l yX4_coming wsX4_coming ({ frames := 6, cells := 13, slots := 2543, locals := 140 } : Room) (fun v U => xPc D κ [.ref (a 25), .int p1] (WH κ a uh ++ (WR κ a ur ++ (WN κ a un ++ (WS κ a us ++ (WO κ a uo ++ wp))))) sz v U ∧ True) (xQp D κ a uh ur un us uo r' (va_A (WH κ a uh ++ (WR κ a ur ++ (WN κ a un ++ (WS κ a us ++ (WO κ a uo ++ wp))))) sz)) 13 2543 (va_A (WH κ a uh ++ (WR κ a ur ++ (WN κ a un ++ (WS κ a us ++ (WO κ a uo ++ wp))))) sz) := by
  refine x_ofWG (X := fun _ => True) (cc := cX4_coming) (maxL := 6) (ret := some .int) (Qf := fun A => xQp D κ a uh ur un us uo r' A) (by decide) rfl (Nat.le_of_ble_eq_true rfl) ?_
  intro p e s m below meth c hx hb hr hlk hml hnm hown hts hK _ A hA H locs hG ls hl
  have hl : lv_has ls 6 [(0, .ref (a 25)), (1, .int p1)] := hl
  have hown : s.vm.findClass RX4 = some m.cls := hown

  have P17 : ∀ (b : Nat → Nat) (x1 : Int32) (uk : HS), f_X4_coming_P x1  uk = some (r', uk') → ∀ (H : Heap) (locs : List Loc) (ls : Array Slot), xG D A s.heap (WH κ a uh ++ (WR κ a ur ++ (WN κ a un ++ (WS κ a us ++ (WO κ a (uo.setPaper (some (b 0))) ++ WH κ b uk))))) H locs → lv_has ls 6 [(0, .ref (a 25)), (1, .int x1), (2, .ref (b 0))] → W p l e ({ frames := 6, cells := 13, slots := 2543, locals := 140 } : Room) s m (([.ref (a 25), .int p1] : List Value).toArray) below meth c H locs 13 2543 (MQ below (xQp D κ a uh ur un us uo r' A) (([.ref (a 25), .int p1] : List Value).toArray) s 13 2543 A) (F0 m 17 ls []) := by
    intro b x1 uk hf H locs ls hG hl
    have L60 : ∀ (rec22 : Int32 → Int32 → HS → Option (Int32 × HS)) (hr22 : ∀ (y3 : Int32) (y4 : Int32) (uk : HS), rec22 y3 y4 uk = some (r', uk') → ∀ (H : Heap) (locs : List Loc) (ls : Array Slot), xG D A s.heap (WH κ a uh ++ (WR κ a ur ++ (WN κ a un ++ (WS κ a us ++ (WO κ a (uo.setPaper (some (b 0))) ++ (WH κ b uk)))))) H locs → lv_has ls 6 [(2, .ref (b 0)), (3, .int y3), (4, .int y4)] → W p l e ({ frames := 6, cells := 13, slots := 2543, locals := 140 } : Room) s m (([.ref (a 25), .int p1] : List Value).toArray) below meth c H locs 13 2543 (MQ below (xQp D κ a uh ur un us uo r' A) (([.ref (a 25), .int p1] : List Value).toArray) s 13 2543 A) (F0 m 22 ls [])), ∀ (x4 : Int32) (s0 : Int32) (s1 : Int32) (uk : HS), f_X4_coming_P_60 rec22 x4 s0 s1 uk = some (r', uk') → ∀ (H : Heap) (locs : List Loc) (ls : Array Slot), xG D A s.heap (WH κ a uh ++ (WR κ a ur ++ (WN κ a un ++ (WS κ a us ++ (WO κ a (uo.setPaper (some (b 0))) ++ (WH κ b uk)))))) H locs → lv_has ls 6 [(2, .ref (b 0)), (4, .int x4)] → W p l e ({ frames := 6, cells := 13, slots := 2543, locals := 140 } : Room) s m (([.ref (a 25), .int p1] : List Value).toArray) below meth c H locs 13 2543 (MQ below (xQp D κ a uh ur un us uo r' A) (([.ref (a 25), .int p1] : List Value).toArray) s 13 2543 A) (F0 m 60 ls [.int s1, .int s0]) := by
      intro rec22 hr22 x4 s0 s1 uk hf H locs ls hG hl
      unfold f_X4_coming_P_60 at hf
      refine lv_isub hx hb dX4_coming_60 ?_
      refine lv_topi (fun y1 ey1 => ?_)
      replace hf := bnd_at ey1 hf
      refine lv_istore_n (lv' := [(3, .int y1), (2, .ref (b 0)), (4, .int x4)]) hx hb dX4_coming_61 rfl hl (by decide) rfl (fun ls hl => ?_)
      obtain ⟨y2, ey2, hf⟩ := bnd_e hf
      refine lv_iinc (v := y2) (lv' := [(4, .int y2), (3, .int y1), (2, .ref (b 0))]) hx hb dX4_coming_62 hl (k := 2) rfl (by rw [ey2]; rfl) (by decide) rfl (fun ls hl => ?_)
      refine lv_goto (tgt := 22) hx hb dX4_coming_65 (by decide) ?_
      exact hr22 y1 y2 uk hf H locs ls hG (lv_sub hl [2, 1, 0] rfl)
    have L48 : ∀ (rec22 : Int32 → Int32 → HS → Option (Int32 × HS)) (hr22 : ∀ (y3 : Int32) (y4 : Int32) (uk : HS), rec22 y3 y4 uk = some (r', uk') → ∀ (H : Heap) (locs : List Loc) (ls : Array Slot), xG D A s.heap (WH κ a uh ++ (WR κ a ur ++ (WN κ a un ++ (WS κ a us ++ (WO κ a (uo.setPaper (some (b 0))) ++ (WH κ b uk)))))) H locs → lv_has ls 6 [(2, .ref (b 0)), (3, .int y3), (4, .int y4)] → W p l e ({ frames := 6, cells := 13, slots := 2543, locals := 140 } : Room) s m (([.ref (a 25), .int p1] : List Value).toArray) below meth c H locs 13 2543 (MQ below (xQp D κ a uh ur un us uo r' A) (([.ref (a 25), .int p1] : List Value).toArray) s 13 2543 A) (F0 m 22 ls [])), ∀ (x3 : Int32) (x4 : Int32) (x5 : Int32) (uk : HS), f_X4_coming_P_48 rec22 x3 x4 x5 uk = some (r', uk') → ∀ (H : Heap) (locs : List Loc) (ls : Array Slot), xG D A s.heap (WH κ a uh ++ (WR κ a ur ++ (WN κ a un ++ (WS κ a us ++ (WO κ a (uo.setPaper (some (b 0))) ++ (WH κ b uk)))))) H locs → lv_has ls 6 [(2, .ref (b 0)), (3, .int x3), (4, .int x4), (5, .int x5)] → W p l e ({ frames := 6, cells := 13, slots := 2543, locals := 140 } : Room) s m (([.ref (a 25), .int p1] : List Value).toArray) below meth c H locs 13 2543 (MQ below (xQp D κ a uh ur un us uo r' A) (([.ref (a 25), .int p1] : List Value).toArray) s 13 2543 A) (F0 m 48 ls []) := by
      intro rec22 hr22 x3 x4 x5 uk hf H locs ls hG hl
      unfold f_X4_coming_P_48 at hf
      refine lv_iload_n hx hb dX4_coming_48 rfl (lv_at hl 1 rfl) ?_
      refine lv_iload hx hb dX4_coming_49 (lv_at hl 3 rfl) ?_
      refine lv_iconst (v := (-1)) hx hb dX4_coming_51 (by decide) ?_
      refine lv_icmp_ne (tgt := 59) hx hb dX4_coming_52 (by decide) (fun c3 => ?_) (fun c3 => ?_)
      · replace hf := if_f c3 hf
        refine lv_iconst (v := 1) hx hb dX4_coming_59 (by decide) ?_
        exact L60 rec22 hr22  x4 x3 1 uk hf H locs ls hG (lv_sub hl [0, 2] rfl)
      · replace hf := if_t c3 hf
        refine lv_iconst (v := 0) hx hb dX4_coming_55 (by decide) ?_
        refine lv_goto (tgt := 60) hx hb dX4_coming_56 (by decide) ?_
        exact L60 rec22 hr22  x4 x3 0 uk hf H locs ls hG (lv_sub hl [0, 2] rfl)
    have L22 : ∀ (n : Nat), ∀ (x3 : Int32) (x4 : Int32) (uk : HS), f_X4_coming_P_22 n x3 x4 uk = some (r', uk') → ∀ (H : Heap) (locs : List Loc) (ls : Array Slot), xG D A s.heap (WH κ a uh ++ (WR κ a ur ++ (WN κ a un ++ (WS κ a us ++ (WO κ a (uo.setPaper (some (b 0))) ++ (WH κ b uk)))))) H locs → lv_has ls 6 [(2, .ref (b 0)), (3, .int x3), (4, .int x4)] → W p l e ({ frames := 6, cells := 13, slots := 2543, locals := 140 } : Room) s m (([.ref (a 25), .int p1] : List Value).toArray) below meth c H locs 13 2543 (MQ below (xQp D κ a uh ur un us uo r' A) (([.ref (a 25), .int p1] : List Value).toArray) s 13 2543 A) (F0 m 22 ls []) := by
      intro  n
      induction n with
      | zero => intro x3 x4 uk hf; cases hf
      | succ n ih =>
        intro x3 x4 uk hf H locs ls hG hl
        replace hf : f_X4_coming_P_B22 (f_X4_coming_P_22 n) x3 x4 uk = some (r', uk') := hf
        unfold f_X4_coming_P_B22 at hf
        refine lv_iload hx hb dX4_coming_22 (lv_at hl 2 rfl) ?_
        refine lv_bipush (v := 60) hx hb dX4_coming_24 (by decide) ?_
        refine lv_icmp_ge (tgt := 68) hx hb dX4_coming_26 (by decide) (fun c4 => ?_) (fun c4 => ?_)
        · replace hf := if_t c4 hf
          refine lv_iconst (v := (-1)) hx hb dX4_coming_68 (by decide) ?_
          have z0 := (Prod.mk.inj (Option.some.inj hf)).1
          exact W.iret (v := (-1)) hx hb hr (fun t ht hW => ⟨⟨(-1), (some (b 0), WH κ b uk, uk), rfl, ⟨z0, Or.inr ⟨b, rfl, rfl⟩⟩, by rw [ht]; exact hG.1, va_K.moved hW.alike hK, hG.2.1⟩, hG.2.2.F ht⟩) hG.2.2.2.2 dX4_coming_69 hlk
        · replace hf := if_f c4 hf
          refine lv_aload_n hx hb dX4_coming_29 rfl (lv_at hl 0 rfl) ?_
          obtain ⟨r5, uk6, q7, hf⟩ := cl2_e hf
          refine x_callVi (pre := WH κ a uh ++ (WR κ a ur ++ (WN κ a un ++ (WS κ a us ++ (WO κ a (uo.setPaper (some (b 0)))))))) (wc := WH κ b uk) (wc1 := WH κ b uk6) (post := ([] : va_W)) (As := []) (rest := []) (w1 := WH κ a uh ++ (WR κ a ur ++ (WN κ a un ++ (WS κ a us ++ (WO κ a (uo.setPaper (some (b 0))) ++ (WH κ b uk6)))))) ⟨hx, hb, hml, hown, hts⟩ hK hG hA (by simp only [List.append_assoc, List.nil_append, List.append_nil]) (by simp only [List.append_assoc, List.nil_append, List.append_nil]) (c_X0_callNext l D κ b H.size uk r5 uk6 q7) (cwV 0 hts gX4_coming_X0_callNext rfl rfl rfl (by decide +kernel) ⟨Nat.le_of_ble_eq_true rfl, Nat.le_of_ble_eq_true rfl⟩) 0 0 rfl rfl rfl rfl hl.1 rfl (Nat.le_of_ble_eq_true rfl) dX4_coming_30 ⟨Nat.le_of_ble_eq_true rfl, Nat.le_of_ble_eq_true rfl⟩ (fun H locs hG => ?_)
          refine lv_istore (lv' := [(5, .int r5), (2, .ref (b 0)), (3, .int x3), (4, .int x4)]) hx hb dX4_coming_33 hl (by decide) rfl (fun ls hl => ?_)
          refine lv_iload hx hb dX4_coming_35 (lv_at hl 0 rfl) ?_
          refine lv_iconst (v := (-1)) hx hb dX4_coming_37 (by decide) ?_
          refine lv_icmp_eq (tgt := 48) hx hb dX4_coming_38 (by decide) (fun c8 => ?_) (fun c8 => ?_)
          · replace hf := if_t c8 hf
            exact L48 (f_X4_coming_P_22 n) ih  x3 x4 r5 uk6 hf H locs ls hG (lv_sub hl [1, 2, 3, 0] rfl)
          · replace hf := if_f c8 hf
            refine lv_iload_n hx hb dX4_coming_41 rfl (lv_at hl 2 rfl) ?_
            refine lv_if_ne (tgt := 48) hx hb dX4_coming_42 (by decide) (fun c9 => ?_) (fun c9 => ?_)
            · replace hf := if_f c9 hf
              exact L48 (f_X4_coming_P_22 n) ih  x3 x4 r5 uk6 hf H locs ls hG (lv_sub hl [1, 2, 3, 0] rfl)
            · replace hf := if_t c9 hf
              refine lv_iload hx hb dX4_coming_45 (lv_at hl 0 rfl) ?_
              have z0 := (Prod.mk.inj (Option.some.inj hf)).1
              exact W.iret (v := r5) hx hb hr (fun t ht hW => ⟨⟨r5, (some (b 0), WH κ b uk6, uk6), rfl, ⟨z0, Or.inr ⟨b, rfl, rfl⟩⟩, by rw [ht]; exact hG.1, va_K.moved hW.alike hK, hG.2.1⟩, hG.2.2.F ht⟩) hG.2.2.2.2 dX4_coming_47 hlk
    unfold f_X4_coming_P at hf
    refine lv_iload_n hx hb dX4_coming_17 rfl (lv_at hl 1 rfl) ?_
    refine lv_istore_n (lv' := [(3, .int x1), (0, .ref (a 25)), (1, .int x1), (2, .ref (b 0))]) hx hb dX4_coming_18 rfl hl (by decide) rfl (fun ls hl => ?_)
    refine lv_iconst (v := 0) hx hb dX4_coming_19 (by decide) ?_
    refine lv_istore (lv' := [(4, .int 0), (3, .int x1), (0, .ref (a 25)), (1, .int x1), (2, .ref (b 0))]) hx hb dX4_coming_20 hl (by decide) rfl (fun ls hl => ?_)
    exact L22  FU x1 0 uk hf H locs ls hG (lv_sub hl [4, 1, 0] rfl)
  generalize hU : u1.setSteps 0 = uk at hf
  unfold f_X4_coming at hf
  refine lv_iload_n hx hb dX4_coming_0 rfl (lv_at hl 1 rfl) ?_
  refine lv_if_lt (tgt := 10) hx hb dX4_coming_1 (by decide) (fun c1 => ?_) (fun c1 => ?_)
  · replace hf := if_t c1 hf
    refine lv_iconst (v := (-1)) hx hb dX4_coming_10 (by decide) ?_
    have z0 := (Prod.mk.inj (Option.some.inj hf)).1
    refine W.widen (k := 13) (n := 2543) (Nat.zero_le _) (Nat.zero_le _) ?_
    exact W.iret (v := (-1)) hx hb hr (fun t ht hW => ⟨⟨(-1), (uo.paper, wp, u0), rfl, ⟨z0, hpp⟩, by rw [ht]; exact hG.1, va_K.moved hW.alike hK, hG.2.1⟩, hG.2.2.F ht⟩) hG.2.2.2.2 dX4_coming_11 hlk
  · replace hf := if_f c1 hf
    refine lv_iload_n hx hb dX4_coming_4 rfl (lv_at hl 1 rfl) ?_
    refine lv_bipush (v := 60) hx hb dX4_coming_5 (by decide) ?_
    refine lv_icmp_lt (tgt := 12) hx hb dX4_coming_7 (by decide) (fun c2 => ?_) (fun c2 => ?_)
    · replace hf := if_t c2 hf
      refine lv_aload_n hx hb dX4_coming_12 rfl (lv_at hl 0 rfl) ?_
      refine x_callVr (S := Nat → Nat) (X := fun b ra => ra = b 0) (F := fun b => WH κ a uh ++ (WR κ a ur ++ (WN κ a un ++ (WS κ a us ++ (WO κ a (uo.setPaper (some (b 0))) ++ WH κ b (u1.setSteps 0)))))) (As := []) (rest := []) ⟨hx, hb, hml, hown, hts⟩ hK hG hA (c_X4_onPaper l D κ a H.size uh ur un us uo wp u0 u1 hpp hcp) (cwV 0 hts gX4_coming_X4_onPaper rfl rfl rfl (by decide +kernel) ⟨Nat.le_of_ble_eq_true rfl, Nat.le_of_ble_eq_true rfl⟩) 25 4 rfl rfl rfl rfl hl.1 rfl (Nat.le_of_ble_eq_true rfl) dX4_coming_13 ⟨Nat.le_of_ble_eq_true rfl, Nat.le_of_ble_eq_true rfl⟩ (fun b ra H locs hra hG => ?_)
      subst hra
      rw [hU] at hG
      refine W.widen (k := 13) (n := 2543) (Nat.le_of_ble_eq_true rfl) (Nat.le_of_ble_eq_true rfl) ?_
      refine lv_astore_n (lv' := [(2, .ref (b 0)), (0, .ref (a 25)), (1, .int p1)]) hx hb dX4_coming_16 rfl hl (by decide) rfl (fun ls hl => ?_)
      exact P17 b p1 uk hf H locs ls hG (lv_sub hl [1, 2, 0] rfl)
    · replace hf := if_f c2 hf
      refine lv_iconst (v := (-1)) hx hb dX4_coming_10 (by decide) ?_
      have z0 := (Prod.mk.inj (Option.some.inj hf)).1
      refine W.widen (k := 13) (n := 2543) (Nat.zero_le _) (Nat.zero_le _) ?_
      exact W.iret (v := (-1)) hx hb hr (fun t ht hW => ⟨⟨(-1), (uo.paper, wp, u0), rfl, ⟨z0, hpp⟩, by rw [ht]; exact hG.1, va_K.moved hW.alike hK, hG.2.1⟩, hG.2.2.F ht⟩) hG.2.2.2.2 dX4_coming_11 hlk
