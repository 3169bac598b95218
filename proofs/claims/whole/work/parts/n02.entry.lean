/-! what stands at the law's entry -/
theorem lw_in {w : Cond} (i : Nat) (h : tables_1[i]? = some w) : w ∈ lw_tbl := List.mem_append_right _ (List.mem_of_getElem? h)
theorem lw_arrI {s : State} {args : Array Value} (h : (Cond.arrayClass .int).before args s = true) : ∃ cA, ArrOfT s cA .int ∧ va_RA s cA .int := by
  obtain ⟨cA, k, comp, h1, h2, h3⟩ := Cond.arrayClass_spec h
  exact ⟨cA, fun n z => ⟨fun k h => (by cases h), k, h2, comp, h3⟩, h1⟩
theorem lw_arrL {s : State} {args : Array Value} (h : (Cond.arrayClass .long).before args s = true) : ∃ cA, ArrOfT s cA .long ∧ va_RA s cA .long := by
  obtain ⟨cA, k, comp, h1, h2, h3⟩ := Cond.arrayClass_spec h
  exact ⟨cA, fun n z => ⟨fun k h => (by cases h), k, h2, comp, h3⟩, h1⟩
theorem lw_arrZ {s : State} {args : Array Value} (h : (Cond.arrayClass .boolean).before args s = true) : ∃ cA, ArrOfT s cA .boolean ∧ va_RA s cA .boolean := by
  obtain ⟨cA, k, comp, h1, h2, h3⟩ := Cond.arrayClass_spec h
  exact ⟨cA, fun n z => ⟨fun k h => (by cases h), k, h2, comp, h3⟩, h1⟩
theorem lw_arrO {C : String} {s : State} {args : Array Value} (h : (Cond.arrayOver (.object C)).before args s = true) : ∃ cA, ArrOfT s cA (.object C) ∧ va_RA s cA (.object C) := by
  obtain ⟨comp, cA, k, h1, h2, h3, h4, h5⟩ := Cond.arrayOver_spec h
  exact ⟨cA, fun n z => ⟨fun k h => (by cases h), k, h3, comp, h4⟩, k, comp, h3, h4, h1, h5⟩
set_option maxRecDepth 100000 in
set_option maxHeartbeats 4000000 in
theorem lw_K {s : State} {args : Array Value} (hts0 : ∀ w ∈ lw_tbl, w.before args s = true) : ∃ (D : va_G) (κ : Nat → ClassId), va_K D vwCl (xT κ) s := by
  obtain ⟨c0, i0, h0⟩ := u_known (C := RX0) (T := TX0) (N := 17) (n := 17) hts0 (fun w h => (xlw_X0 w h).1) (hts0 (.instantiable RX0 17) (lw_in 24 (by decide +kernel)))
  obtain ⟨c1, i1, h1⟩ := u_known (C := RX1) (T := TX1) (N := 3) (n := 3) hts0 (fun w h => (xlw_X1 w h).1) (hts0 (.instantiable RX1 3) (lw_in 111 (by decide +kernel)))
  obtain ⟨c2, i2, h2⟩ := u_known (C := RX2) (T := TX2) (N := 6) (n := 6) hts0 (fun w h => (xlw_X2 w h).1) (hts0 (.instantiable RX2 6) (lw_in 135 (by decide +kernel)))
  obtain ⟨c3, i3, h3⟩ := u_known (C := RX3) (T := TX3) (N := 8) (n := 8) hts0 (fun w h => (xlw_X3 w h).1) (hts0 (.instantiable RX3 8) (lw_in 161 (by decide +kernel)))
  obtain ⟨c4, i4, h4⟩ := u_known (C := RX4) (T := TX4) (N := 8) (n := 8) hts0 (fun w h => (xlw_X4 w h).1) (hts0 (.instantiable RX4 8) (lw_in 16 (by decide +kernel)))
  obtain ⟨c5, i5, h5⟩ := u_known (C := RX5) (T := TX5) (N := 27) (n := 27) hts0 (fun w h => (xlw_X5 w h).1) (hts0 (.instantiable RX5 27) (lw_in 808 (by decide +kernel)))
  obtain ⟨k0, g0⟩ := lw_arrI (hts0 (.arrayClass .int) (lw_in 107 (by decide +kernel)))
  obtain ⟨k1, g1⟩ := lw_arrL (hts0 (.arrayClass .long) (lw_in 108 (by decide +kernel)))
  obtain ⟨k2, g2⟩ := lw_arrZ (hts0 (.arrayClass .boolean) (lw_in 895 (by decide +kernel)))
  obtain ⟨k3, g3⟩ := lw_arrO (hts0 (.arrayOver (.object "SpineDesks$Hall")) (lw_in 109 (by decide +kernel)))
  obtain ⟨k4, g4⟩ := lw_arrO (hts0 (.arrayOver (.object "SpineDesks$Net")) (lw_in 133 (by decide +kernel)))
  refine ⟨(fun k => match k with | 0 => c0 | 1 => c1 | 2 => c2 | 3 => c3 | 4 => c4 | _ => c5, fun k => match k with | 0 => i0 | 1 => i1 | 2 => i2 | 3 => i3 | 4 => i4 | _ => i5), fun k => match k with | 0 => k0 | 1 => k1 | 2 => k2 | 3 => k3 | _ => k4, ?_, ?_⟩
  · intro k q hq
    match k, hq with
    | 0, hq => cases hq; exact h0
    | 1, hq => cases hq; exact h1
    | 2, hq => cases hq; exact h2
    | 3, hq => cases hq; exact h3
    | 4, hq => cases hq; exact h4
    | 5, hq => cases hq; exact h5
    | k + 6, hq => cases hq
  · intro k q hq
    match k, hq with
    | 0, hq => cases hq; exact g0
    | 1, hq => cases hq; exact g1
    | 2, hq => cases hq; exact g2
    | 3, hq => cases hq; exact g3
    | 4, hq => cases hq; exact g4
    | k + 5, hq => cases hq
set_option maxRecDepth 100000 in
set_option maxHeartbeats 4000000 in
theorem lw_TH {s : State} {b : Nat} (hts0 : ∀ w ∈ lw_tbl, w.before #[Value.ref b] s = true) (hgv : (Jvm.Cond.and given_1 narrow_1).before #[Value.ref b] s = true) : ∃ sa, xTH sa (fun q : Nat => s.heap.size ≤ q) s := by
  have hs := flat_of_before _ hgv
  have r1 : (Cond.isRef (.static Bundle.tN "UNASSIGNED_STACK" Bundle.steD)).before #[Value.ref b] s = true := hs _ (by decide +kernel)
  have r2 : (Cond.isRef (.static Bundle.tN "SUPPRESSED_SENTINEL" Bundle.listD)).before #[Value.ref b] s = true := hs _ (by decide +kernel)
  have r3 : (Cond.exactly (.string RX4 177) "java/lang/String").before #[Value.ref b] s = true := hs _ (by decide +kernel)
  obtain ⟨sa, -, -, -, e1, -⟩ := Cond.exactly_spec r3
  have hA : ∀ a : Nat, a < s.heap.size → ¬ (s.heap.size ≤ a) := fun a h => Nat.not_le.mpr h
  have i0 : (Cond.initialized Bundle.tN).before #[Value.ref b] s = true := hts0 _ (lw_in 9 (by decide +kernel))
  have n0 : va_Nw (.superclass Bundle.tN "java/lang/Object") s := hts0 (.superclass Bundle.tN "java/lang/Object") (lw_in 744 (by decide +kernel))
  have n1 : va_Nw (.declares (Bundle.initS xRTE)) s := hts0 (.declares (Bundle.initS xRTE)) (lw_in 726 (by decide +kernel))
  have n2 : va_Nw (.declares (Bundle.initS xEXC)) s := hts0 (.declares (Bundle.initS xEXC)) (lw_in 728 (by decide +kernel))
  have n3 : va_Nw (.declares (Bundle.initS Bundle.tN)) s := hts0 (.declares (Bundle.initS Bundle.tN)) (lw_in 730 (by decide +kernel))
  have n4 : va_Nw (.castable xNSE xNSE) s := hts0 (.castable xNSE xNSE) (lw_in 724 (by decide +kernel))
  have hNS : xNS s := List.forall_mem_cons.mpr ⟨n0, List.forall_mem_cons.mpr ⟨n1, List.forall_mem_cons.mpr ⟨n2, List.forall_mem_cons.mpr ⟨n3, List.forall_mem_cons.mpr ⟨n4, fun _ h => absurd h List.not_mem_nil⟩⟩⟩⟩⟩
  have j1 : (Cond.laysStatic Bundle.tN "UNASSIGNED_STACK" Bundle.steD).before #[Value.ref b] s = true := hts0 _ (lw_in 749 (by decide +kernel))
  have j2 : (Cond.laysStatic Bundle.tN "SUPPRESSED_SENTINEL" Bundle.listD).before #[Value.ref b] s = true := hts0 _ (lw_in 751 (by decide +kernel))
  have j3 : (Cond.stringRef RX4 177 "no such item").before #[Value.ref b] s = true := hts0 _ (lw_in 761 (by decide +kernel))
  exact ⟨sa, hNS, vx_Zqof j1 i0 r1 hA, vx_Zqof j2 i0 r2 hA, vk_R.of j3 e1⟩
set_option maxRecDepth 100000 in
set_option maxHeartbeats 4000000 in
theorem whole_start {p : Program} {e : Env} {s : State} {m : MethodId} {below : List Frame} {meth : Method} {c : Code} (l : Launch) (hflags : l.flags = flags0) {b L : Nat} {xs : Nat → Int32} (hL : L ≤ 2560) (C0 : lw_At p s m meth c b L xs) : W p l e room_1 s m #[Value.ref b] below meth c s.heap [] 0 0 (lw_Z below #[Value.ref b] s) (entryFrame m ([Value.ref b] : List Value).toArray 8) := by
  have C9 := C0
  obtain ⟨hx, hb, hr, hml, hown, hts0, hX, hbl, hlocks, hgv⟩ := C0
  have hown : s.vm.findClass RL = some m.cls := hown
  have hts : ∀ w ∈ wsLL, w.before #[Value.ref b] s = true := fun w h => hts0 w (xlw_LL w h)
  have hA : ∀ q : Nat, s.heap.size ≤ q → (fun q : Nat => s.heap.size ≤ q) q := fun _ h => h
  obtain ⟨D, κ, hK⟩ := lw_K hts0
  obtain ⟨sa, hTH⟩ := lw_TH hts0 hgv
  have hl0 : l.stackTraces = false := by unfold Launch.stackTraces; rw [hflags]; decide
  have o1 : va_AO "SpineDesks$Hall" s := va_AO.of (hts0 (.arrayOver (.object "SpineDesks$Hall")) (lw_in 109 (by decide +kernel)))
  have o2 : va_AO "SpineDesks$Net" s := va_AO.of (hts0 (.arrayOver (.object "SpineDesks$Net")) (lw_in 133 (by decide +kernel)))
  obtain ⟨uv', hf, hrel⟩ := rel_start
  have hG : xG D (fun q : Nat => s.heap.size ≤ q) s.heap [] s.heap [] := ⟨fun k q h => by simp at h, ⟨fun i j p q h => by simp at h, fun k q h => by simp at h⟩, va_S.rf⟩
  have hl := lv_entry ([.ref b]) (n := 8) (Nat.le_of_ble_eq_true rfl)
  rw [lg_entry_eq]
  generalize (lg_sl ([.ref b]) ++ List.replicate (8 - (lg_sl ([.ref b])).length) Slot.unset).toArray = ls at hl ⊢
  have hl : lv_has ls 8 [(0, .ref b)] := hl
  refine x_new (C := RX4) (T := TX4) (N := 8) (ci := 4) (fs := [.null, .null, .null, .null, .null, .null, .null, .null]) hx hb hts0 (fun w h => (xlw_X4 w h).1) tyX4 tyX4_ok hown (hts0 (.classLink RL 8 RX4) (lw_in 15 (by decide +kernel))) (hts0 (.instantiable RX4 8) (lw_in 16 (by decide +kernel))) (hts0 (.initialized RX4) (lw_in 1 (by decide +kernel))) hK hG hA rfl (by decide +kernel) (Nat.le_of_ble_eq_true rfl) (Nat.le_of_ble_eq_true rfl) dL_law_0 (fun o H hGo => ?_)
  replace hGo : xG D (fun q : Nat => s.heap.size ≤ q) s.heap [(o, .inr (4, [.null, .null, .null, .null, .null, .null, .null, .null]))] H [] := hGo
  refine W.widen (k := 1) (n := 8) (Nat.le_of_ble_eq_true rfl) (Nat.le_of_ble_eq_true rfl) ?_
  refine lv_dup hx hb dL_law_3 rfl ?_
  refine x_callI (S := Nat → Nat) (pre := []) (wc := [(o, .inr (4, [.null, .null, .null, .null, .null, .null, .null, .null]))]) (post := []) (As := []) (rest := [.ref o]) (F := fun a => WH κ a HZ ++ (WR κ a RZ ++ (WN κ a NZ ++ (WS κ a SZ ++ WO κ a OZ)))) ⟨hx, hb, hml, hown, hts⟩ hK (fun U h => ⟨va_AO.moved h o1, va_AO.moved h o2⟩) (fun U g mk a h => ⟨va_AO.moved (u := U) (U := U.calling g mk a) (Vm.Alike.refl U.vm) h.1, va_AO.moved (u := U) (U := U.calling g mk a) (Vm.Alike.refl U.vm) h.2⟩) hGo hA rfl (c_X4_init l D κ o H.size) (cwI 0 hts xg_X4_init rfl rfl rfl (hts0 (.initialized RX4) (lw_in 1 (by decide +kernel))) (hts0 (.methodLink RL 22 yX4_init) (lw_in 17 (by decide +kernel))) (hts0 (.instanceMethod yX4_init) (lw_in 18 (by decide +kernel))) rfl (by decide +kernel) ⟨(Nat.le_of_ble_eq_true rfl), (Nat.le_of_ble_eq_true rfl)⟩) rfl hl.1 rfl (Nat.le_of_ble_eq_true rfl) dL_law_4 ⟨(Nat.le_of_ble_eq_true rfl), (Nat.le_of_ble_eq_true rfl)⟩ (fun a H locs ha hG => ?_)
  replace hG : xG D (fun q : Nat => s.heap.size ≤ q) s.heap (WH κ a HZ ++ (WR κ a RZ ++ (WN κ a NZ ++ (WS κ a SZ ++ WO κ a OZ)))) H locs := by simpa only [List.append_assoc, List.nil_append, List.append_nil] using hG
  have ha : a 25 = o := ha
  subst ha
  refine W.widen (k := 29) (n := 3885) (Nat.le_of_ble_eq_true rfl) (Nat.le_of_ble_eq_true rfl) ?_
  refine lv_astore_n (lv' := [(1, .ref (a 25)), (0, .ref b)]) hx hb dL_law_7 rfl hl (by decide) rfl (fun ls hl => ?_)
  obtain ⟨w4, hw4⟩ : ∃ w4 : va_W, w4 = WH κ a HZ ++ (WR κ a RZ ++ (WN κ a NZ ++ (WS κ a SZ ++ WO κ a OZ))) := ⟨_, rfl⟩
  replace hG : xG D (fun q : Nat => s.heap.size ≤ q) s.heap w4 H locs := by rw [hw4]; exact hG
  refine x_new (C := RX5) (T := TX5) (N := 27) (ci := 5) (fs := [.int 0, .null, .null, .null, .null, .null, .null, .null, .null, .int 0, .int 0, .null, .null, .int 0, .null, .null, .null, .null, .null, .null, .null, .int 0, .int 0, .int 0, .int 0, .int 0, .int 0]) hx hb hts0 (fun w h => (xlw_X5 w h).1) tyX5 tyX5_ok hown (hts0 (.classLink RL 23 RX5) (lw_in 807 (by decide +kernel))) (hts0 (.instantiable RX5 27) (lw_in 808 (by decide +kernel))) (hts0 (.initialized RX5) (lw_in 7 (by decide +kernel))) hK hG hA rfl (by decide +kernel) (Nat.le_of_ble_eq_true rfl) (Nat.le_of_ble_eq_true rfl) dL_law_8 (fun om H hGm => ?_)
  refine W.widen (k := 30) (n := 3912) (Nat.le_of_ble_eq_true rfl) (Nat.le_of_ble_eq_true rfl) ?_
  refine lv_dup hx hb dL_law_11 rfl ?_
  refine x_callI (S := Nat → Nat) (pre := w4) (wc := [(om, .inr (5, [.int 0, .null, .null, .null, .null, .null, .null, .null, .null, .int 0, .int 0, .null, .null, .int 0, .null, .null, .null, .null, .null, .null, .null, .int 0, .int 0, .int 0, .int 0, .int 0, .int 0]))]) (post := []) (As := []) (rest := [.ref om]) (F := fun am => WM κ am uv') ⟨hx, hb, hml, hown, hts⟩ hK (fun _ _ => trivial) (fun _ _ _ _ h => h) hGm hA (by simp only [List.append_nil]) (c_X5_init l D κ om H.size uv' hf) (cwI 0 hts xg_X5_init rfl rfl rfl (hts0 (.initialized RX5) (lw_in 7 (by decide +kernel))) (hts0 (.methodLink RL 25 yX5_init) (lw_in 809 (by decide +kernel))) (hts0 (.instanceMethod yX5_init) (lw_in 810 (by decide +kernel))) rfl (by decide +kernel) ⟨(Nat.le_of_ble_eq_true rfl), (Nat.le_of_ble_eq_true rfl)⟩) rfl hl.1 rfl (Nat.le_of_ble_eq_true rfl) dL_law_12 ⟨(Nat.le_of_ble_eq_true rfl), (Nat.le_of_ble_eq_true rfl)⟩ (fun am H locs ham hG => ?_)
  replace hG : xG D (fun q : Nat => s.heap.size ≤ q) s.heap (w4 ++ WM κ am uv') H locs := by simpa only [List.append_nil] using hG
  have ham : am 0 = om := ham
  subst ham
  refine W.widen (k := 47) (n := 16850) (Nat.le_of_ble_eq_true rfl) (Nat.le_of_ble_eq_true rfl) ?_
  refine lv_astore_n (lv' := [(2, .ref (am 0)), (1, .ref (a 25)), (0, .ref b)]) hx hb dL_law_15 rfl hl (by decide) rfl (fun ls hl => ?_)
  refine lv_iconst (v := 1) hx hb dL_law_16 (by decide) ?_
  refine x_newal hx hb (hts0 (.arrayClass .long) (lw_in 108 (by decide +kernel))) hK hG hA (n := 1) (N := 1) (by decide) (by decide) (by exact (Nat.le_of_ble_eq_true rfl)) (by exact (Nat.le_of_ble_eq_true rfl)) (by exact (Nat.le_of_ble_eq_true rfl)) dL_law_17 (fun ad H hG => ?_)
  refine W.widen (k := 48 + 17 * 0) (n := 16900 + 2606 * 0) (Nat.le_of_ble_eq_true rfl) (Nat.le_of_ble_eq_true rfl) ?_
  refine lv_astore_n (lv' := [(3, .ref ad), (2, .ref (am 0)), (1, .ref (a 25)), (0, .ref b)]) hx hb dL_law_19 rfl hl (by decide) rfl (fun ls hl => ?_)
  refine lv_iconst (v := 0) hx hb dL_law_20 (by decide) ?_
  refine lv_istore (lv' := [(4, .int (nI (5 * 0))), (3, .ref ad), (2, .ref (am 0)), (1, .ref (a 25)), (0, .ref b)]) hx hb dL_law_21 hl (by decide) rfl (fun ls hl => ?_)
  have hGe : (w4 ++ WM κ am uv') ++ [(ad, .inl (κ 1, 1, .inr (.inl (fun _ => 0))))] = LW κ a am ad HZ RZ NZ SZ OZ uv' (fun _ => 0) [] [] [] := by
    rw [hw4]
    unfold LW
    simp only [List.append_assoc, List.append_nil]
  rw [hGe] at hG
  exact law_loop Rel rs_all (fun _ _ _ _ _ _ _ _ _ h => h.mono (Nat.le_succ _)) hL C9 hK hl0 hTH L 0 (by omega) (by omega) a am ad HZ RZ NZ SZ OZ uv' (fun _ => 0) [] [] [] HZ HZ HZ NZ NZ (hrel HZ NZ HZ NZ) (Or.inl ⟨rfl, rfl, rfl⟩) (Or.inl ⟨rfl, rfl, rfl, rfl, rfl⟩) (Or.inl ⟨rfl, rfl, rfl, rfl, rfl⟩) H locs ls hG (lv_sub hl [4, 3, 2, 1, 0] rfl)
