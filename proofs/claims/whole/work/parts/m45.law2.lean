section XE
variable {p : Program} {l : Launch} {e : Env} {R : Room} {s : State} {m : MethodId} {args : Array Value} {below : List Frame} {meth : Method} {c : Code} {H : Heap} {locs : List Loc} {cells slots : Nat} {Q : State → Prop}
variable {cc : ByteArray} {pc : Nat} {ls : Array Slot} {rest : List Value} {D : va_G} {κ : Nat → ClassId} {A : Nat → Prop} {w w1 : va_W} {H0 : Heap}
variable {y : MethodName} {bytes : ByteArray} {maxL nL n index mc ms : Nat} {ret : Option FieldType} {wsy : List Cond} {rm : Room} {Ts : List Cond} {own C : String} {b : Addr} {As st0 : List Value} {pre wc wc1 post : va_W} {X : State → Prop}
theorem x_callVe {S : Type} {post1 : Int32 → S → Prop} {F : S → va_W} (Sx : CallFix p m c cc nL s args Ts own) (hK : va_K D vwCl (xT κ) s) (hXb : ∀ (U : State) (g : JFrame) (mk : MethodId) (a : Array Value), X U → X (U.calling g mk a)) (hG : xG D A H0 w H locs) (hA : ∀ q : Nat, H0.size ≤ q → A q) (hw : w = pre ++ (wc ++ post)) (hX : ∀ U : State, U.heap = H → s.WarmedH U.vm → X U)
    (hM : Met l y wsy rm (fun a U => xPc D κ (.ref b :: As) wc H.size a U ∧ X U) (va_Qi post1 (fun u t => va_P D vwCl (F u) t.heap ∧ va_K D vwCl (xT κ) t ∧ va_D (va_A wc H.size) (F u)) (va_A wc H.size)) mc ms (va_A wc H.size)) (cw : CallW R s args own C index y bytes maxL ret wsy rm mc ms n) (q0 ci : Nat) {q : vw_C} {fs : List Value} (hq : wc[q0]? = some (b, .inr (ci, fs))) (hc : vwCl[ci]? = some q) (hC : q.1 = C)
    (hn : As.length = n) (hsz : ls.size = nL) (hst : st0 = As.reverse ++ .ref b :: rest) (hW : (rest.map fun v => v.category).sum ≤ 8) (hdg : decode cc pc = .ok (.invokevirtual index, 3)) (hcs : cells + mc ≤ R.cells ∧ slots + ms ≤ R.slots)
    (kk : ∀ (r : Int32) (u : S) (H1 : Heap) (locs1 : List Loc), post1 r u → xG D A H0 (pre ++ (F u ++ post)) H1 locs1 → W p l e R s m args below meth c H1 locs1 (cells + mc) (slots + ms) Q (F0 m (pc + 3) ls (.int r :: rest))) : W p l e R s m args below meth c H locs cells slots Q (F0 m pc ls st0) := by
  obtain ⟨hPc, hDc, hF, -⟩ := x_frame (wc1 := wc) hG hA hw
  subst hC
  refine va_calli (va_runV (As := As) (rest := rest) Sx hM cw ⟨fun a U g mk q => ⟨xPc_blind D κ _ wc _ a U g mk q.1, hXb U g mk a q.2⟩, va_recv hK hPc hc hq, fun U hU hW => ⟨⟨rfl, by rw [hU], by rw [hU]; exact hPc, va_K.moved hW.alike hK, hDc⟩, hX U hU hW⟩⟩ rfl hn hsz hst (lv_room hW) hdg hcs) hG.2.2 (fun q _ h => hF q h) hF (fun r_2 u t H1 locs ht hvm hpost hB hz1 hk1 hS => ?_)
  obtain ⟨hP1, hK1, hD1⟩ := hB
  rw [ht] at hP1
  obtain ⟨-, -, -, hj⟩ := x_frame (wc1 := F u) hG hA hw
  obtain ⟨hP2, hD2⟩ := hj H1 hk1 hP1 hD1
  exact kk r_2 u H1 locs hpost ⟨hP2, hD2, hS⟩
theorem x_callSW {hh : List (Nat × Nat × Nat × Nat)} {r : Int32} (Sx : CallFix p m c cc nL s args Ts own) (hK : va_K D vwCl (xT κ) s) (hXb : ∀ (U : State) (g : JFrame) (mk : MethodId) (a : Array Value), X U → X (U.calling g mk a)) (hG : xG D A H0 w H locs) (hA : ∀ q : Nat, H0.size ≤ q → A q) (hw : w = pre ++ (wc ++ post)) (hw1 : w1 = pre ++ (wc1 ++ post)) (hX : ∀ U : State, U.heap = H → s.WarmedH U.vm → X U)
    (hM : Met l y wsy rm (fun a U => xPc D κ As wc H.size a U ∧ X U) (xQi D κ r wc1 (va_A wc H.size)) mc ms (va_A wc H.size)) (cw : vx_CSW R s args own index y bytes maxL ret hh wsy rm mc ms n)
    (hn : As.length = n) (hsz : ls.size = nL) (hst : st0 = As.reverse ++ rest) (hW : (rest.map fun v => v.category).sum ≤ 8) (hdg : decode cc pc = .ok (.invokestatic index, 3)) (hcs : cells + mc ≤ R.cells ∧ slots + ms ≤ R.slots)
    (kk : ∀ (H1 : Heap) (locs1 : List Loc), xG D A H0 w1 H1 locs1 → W p l e R s m args below meth c H1 locs1 (cells + mc) (slots + ms) Q (F0 m (pc + 3) ls (.int r :: rest))) : W p l e R s m args below meth c H locs cells slots Q (F0 m pc ls st0) := by
  obtain ⟨hPc, hDc, hF, hj⟩ := x_frame (wc1 := wc1) hG hA hw
  refine va_calli (vx_runSW (As := As) (rest := rest) Sx hM cw ⟨fun a U g mk q => ⟨xPc_blind D κ _ wc _ a U g mk q.1, hXb U g mk a q.2⟩, fun U hU hW => ⟨⟨rfl, by rw [hU], by rw [hU]; exact hPc, va_K.moved hW.alike hK, hDc⟩, hX U hU hW⟩⟩ rfl hn hsz hst (lv_room hW) hdg hcs) hG.2.2 (fun q _ h => hF q h) hF (fun r_2 u t H1 locs ht hvm hpost hB hz1 hk1 hS => ?_)
  subst hpost
  obtain ⟨hP1, hK1, hD1⟩ := hB
  rw [ht] at hP1
  obtain ⟨hP2, hD2⟩ := hj H1 hk1 hP1 hD1
  exact kk H1 locs (by rw [hw1]; exact ⟨hP2, hD2, hS⟩)
end XE
theorem xq1 (V M O P K0 K1 : va_W) : (V ++ (M ++ (O ++ (P ++ (K0 ++ K1))))).Perm ((V ++ P) ++ (M ++ (O ++ (K0 ++ K1)))) := by
  rw [List.append_assoc]
  have h := List.perm_append_comm_assoc (M ++ O) P (K0 ++ K1)
  simp only [List.append_assoc] at h
  exact h.append_left V
theorem xq2 (V M O P K0 K1 : va_W) : (V ++ (M ++ (O ++ (P ++ (K0 ++ K1))))).Perm ((V ++ K0) ++ (M ++ (O ++ (P ++ K1)))) := by
  rw [List.append_assoc]
  have h := List.perm_append_comm_assoc (M ++ (O ++ P)) K0 K1
  simp only [List.append_assoc] at h
  exact h.append_left V
theorem xq3 (V M O P K0 K1 : va_W) : (V ++ (M ++ (O ++ (P ++ (K0 ++ K1))))).Perm ((V ++ K1) ++ (M ++ (O ++ (P ++ K0)))) := by
  rw [List.append_assoc]
  have h : ((M ++ (O ++ (P ++ K0))) ++ K1).Perm (K1 ++ (M ++ (O ++ (P ++ K0)))) := List.perm_append_comm
  simp only [List.append_assoc] at h
  exact h.append_left V
theorem xq4 (V M O P K0 K1 : va_W) : (V ++ (M ++ (O ++ (P ++ (K0 ++ K1))))).Perm ((V ++ O) ++ (M ++ (P ++ (K0 ++ K1)))) := by
  rw [List.append_assoc]
  exact (List.perm_append_comm_assoc M O (P ++ (K0 ++ K1))).append_left V
theorem xasc (U R N S O K Y : va_W) : ((U ++ (R ++ (N ++ (S ++ O)))) ++ K) ++ Y = [] ++ ((U ++ (R ++ (N ++ (S ++ (O ++ K))))) ++ Y) := by simp only [List.append_assoc, List.nil_append]

set_option maxRecDepth 100000 in
set_option maxHeartbeats 4000000 in
theorem law_c28 (Rel : Nat → HS → NS → OS → HS → NS → HS → NS → MS → Prop) (hR : RS_melding Rel) {p : Program} {l : Launch} {e : Env} {s : State} {m : MethodId} {below : List Frame} {meth : Method} {c : Code} {D : va_G} {κ : Nat → ClassId} {b L : Nat} {xs : Nat → Int32} (hL : L ≤ 2560) (C9 : lw_At p s m meth c b L xs) (hK : va_K D vwCl (xT κ) s) (j : Nat) (hj : 5 * j + 5 ≤ L) (hnext : LAt Rel D κ p l e s m below meth c b 1805 j (j + 1)) : LAt Rel D κ p l e s m below meth c b 1322 j j := by
  obtain ⟨hx, hb, hr, hml, hown, hts0, hX, hbl, hlocks, hgv⟩ := C9
  have hts : ∀ w ∈ wsLL, w.before #[Value.ref b] s = true := fun w h => hts0 w (xlw_LL w h)
  have hA : ∀ q : Nat, s.heap.size ≤ q → (fun q : Nat => s.heap.size ≤ q) q := fun _ h => h
  intro a am ad uh ur un us uo uv fo wp wk0 wk1 pu u0 u1 n0 n1 hrel hpap hk0 hk1 H locs ls hG hl
  have hcc : 48 + 17 * (j + 1) ≤ room_1.cells := by show _ ≤ 601024; omega
  have hss : 16900 + 2606 * (j + 1) ≤ room_1.slots := by show _ ≤ 7293034; omega
  refine lv_aload_n hx hb dL_law_1322 rfl (lv_at hl 1 rfl) ?_
  refine lv_aload_n hx hb dL_law_1323 rfl (lv_at hl 0 rfl) ?_
  refine lv_iload hx hb dL_law_1324 (lv_at hl 4 rfl) ?_
  refine lv_iconst (v := 1) hx hb dL_law_1326 (by decide) ?_
  refine lv_iadd hx hb dL_law_1327 ?_
  refine x_sld (kn := 1) (by decide) (by decide) hj hL hx hb hX hbl hG.2.2 dL_law_1328 (fun x5_1 ex5_1 => ?_)
  refine lv_aload_n hx hb dL_law_1329 rfl (lv_at hl 0 rfl) ?_
  refine lv_iload hx hb dL_law_1330 (lv_at hl 4 rfl) ?_
  refine lv_iconst (v := 2) hx hb dL_law_1332 (by decide) ?_
  refine lv_iadd hx hb dL_law_1333 ?_
  refine x_sld (kn := 2) (by decide) (by decide) hj hL hx hb hX hbl hG.2.2 dL_law_1334 (fun x10_2 ex10_2 => ?_)
  refine lv_aload_n hx hb dL_law_1335 rfl (lv_at hl 0 rfl) ?_
  refine lv_iload hx hb dL_law_1336 (lv_at hl 4 rfl) ?_
  refine lv_iconst (v := 3) hx hb dL_law_1338 (by decide) ?_
  refine lv_iadd hx hb dL_law_1339 ?_
  refine x_sld (kn := 3) (by decide) (by decide) hj hL hx hb hX hbl hG.2.2 dL_law_1340 (fun x15_3 ex15_3 => ?_)
  obtain ⟨r, k1, k2, uv', hcp, hf4, hf5, hrel⟩ := hR j x5_1 x10_2 x15_3 uh ur un us uo u0 n0 u1 n1 uv pu (by omega) hrel
  have hG : xG D (fun q : Nat => s.heap.size ≤ q) s.heap ([] ++ ((WH κ a uh ++ (WR κ a ur ++ (WN κ a un ++ (WS κ a us ++ (WO κ a uo ++ wp))))) ++ (WM κ am uv ++ ([(ad, .inl (κ 1, 1, .inr (.inl fo)))] ++ (wk0 ++ wk1))))) H locs := by rw [← xasc]; exact xG_perm (xq1 _ _ _ _ _ _) hG
  refine x_callVe (X := fun _ => True) (S := Option Nat × va_W × HS) (pre := []) (wc := WH κ a uh ++ (WR κ a ur ++ (WN κ a un ++ (WS κ a us ++ (WO κ a uo ++ wp))))) (post := WM κ am uv ++ ([(ad, .inl (κ 1, 1, .inr (.inl fo)))] ++ (wk0 ++ wk1))) (As := [.int x5_1, .int x10_2, .int x15_3]) (rest := []) (F := fun u => WH κ a uh ++ (WR κ a ur ++ (WN κ a un ++ (WS κ a us ++ (WO κ a (uo.setPaper u.1) ++ u.2.1))))) ⟨hx, hb, hml, hown, hts⟩ hK (fun _ _ _ _ h => h) hG hA rfl (fun _ _ _ => trivial) (c_X4_melding l D κ a H.size x5_1 x10_2 x15_3 uh ur un us uo wp pu k1 r k2 hpap hcp hf4) (cwV 3 hts xG_X4_melding rfl rfl rfl (by decide +kernel) ⟨Nat.le_of_ble_eq_true rfl, Nat.le_of_ble_eq_true rfl⟩) 25 4 rfl rfl rfl rfl hl.1 rfl (Nat.le_of_ble_eq_true rfl) dL_law_1341 ⟨by omega, by omega⟩ (fun r2 u H locs hpost hG => ?_)
  obtain ⟨rfl, hpap⟩ := hpost
  obtain ⟨pp, wq, pv⟩ := u
  have hG : xG D (fun q : Nat => s.heap.size ≤ q) s.heap (LW κ a am ad uh ur un us (uo.setPaper pp) uv fo wq wk0 wk1) H locs := by rw [← xasc] at hG; exact xG_perm (xq1 _ _ _ _ _ _).symm hG
  refine lv_aload_n hx hb dL_law_1344 rfl (lv_at hl 2 rfl) ?_
  refine lv_aload_n hx hb dL_law_1345 rfl (lv_at hl 0 rfl) ?_
  refine lv_iload hx hb dL_law_1346 (lv_at hl 4 rfl) ?_
  refine lv_iconst (v := 1) hx hb dL_law_1348 (by decide) ?_
  refine lv_iadd hx hb dL_law_1349 ?_
  refine x_sld (kn := 1) (by decide) (by decide) hj hL hx hb hX hbl hG.2.2 dL_law_1350 (fun x27_1 ex27_1 => ?_)
  refine lv_aload_n hx hb dL_law_1351 rfl (lv_at hl 0 rfl) ?_
  refine lv_iload hx hb dL_law_1352 (lv_at hl 4 rfl) ?_
  refine lv_iconst (v := 2) hx hb dL_law_1354 (by decide) ?_
  refine lv_iadd hx hb dL_law_1355 ?_
  refine x_sld (kn := 2) (by decide) (by decide) hj hL hx hb hX hbl hG.2.2 dL_law_1356 (fun x32_2 ex32_2 => ?_)
  refine lv_aload_n hx hb dL_law_1357 rfl (lv_at hl 0 rfl) ?_
  refine lv_iload hx hb dL_law_1358 (lv_at hl 4 rfl) ?_
  refine lv_iconst (v := 3) hx hb dL_law_1360 (by decide) ?_
  refine lv_iadd hx hb dL_law_1361 ?_
  refine x_sld (kn := 3) (by decide) (by decide) hj hL hx hb hX hbl hG.2.2 dL_law_1362 (fun x37_3 ex37_3 => ?_)
  obtain rfl : x5_1 = x27_1 := ex5_1.trans ex27_1.symm
  obtain rfl : x10_2 = x32_2 := ex10_2.trans ex32_2.symm
  obtain rfl : x15_3 = x37_3 := ex15_3.trans ex37_3.symm
  refine x_callVi (pre := WH κ a uh ++ (WR κ a ur ++ (WN κ a un ++ (WS κ a us ++ WO κ a (uo.setPaper pp))))) (wc := WM κ am uv) (wc1 := WM κ am uv') (post := ([(ad, .inl (κ 1, 1, .inr (.inl fo)))] ++ (wq ++ (wk0 ++ wk1)))) (As := [.int x5_1, .int x10_2, .int x15_3]) (rest := [.int r2]) (w1 := LW κ a am ad uh ur un us (uo.setPaper pp) uv' fo wq wk0 wk1) ⟨hx, hb, hml, hown, hts⟩ hK hG hA rfl rfl (c_X5_melding l D κ am H.size x5_1 x10_2 x15_3 uv r2 uv' hf5) (cwV 3 hts xG_X5_melding rfl rfl rfl (by decide +kernel) ⟨Nat.le_of_ble_eq_true rfl, Nat.le_of_ble_eq_true rfl⟩) 0 5 rfl rfl rfl rfl hl.1 rfl (Nat.le_of_ble_eq_true rfl) dL_law_1363 ⟨by omega, by omega⟩ (fun H locs hG => ?_)
  refine lv_icmp_eq (tgt := 1805) hx hb dL_law_1366 (by decide) (fun c1 => ?_) (fun c1 => absurd rfl c1)
  refine W.widen (k := 48 + 17 * (j + 1)) (n := 16900 + 2606 * (j + 1)) (by omega) (by omega) ?_
  exact hnext a am ad uh ur un us (uo.setPaper pp) uv' fo wq wk0 wk1 pv u0 u1 n0 n1 (hrel pp) hpap hk0 hk1 H locs ls hG hl
set_option maxRecDepth 100000 in
set_option maxHeartbeats 4000000 in
theorem law_c29 (Rel : Nat → HS → NS → OS → HS → NS → HS → NS → MS → Prop) (hR : RS_taking Rel) {p : Program} {l : Launch} {e : Env} {s : State} {m : MethodId} {below : List Frame} {meth : Method} {c : Code} {D : va_G} {κ : Nat → ClassId} {b L : Nat} {xs : Nat → Int32} (hL : L ≤ 2560) (C9 : lw_At p s m meth c b L xs) (hK : va_K D vwCl (xT κ) s) (j : Nat) (hj : 5 * j + 5 ≤ L) (hnext : LAt Rel D κ p l e s m below meth c b 1805 j (j + 1)) : LAt Rel D κ p l e s m below meth c b 1371 j j := by
  obtain ⟨hx, hb, hr, hml, hown, hts0, hX, hbl, hlocks, hgv⟩ := C9
  have hts : ∀ w ∈ wsLL, w.before #[Value.ref b] s = true := fun w h => hts0 w (xlw_LL w h)
  have hA : ∀ q : Nat, s.heap.size ≤ q → (fun q : Nat => s.heap.size ≤ q) q := fun _ h => h
  intro a am ad uh ur un us uo uv fo wp wk0 wk1 pu u0 u1 n0 n1 hrel hpap hk0 hk1 H locs ls hG hl
  have hcc : 48 + 17 * (j + 1) ≤ room_1.cells := by show _ ≤ 601024; omega
  have hss : 16900 + 2606 * (j + 1) ≤ room_1.slots := by show _ ≤ 7293034; omega
  refine lv_aload_n hx hb dL_law_1371 rfl (lv_at hl 1 rfl) ?_
  refine lv_aload_n hx hb dL_law_1372 rfl (lv_at hl 0 rfl) ?_
  refine lv_iload hx hb dL_law_1373 (lv_at hl 4 rfl) ?_
  refine lv_iconst (v := 1) hx hb dL_law_1375 (by decide) ?_
  refine lv_iadd hx hb dL_law_1376 ?_
  refine x_sld (kn := 1) (by decide) (by decide) hj hL hx hb hX hbl hG.2.2 dL_law_1377 (fun x5_1 ex5_1 => ?_)
  obtain ⟨r, k1, k2, uv', hcp, hf4, hf5, hrel⟩ := hR j x5_1 uh ur un us uo u0 n0 u1 n1 uv pu (by omega) hrel
  have hG : xG D (fun q : Nat => s.heap.size ≤ q) s.heap ([] ++ ((WH κ a uh ++ (WR κ a ur ++ (WN κ a un ++ (WS κ a us ++ (WO κ a uo ++ wp))))) ++ (WM κ am uv ++ ([(ad, .inl (κ 1, 1, .inr (.inl fo)))] ++ (wk0 ++ wk1))))) H locs := by rw [← xasc]; exact xG_perm (xq1 _ _ _ _ _ _) hG
  refine x_callVe (X := fun _ => True) (S := Option Nat × va_W × HS) (pre := []) (wc := WH κ a uh ++ (WR κ a ur ++ (WN κ a un ++ (WS κ a us ++ (WO κ a uo ++ wp))))) (post := WM κ am uv ++ ([(ad, .inl (κ 1, 1, .inr (.inl fo)))] ++ (wk0 ++ wk1))) (As := [.int x5_1]) (rest := []) (F := fun u => WH κ a uh ++ (WR κ a ur ++ (WN κ a un ++ (WS κ a us ++ (WO κ a (uo.setPaper u.1) ++ u.2.1))))) ⟨hx, hb, hml, hown, hts⟩ hK (fun _ _ _ _ h => h) hG hA rfl (fun _ _ _ => trivial) (c_X4_taking l D κ a H.size x5_1 uh ur un us uo wp pu k1 r k2 hpap hcp hf4) (cwV 1 hts xG_X4_taking rfl rfl rfl (by decide +kernel) ⟨Nat.le_of_ble_eq_true rfl, Nat.le_of_ble_eq_true rfl⟩) 25 4 rfl rfl rfl rfl hl.1 rfl (Nat.le_of_ble_eq_true rfl) dL_law_1378 ⟨by omega, by omega⟩ (fun r2 u H locs hpost hG => ?_)
  obtain ⟨rfl, hpap⟩ := hpost
  obtain ⟨pp, wq, pv⟩ := u
  have hG : xG D (fun q : Nat => s.heap.size ≤ q) s.heap (LW κ a am ad uh ur un us (uo.setPaper pp) uv fo wq wk0 wk1) H locs := by rw [← xasc] at hG; exact xG_perm (xq1 _ _ _ _ _ _).symm hG
  refine lv_aload_n hx hb dL_law_1381 rfl (lv_at hl 2 rfl) ?_
  refine lv_aload_n hx hb dL_law_1382 rfl (lv_at hl 0 rfl) ?_
  refine lv_iload hx hb dL_law_1383 (lv_at hl 4 rfl) ?_
  refine lv_iconst (v := 1) hx hb dL_law_1385 (by decide) ?_
  refine lv_iadd hx hb dL_law_1386 ?_
  refine x_sld (kn := 1) (by decide) (by decide) hj hL hx hb hX hbl hG.2.2 dL_law_1387 (fun x17_1 ex17_1 => ?_)
  obtain rfl : x5_1 = x17_1 := ex5_1.trans ex17_1.symm
  refine x_callVi (pre := WH κ a uh ++ (WR κ a ur ++ (WN κ a un ++ (WS κ a us ++ WO κ a (uo.setPaper pp))))) (wc := WM κ am uv) (wc1 := WM κ am uv') (post := ([(ad, .inl (κ 1, 1, .inr (.inl fo)))] ++ (wq ++ (wk0 ++ wk1)))) (As := [.int x5_1]) (rest := [.int r2]) (w1 := LW κ a am ad uh ur un us (uo.setPaper pp) uv' fo wq wk0 wk1) ⟨hx, hb, hml, hown, hts⟩ hK hG hA rfl rfl (c_X5_taking l D κ am H.size x5_1 uv r2 uv' hf5) (cwV 1 hts xG_X5_taking rfl rfl rfl (by decide +kernel) ⟨Nat.le_of_ble_eq_true rfl, Nat.le_of_ble_eq_true rfl⟩) 0 5 rfl rfl rfl rfl hl.1 rfl (Nat.le_of_ble_eq_true rfl) dL_law_1388 ⟨by omega, by omega⟩ (fun H locs hG => ?_)
  refine lv_icmp_eq (tgt := 1805) hx hb dL_law_1391 (by decide) (fun c1 => ?_) (fun c1 => absurd rfl c1)
  refine W.widen (k := 48 + 17 * (j + 1)) (n := 16900 + 2606 * (j + 1)) (by omega) (by omega) ?_
  exact hnext a am ad uh ur un us (uo.setPaper pp) uv' fo wq wk0 wk1 pv u0 u1 n0 n1 (hrel pp) hpap hk0 hk1 H locs ls hG hl
set_option maxRecDepth 100000 in
set_option maxHeartbeats 4000000 in
theorem law_c30 (Rel : Nat → HS → NS → OS → HS → NS → HS → NS → MS → Prop) (hR : RS_coming Rel) {p : Program} {l : Launch} {e : Env} {s : State} {m : MethodId} {below : List Frame} {meth : Method} {c : Code} {D : va_G} {κ : Nat → ClassId} {b L : Nat} {xs : Nat → Int32} (hL : L ≤ 2560) (C9 : lw_At p s m meth c b L xs) (hK : va_K D vwCl (xT κ) s) (j : Nat) (hj : 5 * j + 5 ≤ L) (hnext : LAt Rel D κ p l e s m below meth c b 1805 j (j + 1)) : LAt Rel D κ p l e s m below meth c b 1396 j j := by
  obtain ⟨hx, hb, hr, hml, hown, hts0, hX, hbl, hlocks, hgv⟩ := C9
  have hts : ∀ w ∈ wsLL, w.before #[Value.ref b] s = true := fun w h => hts0 w (xlw_LL w h)
  have hA : ∀ q : Nat, s.heap.size ≤ q → (fun q : Nat => s.heap.size ≤ q) q := fun _ h => h
  intro a am ad uh ur un us uo uv fo wp wk0 wk1 pu u0 u1 n0 n1 hrel hpap hk0 hk1 H locs ls hG hl
  have hcc : 48 + 17 * (j + 1) ≤ room_1.cells := by show _ ≤ 601024; omega
  have hss : 16900 + 2606 * (j + 1) ≤ room_1.slots := by show _ ≤ 7293034; omega
  refine lv_aload_n hx hb dL_law_1396 rfl (lv_at hl 1 rfl) ?_
  refine lv_aload_n hx hb dL_law_1397 rfl (lv_at hl 0 rfl) ?_
  refine lv_iload hx hb dL_law_1398 (lv_at hl 4 rfl) ?_
  refine lv_iconst (v := 1) hx hb dL_law_1400 (by decide) ?_
  refine lv_iadd hx hb dL_law_1401 ?_
  refine x_sld (kn := 1) (by decide) (by decide) hj hL hx hb hX hbl hG.2.2 dL_law_1402 (fun x5_1 ex5_1 => ?_)
  obtain ⟨r, k1, k2, uv', hcp, hf4, hf5, hrel⟩ := hR j x5_1 uh ur un us uo u0 n0 u1 n1 uv pu (by omega) hrel
  have hG : xG D (fun q : Nat => s.heap.size ≤ q) s.heap ([] ++ ((WH κ a uh ++ (WR κ a ur ++ (WN κ a un ++ (WS κ a us ++ (WO κ a uo ++ wp))))) ++ (WM κ am uv ++ ([(ad, .inl (κ 1, 1, .inr (.inl fo)))] ++ (wk0 ++ wk1))))) H locs := by rw [← xasc]; exact xG_perm (xq1 _ _ _ _ _ _) hG
  refine x_callVe (X := fun _ => True) (S := Option Nat × va_W × HS) (pre := []) (wc := WH κ a uh ++ (WR κ a ur ++ (WN κ a un ++ (WS κ a us ++ (WO κ a uo ++ wp))))) (post := WM κ am uv ++ ([(ad, .inl (κ 1, 1, .inr (.inl fo)))] ++ (wk0 ++ wk1))) (As := [.int x5_1]) (rest := []) (F := fun u => WH κ a uh ++ (WR κ a ur ++ (WN κ a un ++ (WS κ a us ++ (WO κ a (uo.setPaper u.1) ++ u.2.1))))) ⟨hx, hb, hml, hown, hts⟩ hK (fun _ _ _ _ h => h) hG hA rfl (fun _ _ _ => trivial) (c_X4_coming l D κ a H.size x5_1 uh ur un us uo wp pu k1 r k2 hpap hcp hf4) (cwV 1 hts xG_X4_coming rfl rfl rfl (by decide +kernel) ⟨Nat.le_of_ble_eq_true rfl, Nat.le_of_ble_eq_true rfl⟩) 25 4 rfl rfl rfl rfl hl.1 rfl (Nat.le_of_ble_eq_true rfl) dL_law_1403 ⟨by omega, by omega⟩ (fun r2 u H locs hpost hG => ?_)
  obtain ⟨rfl, hpap⟩ := hpost
  obtain ⟨pp, wq, pv⟩ := u
  have hG : xG D (fun q : Nat => s.heap.size ≤ q) s.heap (LW κ a am ad uh ur un us (uo.setPaper pp) uv fo wq wk0 wk1) H locs := by rw [← xasc] at hG; exact xG_perm (xq1 _ _ _ _ _ _).symm hG
  refine lv_aload_n hx hb dL_law_1406 rfl (lv_at hl 2 rfl) ?_
  refine lv_aload_n hx hb dL_law_1407 rfl (lv_at hl 0 rfl) ?_
  refine lv_iload hx hb dL_law_1408 (lv_at hl 4 rfl) ?_
  refine lv_iconst (v := 1) hx hb dL_law_1410 (by decide) ?_
  refine lv_iadd hx hb dL_law_1411 ?_
  refine x_sld (kn := 1) (by decide) (by decide) hj hL hx hb hX hbl hG.2.2 dL_law_1412 (fun x17_1 ex17_1 => ?_)
  obtain rfl : x5_1 = x17_1 := ex5_1.trans ex17_1.symm
  refine x_callVi (pre := WH κ a uh ++ (WR κ a ur ++ (WN κ a un ++ (WS κ a us ++ WO κ a (uo.setPaper pp))))) (wc := WM κ am uv) (wc1 := WM κ am uv') (post := ([(ad, .inl (κ 1, 1, .inr (.inl fo)))] ++ (wq ++ (wk0 ++ wk1)))) (As := [.int x5_1]) (rest := [.int r2]) (w1 := LW κ a am ad uh ur un us (uo.setPaper pp) uv' fo wq wk0 wk1) ⟨hx, hb, hml, hown, hts⟩ hK hG hA rfl rfl (c_X5_coming l D κ am H.size x5_1 uv r2 uv' hf5) (cwV 1 hts xG_X5_coming rfl rfl rfl (by decide +kernel) ⟨Nat.le_of_ble_eq_true rfl, Nat.le_of_ble_eq_true rfl⟩) 0 5 rfl rfl rfl rfl hl.1 rfl (Nat.le_of_ble_eq_true rfl) dL_law_1413 ⟨by omega, by omega⟩ (fun H locs hG => ?_)
  refine lv_icmp_eq (tgt := 1805) hx hb dL_law_1416 (by decide) (fun c1 => ?_) (fun c1 => absurd rfl c1)
  refine W.widen (k := 48 + 17 * (j + 1)) (n := 16900 + 2606 * (j + 1)) (by omega) (by omega) ?_
  exact hnext a am ad uh ur un us (uo.setPaper pp) uv' fo wq wk0 wk1 pv u0 u1 n0 n1 (hrel pp) hpap hk0 hk1 H locs ls hG hl
set_option maxRecDepth 100000 in
set_option maxHeartbeats 4000000 in
theorem law_c16 (Rel : Nat → HS → NS → OS → HS → NS → HS → NS → MS → Prop) (hR : RS_keep Rel) {p : Program} {l : Launch} {e : Env} {s : State} {m : MethodId} {below : List Frame} {meth : Method} {c : Code} {D : va_G} {κ : Nat → ClassId} {b L : Nat} {xs : Nat → Int32} (hL : L ≤ 2560) (C9 : lw_At p s m meth c b L xs) (hK : va_K D vwCl (xT κ) s) (j : Nat) (hj : 5 * j + 5 ≤ L) (hnext : LAt Rel D κ p l e s m below meth c b 1805 j (j + 1)) : LAt Rel D κ p l e s m below meth c b 752 j j := by
  obtain ⟨hx, hb, hr, hml, hown, hts0, hX, hbl, hlocks, hgv⟩ := C9
  have hts : ∀ w ∈ wsLL, w.before #[Value.ref b] s = true := fun w h => hts0 w (xlw_LL w h)
  have hA : ∀ q : Nat, s.heap.size ≤ q → (fun q : Nat => s.heap.size ≤ q) q := fun _ h => h
  intro a am ad uh ur un us uo uv fo wp wk0 wk1 pu u0 u1 n0 n1 hrel hpap hk0 hk1 H locs ls hG hl
  have hcc : 48 + 17 * (j + 1) ≤ room_1.cells := by show _ ≤ 601024; omega
  have hss : 16900 + 2606 * (j + 1) ≤ room_1.slots := by show _ ≤ 7293034; omega
  refine lv_aload_n hx hb dL_law_752 rfl (lv_at hl 1 rfl) ?_
  refine lv_aload_n hx hb dL_law_753 rfl (lv_at hl 0 rfl) ?_
  refine lv_iload hx hb dL_law_754 (lv_at hl 4 rfl) ?_
  refine lv_iconst (v := 1) hx hb dL_law_756 (by decide) ?_
  refine lv_iadd hx hb dL_law_757 ?_
  refine x_sld (kn := 1) (by decide) (by decide) hj hL hx hb hX hbl hG.2.2 dL_law_758 (fun x5_1 ex5_1 => ?_)
  obtain ⟨uv', hN, h0, h1⟩ := hR j x5_1 uh ur un us uo u0 n0 u1 n1 uv (by omega) hrel
  by_cases hin : vp_in x5_1 2
  · obtain ⟨jj, hjj, ejj⟩ := vp_in_of hin (by decide)
    have h2 : jj = 0 ∨ jj = 1 := by omega
    rcases h2 with h2 | h2
    · subst jj
      obtain ⟨k1, m1, hcp, hcn, hf5, hrel⟩ := h0 ejj
      have ek : x5_1.toNatClampNeg = 0 := by rw [ejj]; exact nI_clamp (by decide)
      have hG : xG D (fun q : Nat => s.heap.size ≤ q) s.heap ([] ++ ((WH κ a uh ++ (WR κ a ur ++ (WN κ a un ++ (WS κ a us ++ (WO κ a uo ++ wk0))))) ++ (WM κ am uv ++ ([(ad, .inl (κ 1, 1, .inr (.inl fo)))] ++ (wp ++ wk1))))) H locs := by rw [← xasc]; exact xG_perm (xq2 _ _ _ _ _ _) hG
      refine x_callVe (X := fun _ => True) (S := Nat → Nat) (pre := []) (wc := WH κ a uh ++ (WR κ a ur ++ (WN κ a un ++ (WS κ a us ++ (WO κ a uo ++ wk0))))) (post := WM κ am uv ++ ([(ad, .inl (κ 1, 1, .inr (.inl fo)))] ++ (wp ++ wk1))) (As := [.int x5_1]) (rest := []) (F := fun b9 => WH κ a uh ++ (WR κ a ur ++ (WN κ a un ++ (WS κ a us ++ (WO κ a (xKO uo x5_1.toNatClampNeg b9) ++ (WH κ b9 k1 ++ WN κ b9 m1)))))) ⟨hx, hb, hml, hown, hts⟩ hK (fun _ _ _ _ h => h) hG hA rfl (fun _ _ _ => trivial) (c_X4_keepP l D κ a H.size x5_1 uh ur un us uo wk0 u0 k1 n0 m1 hin (by rw [ek]; exact hk0) hcp hcn) (cwV 1 hts xG_X4_keep rfl rfl rfl (by decide +kernel) ⟨Nat.le_of_ble_eq_true rfl, Nat.le_of_ble_eq_true rfl⟩) 25 4 rfl rfl rfl rfl hl.1 rfl (Nat.le_of_ble_eq_true rfl) dL_law_759 ⟨by omega, by omega⟩ (fun r2 b9 H locs hpost hG => ?_)
      subst hpost
      rw [ek] at hG
      have hG : xG D (fun q : Nat => s.heap.size ≤ q) s.heap (LW κ a am ad uh ur un us (xKO uo 0 b9) uv fo wp (WH κ b9 k1 ++ WN κ b9 m1) wk1) H locs := by rw [← xasc] at hG; exact xG_perm (xq2 _ _ _ _ _ _).symm hG
      refine lv_aload_n hx hb dL_law_762 rfl (lv_at hl 2 rfl) ?_
      refine lv_aload_n hx hb dL_law_763 rfl (lv_at hl 0 rfl) ?_
      refine lv_iload hx hb dL_law_764 (lv_at hl 4 rfl) ?_
      refine lv_iconst (v := 1) hx hb dL_law_766 (by decide) ?_
      refine lv_iadd hx hb dL_law_767 ?_
      refine x_sld (kn := 1) (by decide) (by decide) hj hL hx hb hX hbl hG.2.2 dL_law_768 (fun y5_1 ey5_1 => ?_)
      obtain rfl : x5_1 = y5_1 := ex5_1.trans ey5_1.symm
      refine x_callVi (pre := WH κ a uh ++ (WR κ a ur ++ (WN κ a un ++ (WS κ a us ++ WO κ a (xKO uo 0 b9))))) (wc := WM κ am uv) (wc1 := WM κ am uv') (post := ([(ad, .inl (κ 1, 1, .inr (.inl fo)))] ++ (wp ++ ((WH κ b9 k1 ++ WN κ b9 m1) ++ wk1)))) (As := [.int x5_1]) (rest := [.int 1]) (w1 := LW κ a am ad uh ur un us (xKO uo 0 b9) uv' fo wp (WH κ b9 k1 ++ WN κ b9 m1) wk1) ⟨hx, hb, hml, hown, hts⟩ hK hG hA rfl rfl (c_X5_keep l D κ am H.size x5_1 uv 1 uv' hf5) (cwV 1 hts xG_X5_keep rfl rfl rfl (by decide +kernel) ⟨Nat.le_of_ble_eq_true rfl, Nat.le_of_ble_eq_true rfl⟩) 0 5 rfl rfl rfl rfl hl.1 rfl (Nat.le_of_ble_eq_true rfl) dL_law_769 ⟨by omega, by omega⟩ (fun H locs hG => ?_)
      refine lv_icmp_eq (tgt := 1805) hx hb dL_law_772 (by decide) (fun c1 => ?_) (fun c1 => absurd rfl c1)
      refine W.widen (k := 48 + 17 * (j + 1)) (n := 16900 + 2606 * (j + 1)) (by omega) (by omega) ?_
      exact hnext a am ad uh ur un us (xKO uo 0 b9) uv' fo wp (WH κ b9 k1 ++ WN κ b9 m1) wk1 pu k1 u1 m1 n1 (hrel b9) hpap (Or.inr ⟨b9, rfl, rfl, rfl⟩) hk1 H locs ls hG hl
    · subst jj
      obtain ⟨k1, m1, hcp, hcn, hf5, hrel⟩ := h1 ejj
      have ek : x5_1.toNatClampNeg = 1 := by rw [ejj]; exact nI_clamp (by decide)
      have hG : xG D (fun q : Nat => s.heap.size ≤ q) s.heap ([] ++ ((WH κ a uh ++ (WR κ a ur ++ (WN κ a un ++ (WS κ a us ++ (WO κ a uo ++ wk1))))) ++ (WM κ am uv ++ ([(ad, .inl (κ 1, 1, .inr (.inl fo)))] ++ (wp ++ wk0))))) H locs := by rw [← xasc]; exact xG_perm (xq3 _ _ _ _ _ _) hG
      refine x_callVe (X := fun _ => True) (S := Nat → Nat) (pre := []) (wc := WH κ a uh ++ (WR κ a ur ++ (WN κ a un ++ (WS κ a us ++ (WO κ a uo ++ wk1))))) (post := WM κ am uv ++ ([(ad, .inl (κ 1, 1, .inr (.inl fo)))] ++ (wp ++ wk0))) (As := [.int x5_1]) (rest := []) (F := fun b9 => WH κ a uh ++ (WR κ a ur ++ (WN κ a un ++ (WS κ a us ++ (WO κ a (xKO uo x5_1.toNatClampNeg b9) ++ (WH κ b9 k1 ++ WN κ b9 m1)))))) ⟨hx, hb, hml, hown, hts⟩ hK (fun _ _ _ _ h => h) hG hA rfl (fun _ _ _ => trivial) (c_X4_keepP l D κ a H.size x5_1 uh ur un us uo wk1 u1 k1 n1 m1 hin (by rw [ek]; exact hk1) hcp hcn) (cwV 1 hts xG_X4_keep rfl rfl rfl (by decide +kernel) ⟨Nat.le_of_ble_eq_true rfl, Nat.le_of_ble_eq_true rfl⟩) 25 4 rfl rfl rfl rfl hl.1 rfl (Nat.le_of_ble_eq_true rfl) dL_law_759 ⟨by omega, by omega⟩ (fun r2 b9 H locs hpost hG => ?_)
      subst hpost
      rw [ek] at hG
      have hG : xG D (fun q : Nat => s.heap.size ≤ q) s.heap (LW κ a am ad uh ur un us (xKO uo 1 b9) uv fo wp wk0 (WH κ b9 k1 ++ WN κ b9 m1)) H locs := by rw [← xasc] at hG; exact xG_perm (xq3 _ _ _ _ _ _).symm hG
      refine lv_aload_n hx hb dL_law_762 rfl (lv_at hl 2 rfl) ?_
      refine lv_aload_n hx hb dL_law_763 rfl (lv_at hl 0 rfl) ?_
      refine lv_iload hx hb dL_law_764 (lv_at hl 4 rfl) ?_
      refine lv_iconst (v := 1) hx hb dL_law_766 (by decide) ?_
      refine lv_iadd hx hb dL_law_767 ?_
      refine x_sld (kn := 1) (by decide) (by decide) hj hL hx hb hX hbl hG.2.2 dL_law_768 (fun y5_1 ey5_1 => ?_)
      obtain rfl : x5_1 = y5_1 := ex5_1.trans ey5_1.symm
      refine x_callVi (pre := WH κ a uh ++ (WR κ a ur ++ (WN κ a un ++ (WS κ a us ++ WO κ a (xKO uo 1 b9))))) (wc := WM κ am uv) (wc1 := WM κ am uv') (post := ([(ad, .inl (κ 1, 1, .inr (.inl fo)))] ++ (wp ++ (wk0 ++ (WH κ b9 k1 ++ WN κ b9 m1))))) (As := [.int x5_1]) (rest := [.int 1]) (w1 := LW κ a am ad uh ur un us (xKO uo 1 b9) uv' fo wp wk0 (WH κ b9 k1 ++ WN κ b9 m1)) ⟨hx, hb, hml, hown, hts⟩ hK hG hA rfl rfl (c_X5_keep l D κ am H.size x5_1 uv 1 uv' hf5) (cwV 1 hts xG_X5_keep rfl rfl rfl (by decide +kernel) ⟨Nat.le_of_ble_eq_true rfl, Nat.le_of_ble_eq_true rfl⟩) 0 5 rfl rfl rfl rfl hl.1 rfl (Nat.le_of_ble_eq_true rfl) dL_law_769 ⟨by omega, by omega⟩ (fun H locs hG => ?_)
      refine lv_icmp_eq (tgt := 1805) hx hb dL_law_772 (by decide) (fun c1 => ?_) (fun c1 => absurd rfl c1)
      refine W.widen (k := 48 + 17 * (j + 1)) (n := 16900 + 2606 * (j + 1)) (by omega) (by omega) ?_
      exact hnext a am ad uh ur un us (xKO uo 1 b9) uv' fo wp wk0 (WH κ b9 k1 ++ WN κ b9 m1) pu u0 k1 n0 m1 (hrel b9) hpap hk0 (Or.inr ⟨b9, rfl, rfl, rfl⟩) H locs ls hG hl
  · obtain ⟨hf5, hrel⟩ := hN hin
    refine x_callVi (pre := []) (wc := WH κ a uh ++ (WR κ a ur ++ (WN κ a un ++ (WS κ a us ++ WO κ a uo)))) (wc1 := WH κ a uh ++ (WR κ a ur ++ (WN κ a un ++ (WS κ a us ++ WO κ a uo)))) (post := WM κ am uv ++ ([(ad, .inl (κ 1, 1, .inr (.inl fo)))] ++ (wp ++ (wk0 ++ wk1)))) (As := [.int x5_1]) (rest := []) (w1 := LW κ a am ad uh ur un us uo uv fo wp wk0 wk1) ⟨hx, hb, hml, hown, hts⟩ hK hG hA rfl rfl (c_X4_keepN l D κ a H.size x5_1 uh ur un us uo hin) (cwV 1 hts xG_X4_keep rfl rfl rfl (by decide +kernel) ⟨Nat.le_of_ble_eq_true rfl, Nat.le_of_ble_eq_true rfl⟩) 25 4 rfl rfl rfl rfl hl.1 rfl (Nat.le_of_ble_eq_true rfl) dL_law_759 ⟨by omega, by omega⟩ (fun H locs hG => ?_)
    refine lv_aload_n hx hb dL_law_762 rfl (lv_at hl 2 rfl) ?_
    refine lv_aload_n hx hb dL_law_763 rfl (lv_at hl 0 rfl) ?_
    refine lv_iload hx hb dL_law_764 (lv_at hl 4 rfl) ?_
    refine lv_iconst (v := 1) hx hb dL_law_766 (by decide) ?_
    refine lv_iadd hx hb dL_law_767 ?_
    refine x_sld (kn := 1) (by decide) (by decide) hj hL hx hb hX hbl hG.2.2 dL_law_768 (fun y5_1 ey5_1 => ?_)
    obtain rfl : x5_1 = y5_1 := ex5_1.trans ey5_1.symm
    refine x_callVi (pre := WH κ a uh ++ (WR κ a ur ++ (WN κ a un ++ (WS κ a us ++ WO κ a uo)))) (wc := WM κ am uv) (wc1 := WM κ am uv') (post := ([(ad, .inl (κ 1, 1, .inr (.inl fo)))] ++ (wp ++ (wk0 ++ wk1)))) (As := [.int x5_1]) (rest := [.int 0]) (w1 := LW κ a am ad uh ur un us uo uv' fo wp wk0 wk1) ⟨hx, hb, hml, hown, hts⟩ hK hG hA rfl rfl (c_X5_keep l D κ am H.size x5_1 uv 0 uv' hf5) (cwV 1 hts xG_X5_keep rfl rfl rfl (by decide +kernel) ⟨Nat.le_of_ble_eq_true rfl, Nat.le_of_ble_eq_true rfl⟩) 0 5 rfl rfl rfl rfl hl.1 rfl (Nat.le_of_ble_eq_true rfl) dL_law_769 ⟨by omega, by omega⟩ (fun H locs hG => ?_)
    refine lv_icmp_eq (tgt := 1805) hx hb dL_law_772 (by decide) (fun c1 => ?_) (fun c1 => absurd rfl c1)
    refine W.widen (k := 48 + 17 * (j + 1)) (n := 16900 + 2606 * (j + 1)) (by omega) (by omega) ?_
    exact hnext a am ad uh ur un us uo uv' fo wp wk0 wk1 pu u0 u1 n0 n1 hrel hpap hk0 hk1 H locs ls hG hl
set_option maxRecDepth 100000 in
set_option maxHeartbeats 4000000 in
theorem law_c17 (Rel : Nat → HS → NS → OS → HS → NS → HS → NS → MS → Prop) (hR : RS_again Rel) {p : Program} {l : Launch} {e : Env} {s : State} {m : MethodId} {below : List Frame} {meth : Method} {c : Code} {D : va_G} {κ : Nat → ClassId} {b L : Nat} {xs : Nat → Int32} (hL : L ≤ 2560) (C9 : lw_At p s m meth c b L xs) (hK : va_K D vwCl (xT κ) s) (j : Nat) (hj : 5 * j + 5 ≤ L) (hnext : LAt Rel D κ p l e s m below meth c b 1805 j (j + 1)) : LAt Rel D κ p l e s m below meth c b 777 j j := by
  obtain ⟨hx, hb, hr, hml, hown, hts0, hX, hbl, hlocks, hgv⟩ := C9
  have hts : ∀ w ∈ wsLL, w.before #[Value.ref b] s = true := fun w h => hts0 w (xlw_LL w h)
  have hA : ∀ q : Nat, s.heap.size ≤ q → (fun q : Nat => s.heap.size ≤ q) q := fun _ h => h
  intro a am ad uh ur un us uo uv fo wp wk0 wk1 pu u0 u1 n0 n1 hrel hpap hk0 hk1 H locs ls hG hl
  have hcc : 48 + 17 * (j + 1) ≤ room_1.cells := by show _ ≤ 601024; omega
  have hss : 16900 + 2606 * (j + 1) ≤ room_1.slots := by show _ ≤ 7293034; omega
  refine lv_aload_n hx hb dL_law_777 rfl (lv_at hl 1 rfl) ?_
  refine lv_aload_n hx hb dL_law_778 rfl (lv_at hl 0 rfl) ?_
  refine lv_iload hx hb dL_law_779 (lv_at hl 4 rfl) ?_
  refine lv_iconst (v := 1) hx hb dL_law_781 (by decide) ?_
  refine lv_iadd hx hb dL_law_782 ?_
  refine x_sld (kn := 1) (by decide) (by decide) hj hL hx hb hX hbl hG.2.2 dL_law_783 (fun x5_1 ex5_1 => ?_)
  obtain ⟨uv', hN, h0, h1⟩ := hR j x5_1 uh ur un us uo u0 n0 u1 n1 uv (by omega) hrel
  by_cases hno : vp_in x5_1 2 → uo.kh x5_1.toNatClampNeg = none
  · obtain ⟨hf5, hrel⟩ := hN hno
    refine x_callVi (pre := []) (wc := WH κ a uh ++ (WR κ a ur ++ (WN κ a un ++ (WS κ a us ++ WO κ a uo)))) (wc1 := WH κ a uh ++ (WR κ a ur ++ (WN κ a un ++ (WS κ a us ++ WO κ a uo)))) (post := WM κ am uv ++ ([(ad, .inl (κ 1, 1, .inr (.inl fo)))] ++ (wp ++ (wk0 ++ wk1)))) (As := [.int x5_1]) (rest := []) (w1 := LW κ a am ad uh ur un us uo uv fo wp wk0 wk1) ⟨hx, hb, hml, hown, hts⟩ hK hG hA rfl rfl (c_X4_againN l D κ a H.size x5_1 uh ur un us uo hno) (cwV 1 hts xG_X4_again rfl rfl rfl (by decide +kernel) ⟨Nat.le_of_ble_eq_true rfl, Nat.le_of_ble_eq_true rfl⟩) 25 4 rfl rfl rfl rfl hl.1 rfl (Nat.le_of_ble_eq_true rfl) dL_law_784 ⟨by omega, by omega⟩ (fun H locs hG => ?_)
    refine lv_aload_n hx hb dL_law_787 rfl (lv_at hl 2 rfl) ?_
    refine lv_aload_n hx hb dL_law_788 rfl (lv_at hl 0 rfl) ?_
    refine lv_iload hx hb dL_law_789 (lv_at hl 4 rfl) ?_
    refine lv_iconst (v := 1) hx hb dL_law_791 (by decide) ?_
    refine lv_iadd hx hb dL_law_792 ?_
    refine x_sld (kn := 1) (by decide) (by decide) hj hL hx hb hX hbl hG.2.2 dL_law_793 (fun y5_1 ey5_1 => ?_)
    obtain rfl : x5_1 = y5_1 := ex5_1.trans ey5_1.symm
    refine x_callVi (pre := WH κ a uh ++ (WR κ a ur ++ (WN κ a un ++ (WS κ a us ++ WO κ a uo)))) (wc := WM κ am uv) (wc1 := WM κ am uv') (post := ([(ad, .inl (κ 1, 1, .inr (.inl fo)))] ++ (wp ++ (wk0 ++ wk1)))) (As := [.int x5_1]) (rest := [.int 0]) (w1 := LW κ a am ad uh ur un us uo uv' fo wp wk0 wk1) ⟨hx, hb, hml, hown, hts⟩ hK hG hA rfl rfl (c_X5_again l D κ am H.size x5_1 uv 0 uv' hf5) (cwV 1 hts xG_X5_again rfl rfl rfl (by decide +kernel) ⟨Nat.le_of_ble_eq_true rfl, Nat.le_of_ble_eq_true rfl⟩) 0 5 rfl rfl rfl rfl hl.1 rfl (Nat.le_of_ble_eq_true rfl) dL_law_794 ⟨by omega, by omega⟩ (fun H locs hG => ?_)
    refine lv_icmp_eq (tgt := 1805) hx hb dL_law_797 (by decide) (fun c1 => ?_) (fun c1 => absurd rfl c1)
    refine W.widen (k := 48 + 17 * (j + 1)) (n := 16900 + 2606 * (j + 1)) (by omega) (by omega) ?_
    exact hnext a am ad uh ur un us uo uv' fo wp wk0 wk1 pu u0 u1 n0 n1 hrel hpap hk0 hk1 H locs ls hG hl
  · have hin : vp_in x5_1 2 := Classical.byContradiction fun q => hno (fun h => absurd h q)
    obtain ⟨jj, hjj, ejj⟩ := vp_in_of hin (by decide)
    have h2 : jj = 0 ∨ jj = 1 := by omega
    rcases h2 with h2 | h2
    · subst jj
      have ek : x5_1.toNatClampNeg = 0 := by rw [ejj]; exact nI_clamp (by decide)
      rcases id hk0 with ⟨q1, _⟩ | ⟨b9, q1, q2, q3⟩
      · exact absurd (fun _ => by rw [ek]; exact q1) hno
      · obtain ⟨uh', un', hcp, hcn, hf5, hrel⟩ := h0 (b9 0) ejj q1
        subst q3
        have hG : xG D (fun q : Nat => s.heap.size ≤ q) s.heap ([] ++ ((WH κ a uh ++ (WR κ a ur ++ (WN κ a un ++ (WS κ a us ++ (WO κ a uo ++ (WH κ b9 u0 ++ WN κ b9 n0)))))) ++ (WM κ am uv ++ ([(ad, .inl (κ 1, 1, .inr (.inl fo)))] ++ (wp ++ wk1))))) H locs := by rw [← xasc]; exact xG_perm (xq2 _ _ _ _ _ _) hG
        refine x_callVi (pre := []) (wc := WH κ a uh ++ (WR κ a ur ++ (WN κ a un ++ (WS κ a us ++ (WO κ a uo ++ (WH κ b9 u0 ++ WN κ b9 n0)))))) (wc1 := WH κ a uh' ++ (WR κ a ur ++ (WN κ a un' ++ (WS κ a us ++ (WO κ a uo ++ (WH κ b9 u0 ++ WN κ b9 n0)))))) (post := WM κ am uv ++ ([(ad, .inl (κ 1, 1, .inr (.inl fo)))] ++ (wp ++ wk1))) (As := [.int x5_1]) (rest := []) (w1 := [] ++ ((WH κ a uh' ++ (WR κ a ur ++ (WN κ a un' ++ (WS κ a us ++ (WO κ a uo ++ (WH κ b9 u0 ++ WN κ b9 n0)))))) ++ (WM κ am uv ++ ([(ad, .inl (κ 1, 1, .inr (.inl fo)))] ++ (wp ++ wk1))))) ⟨hx, hb, hml, hown, hts⟩ hK hG hA rfl rfl (c_X4_againP l D κ a b9 H.size x5_1 uh ur un us uo u0 n0 uh' un' hin (by rw [ek]; exact q1) (by rw [ek]; exact q2) hcp hcn) (cwV 1 hts xG_X4_again rfl rfl rfl (by decide +kernel) ⟨Nat.le_of_ble_eq_true rfl, Nat.le_of_ble_eq_true rfl⟩) 25 4 rfl rfl rfl rfl hl.1 rfl (Nat.le_of_ble_eq_true rfl) dL_law_784 ⟨by omega, by omega⟩ (fun H locs hG => ?_)
        have hG : xG D (fun q : Nat => s.heap.size ≤ q) s.heap (LW κ a am ad uh' ur un' us uo uv fo wp (WH κ b9 u0 ++ WN κ b9 n0) wk1) H locs := by rw [← xasc] at hG; exact xG_perm (xq2 _ _ _ _ _ _).symm hG
        refine lv_aload_n hx hb dL_law_787 rfl (lv_at hl 2 rfl) ?_
        refine lv_aload_n hx hb dL_law_788 rfl (lv_at hl 0 rfl) ?_
        refine lv_iload hx hb dL_law_789 (lv_at hl 4 rfl) ?_
        refine lv_iconst (v := 1) hx hb dL_law_791 (by decide) ?_
        refine lv_iadd hx hb dL_law_792 ?_
        refine x_sld (kn := 1) (by decide) (by decide) hj hL hx hb hX hbl hG.2.2 dL_law_793 (fun y5_1 ey5_1 => ?_)
        obtain rfl : x5_1 = y5_1 := ex5_1.trans ey5_1.symm
        refine x_callVi (pre := WH κ a uh' ++ (WR κ a ur ++ (WN κ a un' ++ (WS κ a us ++ WO κ a uo)))) (wc := WM κ am uv) (wc1 := WM κ am uv') (post := ([(ad, .inl (κ 1, 1, .inr (.inl fo)))] ++ (wp ++ ((WH κ b9 u0 ++ WN κ b9 n0) ++ wk1)))) (As := [.int x5_1]) (rest := [.int 1]) (w1 := LW κ a am ad uh' ur un' us uo uv' fo wp (WH κ b9 u0 ++ WN κ b9 n0) wk1) ⟨hx, hb, hml, hown, hts⟩ hK hG hA rfl rfl (c_X5_again l D κ am H.size x5_1 uv 1 uv' hf5) (cwV 1 hts xG_X5_again rfl rfl rfl (by decide +kernel) ⟨Nat.le_of_ble_eq_true rfl, Nat.le_of_ble_eq_true rfl⟩) 0 5 rfl rfl rfl rfl hl.1 rfl (Nat.le_of_ble_eq_true rfl) dL_law_794 ⟨by omega, by omega⟩ (fun H locs hG => ?_)
        refine lv_icmp_eq (tgt := 1805) hx hb dL_law_797 (by decide) (fun c1 => ?_) (fun c1 => absurd rfl c1)
        refine W.widen (k := 48 + 17 * (j + 1)) (n := 16900 + 2606 * (j + 1)) (by omega) (by omega) ?_
        exact hnext a am ad uh' ur un' us uo uv' fo wp (WH κ b9 u0 ++ WN κ b9 n0) wk1 pu u0 u1 n0 n1 hrel hpap hk0 hk1 H locs ls hG hl
    · subst jj
      have ek : x5_1.toNatClampNeg = 1 := by rw [ejj]; exact nI_clamp (by decide)
      rcases id hk1 with ⟨q1, _⟩ | ⟨b9, q1, q2, q3⟩
      · exact absurd (fun _ => by rw [ek]; exact q1) hno
      · obtain ⟨uh', un', hcp, hcn, hf5, hrel⟩ := h1 (b9 0) ejj q1
        subst q3
        have hG : xG D (fun q : Nat => s.heap.size ≤ q) s.heap ([] ++ ((WH κ a uh ++ (WR κ a ur ++ (WN κ a un ++ (WS κ a us ++ (WO κ a uo ++ (WH κ b9 u1 ++ WN κ b9 n1)))))) ++ (WM κ am uv ++ ([(ad, .inl (κ 1, 1, .inr (.inl fo)))] ++ (wp ++ wk0))))) H locs := by rw [← xasc]; exact xG_perm (xq3 _ _ _ _ _ _) hG
        refine x_callVi (pre := []) (wc := WH κ a uh ++ (WR κ a ur ++ (WN κ a un ++ (WS κ a us ++ (WO κ a uo ++ (WH κ b9 u1 ++ WN κ b9 n1)))))) (wc1 := WH κ a uh' ++ (WR κ a ur ++ (WN κ a un' ++ (WS κ a us ++ (WO κ a uo ++ (WH κ b9 u1 ++ WN κ b9 n1)))))) (post := WM κ am uv ++ ([(ad, .inl (κ 1, 1, .inr (.inl fo)))] ++ (wp ++ wk0))) (As := [.int x5_1]) (rest := []) (w1 := [] ++ ((WH κ a uh' ++ (WR κ a ur ++ (WN κ a un' ++ (WS κ a us ++ (WO κ a uo ++ (WH κ b9 u1 ++ WN κ b9 n1)))))) ++ (WM κ am uv ++ ([(ad, .inl (κ 1, 1, .inr (.inl fo)))] ++ (wp ++ wk0))))) ⟨hx, hb, hml, hown, hts⟩ hK hG hA rfl rfl (c_X4_againP l D κ a b9 H.size x5_1 uh ur un us uo u1 n1 uh' un' hin (by rw [ek]; exact q1) (by rw [ek]; exact q2) hcp hcn) (cwV 1 hts xG_X4_again rfl rfl rfl (by decide +kernel) ⟨Nat.le_of_ble_eq_true rfl, Nat.le_of_ble_eq_true rfl⟩) 25 4 rfl rfl rfl rfl hl.1 rfl (Nat.le_of_ble_eq_true rfl) dL_law_784 ⟨by omega, by omega⟩ (fun H locs hG => ?_)
        have hG : xG D (fun q : Nat => s.heap.size ≤ q) s.heap (LW κ a am ad uh' ur un' us uo uv fo wp wk0 (WH κ b9 u1 ++ WN κ b9 n1)) H locs := by rw [← xasc] at hG; exact xG_perm (xq3 _ _ _ _ _ _).symm hG
        refine lv_aload_n hx hb dL_law_787 rfl (lv_at hl 2 rfl) ?_
        refine lv_aload_n hx hb dL_law_788 rfl (lv_at hl 0 rfl) ?_
        refine lv_iload hx hb dL_law_789 (lv_at hl 4 rfl) ?_
        refine lv_iconst (v := 1) hx hb dL_law_791 (by decide) ?_
        refine lv_iadd hx hb dL_law_792 ?_
        refine x_sld (kn := 1) (by decide) (by decide) hj hL hx hb hX hbl hG.2.2 dL_law_793 (fun y5_1 ey5_1 => ?_)
        obtain rfl : x5_1 = y5_1 := ex5_1.trans ey5_1.symm
        refine x_callVi (pre := WH κ a uh' ++ (WR κ a ur ++ (WN κ a un' ++ (WS κ a us ++ WO κ a uo)))) (wc := WM κ am uv) (wc1 := WM κ am uv') (post := ([(ad, .inl (κ 1, 1, .inr (.inl fo)))] ++ (wp ++ (wk0 ++ (WH κ b9 u1 ++ WN κ b9 n1))))) (As := [.int x5_1]) (rest := [.int 1]) (w1 := LW κ a am ad uh' ur un' us uo uv' fo wp wk0 (WH κ b9 u1 ++ WN κ b9 n1)) ⟨hx, hb, hml, hown, hts⟩ hK hG hA rfl rfl (c_X5_again l D κ am H.size x5_1 uv 1 uv' hf5) (cwV 1 hts xG_X5_again rfl rfl rfl (by decide +kernel) ⟨Nat.le_of_ble_eq_true rfl, Nat.le_of_ble_eq_true rfl⟩) 0 5 rfl rfl rfl rfl hl.1 rfl (Nat.le_of_ble_eq_true rfl) dL_law_794 ⟨by omega, by omega⟩ (fun H locs hG => ?_)
        refine lv_icmp_eq (tgt := 1805) hx hb dL_law_797 (by decide) (fun c1 => ?_) (fun c1 => absurd rfl c1)
        refine W.widen (k := 48 + 17 * (j + 1)) (n := 16900 + 2606 * (j + 1)) (by omega) (by omega) ?_
        exact hnext a am ad uh' ur un' us uo uv' fo wp wk0 (WH κ b9 u1 ++ WN κ b9 n1) pu u0 u1 n0 n1 hrel hpap hk0 hk1 H locs ls hG hl
set_option maxRecDepth 100000 in
set_option maxHeartbeats 4000000 in
theorem law_c18 (Rel : Nat → HS → NS → OS → HS → NS → HS → NS → MS → Prop) (hR : RS_key Rel) {p : Program} {l : Launch} {e : Env} {s : State} {m : MethodId} {below : List Frame} {meth : Method} {c : Code} {D : va_G} {κ : Nat → ClassId} {b L : Nat} {xs : Nat → Int32} (hL : L ≤ 2560) (C9 : lw_At p s m meth c b L xs) (hK : va_K D vwCl (xT κ) s) (hl0 : l.stackTraces = false) {sa : Nat} (hTH : xTH sa (fun q : Nat => s.heap.size ≤ q) s) (j : Nat) (hj : 5 * j + 5 ≤ L) (hnext : LAt Rel D κ p l e s m below meth c b 1805 j (j + 1)) : LAt Rel D κ p l e s m below meth c b 802 j j := by
  obtain ⟨hx, hb, hr, hml, hown, hts0, hX, hbl, hlocks, hgv⟩ := C9
  have hts : ∀ w ∈ wsLL, w.before #[Value.ref b] s = true := fun w h => hts0 w (xlw_LL w h)
  have hA : ∀ q : Nat, s.heap.size ≤ q → (fun q : Nat => s.heap.size ≤ q) q := fun _ h => h
  intro a am ad uh ur un us uo uv fo wp wk0 wk1 pu u0 u1 n0 n1 hrel hpap hk0 hk1 H locs ls hG hl
  have hcc : 48 + 17 * (j + 1) ≤ room_1.cells := by show _ ≤ 601024; omega
  have hss : 16900 + 2606 * (j + 1) ≤ room_1.slots := by show _ ≤ 7293034; omega
  refine lv_aload_n hx hb dL_law_802 rfl (lv_at hl 1 rfl) ?_
  refine lv_aload_n hx hb dL_law_803 rfl (lv_at hl 0 rfl) ?_
  refine lv_iload hx hb dL_law_804 (lv_at hl 4 rfl) ?_
  refine lv_iconst (v := 1) hx hb dL_law_806 (by decide) ?_
  refine lv_iadd hx hb dL_law_807 ?_
  refine x_sld (kn := 1) (by decide) (by decide) hj hL hx hb hX hbl hG.2.2 dL_law_808 (fun x5_1 ex5_1 => ?_)
  refine lv_aload_n hx hb dL_law_809 rfl (lv_at hl 3 rfl) ?_
  obtain ⟨i9, r, ur', uv', hi9, hf5, hrel, hcase⟩ := hR j x5_1 uh ur un us uo u0 n0 u1 n1 uv (by omega) hrel
  have hG : xG D (fun q : Nat => s.heap.size ≤ q) s.heap ([] ++ ((WH κ a uh ++ (WR κ a ur ++ (WN κ a un ++ (WS κ a us ++ (WO κ a uo ++ [(ad, .inl (κ 1, 1, .inr (.inl fo)))]))))) ++ (WM κ am uv ++ (wp ++ (wk0 ++ wk1))))) H locs := by rw [← xasc]; exact xG_perm (xq4 _ _ _ _ _ _) hG
  rcases hcase with ⟨hi0, hth⟩ | ⟨hi0, hth, hf4⟩
  · subst i9
    have hFr : ∀ q, va_A (WH κ a uh ++ (WR κ a ur ++ (WN κ a un ++ (WS κ a us ++ (WO κ a uo ++ [(ad, .inl (κ 1, 1, .inr (.inl fo)))]))))) H.size q → s.heap.size ≤ q := (x_frame (wc1 := []) hG hA rfl).2.2.1
    refine x_callSW (hh := [(0, 8, 11, 13)]) (X := fun U => xTH sa (va_A (WH κ a uh ++ (WR κ a ur ++ (WN κ a un ++ (WS κ a us ++ (WO κ a uo ++ [(ad, .inl (κ 1, 1, .inr (.inl fo)))]))))) H.size) U) (pre := []) (wc := WH κ a uh ++ (WR κ a ur ++ (WN κ a un ++ (WS κ a us ++ (WO κ a uo ++ [(ad, .inl (κ 1, 1, .inr (.inl fo)))]))))) (wc1 := WH κ a uh ++ (WR κ a ur ++ (WN κ a un ++ (WS κ a us ++ (WO κ a uo ++ [(ad, .inl (κ 1, 1, .inr (.inl fo)))]))))) (post := WM κ am uv ++ (wp ++ (wk0 ++ wk1))) (As := [.ref (a 25), .int x5_1, .ref ad]) (rest := []) (w1 := [] ++ ((WH κ a uh ++ (WR κ a ur ++ (WN κ a un ++ (WS κ a us ++ (WO κ a uo ++ [(ad, .inl (κ 1, 1, .inr (.inl fo)))]))))) ++ (WM κ am uv ++ (wp ++ (wk0 ++ wk1))))) ⟨hx, hb, hml, hown, hts⟩ hK (fun _ _ _ _ h => h.calling) hG hA rfl rfl (fun U hU hW => xTH.at hW hU hG.2.2 hFr hTH) (t_L_key l hl0 D κ a H.size sa x5_1 uh ur un us uo ad fo hi9) (vx_cwSW 3 hts xG_L_key rfl rfl rfl (by decide +kernel) ⟨Nat.le_of_ble_eq_true rfl, Nat.le_of_ble_eq_true rfl⟩) rfl hl.1 rfl (Nat.le_of_ble_eq_true rfl) dL_law_810 ⟨by show _ + 1 ≤ _; omega, by show _ + 6 ≤ _; omega⟩ (fun H locs hG => ?_)
    refine W.widen (k := 48 + 17 * j + 1) (n := 16900 + 2606 * j + 6) (Nat.le_refl _) (Nat.le_refl _) ?_
    have hG : xG D (fun q : Nat => s.heap.size ≤ q) s.heap (LW κ a am ad uh ur un us uo uv fo wp wk0 wk1) H locs := by rw [← xasc] at hG; exact xG_perm (xq4 _ _ _ _ _ _).symm hG
    refine lv_istore (lv' := [(5, .int 1), (0, .ref b), (1, .ref (a 25)), (2, .ref (am 0)), (3, .ref ad), (4, .int (nI (5 * j)))]) hx hb dL_law_813 hl (by decide) rfl (fun ls hl => ?_)
    have hl0 : lv_has ls 8 [(0, .ref b), (1, .ref (a 25)), (2, .ref (am 0)), (3, .ref ad), (4, .int (nI (5 * j))), (5, .int 1)] := lv_sub hl [1, 2, 3, 4, 5, 0] rfl
    replace hl := hl0
    refine lv_aload_n hx hb dL_law_815 rfl (lv_at hl 2 rfl) ?_
    refine lv_aload_n hx hb dL_law_816 rfl (lv_at hl 0 rfl) ?_
    refine lv_iload hx hb dL_law_817 (lv_at hl 4 rfl) ?_
    refine lv_iconst (v := 1) hx hb dL_law_819 (by decide) ?_
    refine lv_iadd hx hb dL_law_820 ?_
    refine x_sld (kn := 1) (by decide) (by decide) hj hL hx hb hX hbl hG.2.2 dL_law_821 (fun y5_1 ey5_1 => ?_)
    obtain rfl : x5_1 = y5_1 := ex5_1.trans ey5_1.symm
    refine x_callVl (pre := WH κ a uh ++ (WR κ a ur ++ (WN κ a un ++ (WS κ a us ++ WO κ a uo)))) (wc := WM κ am uv) (wc1 := WM κ am uv') (post := ([(ad, .inl (κ 1, 1, .inr (.inl fo)))] ++ (wp ++ (wk0 ++ wk1)))) (As := [.int x5_1]) (rest := []) (w1 := LW κ a am ad uh ur un us uo uv' fo wp wk0 wk1) ⟨hx, hb, hml, hown, hts⟩ hK hG hA rfl rfl (c_X5_key l D κ am H.size x5_1 uv r uv' hf5) (cwV 1 hts xG_X5_key rfl rfl rfl (by decide +kernel) ⟨Nat.le_of_ble_eq_true rfl, Nat.le_of_ble_eq_true rfl⟩) 0 5 rfl rfl rfl rfl hl.1 rfl (Nat.le_of_ble_eq_true rfl) dL_law_822 ⟨by omega, by omega⟩ (fun H locs hG => ?_)
    refine lv_lstore (lv' := [(6, .long r), (0, .ref b), (1, .ref (a 25)), (2, .ref (am 0)), (3, .ref ad), (4, .int (nI (5 * j))), (5, .int 1)]) hx hb dL_law_825 hl (by decide) rfl (fun ls hl => ?_)
    have hl0 : lv_has ls 8 [(0, .ref b), (1, .ref (a 25)), (2, .ref (am 0)), (3, .ref ad), (4, .int (nI (5 * j))), (5, .int 1), (6, .long r)] := lv_sub hl [1, 2, 3, 4, 5, 6, 0] rfl
    replace hl := hl0
    refine lv_aload_n hx hb dL_law_827 rfl (lv_at hl 2 rfl) ?_
    refine x_callVi (pre := WH κ a uh ++ (WR κ a ur ++ (WN κ a un ++ (WS κ a us ++ WO κ a uo)))) (wc := WM κ am uv') (wc1 := WM κ am uv') (post := ([(ad, .inl (κ 1, 1, .inr (.inl fo)))] ++ (wp ++ (wk0 ++ wk1)))) (As := []) (rest := []) (w1 := LW κ a am ad uh ur un us uo uv' fo wp wk0 wk1) ⟨hx, hb, hml, hown, hts⟩ hK hG hA rfl rfl (c_X5_thrown l D κ am H.size uv' 1 (by show some _ = _; rw [hth])) (cwV 0 hts xG_X5_thrown rfl rfl rfl (by decide +kernel) ⟨Nat.le_of_ble_eq_true rfl, Nat.le_of_ble_eq_true rfl⟩) 0 5 rfl rfl rfl rfl hl.1 rfl (Nat.le_of_ble_eq_true rfl) dL_law_828 ⟨by omega, by omega⟩ (fun H locs hG => ?_)
    refine lv_iload hx hb dL_law_831 (lv_at hl 5 rfl) ?_
    refine lv_icmp_eq (tgt := 838) hx hb dL_law_833 (by decide) (fun c1 => ?_) (fun c1 => absurd rfl c1)
    refine lv_iload hx hb dL_law_838 (lv_at hl 5 rfl) ?_
    refine lv_if_ne (tgt := 854) hx hb dL_law_840 (by decide) (fun c2 => ?_) (fun c2 => absurd c2 (by decide))
    refine lv_goto (tgt := 1805) hx hb dL_law_854 (by decide) ?_
    refine W.widen (k := 48 + 17 * (j + 1)) (n := 16900 + 2606 * (j + 1)) (by omega) (by omega) ?_
    exact hnext a am ad uh ur un us uo uv' fo wp wk0 wk1 pu u0 u1 n0 n1 hrel hpap hk0 hk1 H locs ls hG (lv_sub hl [0, 1, 2, 3, 4] rfl)
  · subst i9
    refine x_callSW (hh := [(0, 8, 11, 13)]) (X := fun _ => True) (pre := []) (wc := WH κ a uh ++ (WR κ a ur ++ (WN κ a un ++ (WS κ a us ++ (WO κ a uo ++ [(ad, .inl (κ 1, 1, .inr (.inl fo)))]))))) (wc1 := WH κ a uh ++ (WR κ a ur ++ (WN κ a un ++ (WS κ a us ++ (WO κ a uo ++ [(ad, .inl (κ 1, 1, .inr (.inl (vp_updL fo (0 : Int32).toNatClampNeg r))))]))))) (post := WM κ am uv ++ (wp ++ (wk0 ++ wk1))) (As := [.ref (a 25), .int x5_1, .ref ad]) (rest := []) (w1 := [] ++ ((WH κ a uh ++ (WR κ a ur ++ (WN κ a un ++ (WS κ a us ++ (WO κ a uo ++ [(ad, .inl (κ 1, 1, .inr (.inl (vp_updL fo (0 : Int32).toNatClampNeg r))))]))))) ++ (WM κ am uv ++ (wp ++ (wk0 ++ wk1))))) ⟨hx, hb, hml, hown, hts⟩ hK (fun _ _ _ _ h => h) hG hA rfl rfl (fun _ _ _ => trivial) (c_L_key l D κ a H.size x5_1 uh ur un us uo ad fo r hf4) (vx_cwSW 3 hts xG_L_key rfl rfl rfl (by decide +kernel) ⟨Nat.le_of_ble_eq_true rfl, Nat.le_of_ble_eq_true rfl⟩) rfl hl.1 rfl (Nat.le_of_ble_eq_true rfl) dL_law_810 ⟨by show _ + 0 ≤ _; omega, by show _ + 0 ≤ _; omega⟩ (fun H locs hG => ?_)
    refine W.widen (k := 48 + 17 * j) (n := 16900 + 2606 * j) (Nat.le_refl _) (Nat.le_refl _) ?_
    have hG : xG D (fun q : Nat => s.heap.size ≤ q) s.heap (LW κ a am ad uh ur un us uo uv (vp_updL fo (0 : Int32).toNatClampNeg r) wp wk0 wk1) H locs := by rw [← xasc] at hG; exact xG_perm (xq4 _ _ _ _ _ _).symm hG
    refine lv_istore (lv' := [(5, .int 0), (0, .ref b), (1, .ref (a 25)), (2, .ref (am 0)), (3, .ref ad), (4, .int (nI (5 * j)))]) hx hb dL_law_813 hl (by decide) rfl (fun ls hl => ?_)
    have hl0 : lv_has ls 8 [(0, .ref b), (1, .ref (a 25)), (2, .ref (am 0)), (3, .ref ad), (4, .int (nI (5 * j))), (5, .int 0)] := lv_sub hl [1, 2, 3, 4, 5, 0] rfl
    replace hl := hl0
    refine lv_aload_n hx hb dL_law_815 rfl (lv_at hl 2 rfl) ?_
    refine lv_aload_n hx hb dL_law_816 rfl (lv_at hl 0 rfl) ?_
    refine lv_iload hx hb dL_law_817 (lv_at hl 4 rfl) ?_
    refine lv_iconst (v := 1) hx hb dL_law_819 (by decide) ?_
    refine lv_iadd hx hb dL_law_820 ?_
    refine x_sld (kn := 1) (by decide) (by decide) hj hL hx hb hX hbl hG.2.2 dL_law_821 (fun y5_1 ey5_1 => ?_)
    obtain rfl : x5_1 = y5_1 := ex5_1.trans ey5_1.symm
    refine x_callVl (pre := WH κ a uh ++ (WR κ a ur ++ (WN κ a un ++ (WS κ a us ++ WO κ a uo)))) (wc := WM κ am uv) (wc1 := WM κ am uv') (post := ([(ad, .inl (κ 1, 1, .inr (.inl (vp_updL fo (0 : Int32).toNatClampNeg r))))] ++ (wp ++ (wk0 ++ wk1)))) (As := [.int x5_1]) (rest := []) (w1 := LW κ a am ad uh ur un us uo uv' (vp_updL fo (0 : Int32).toNatClampNeg r) wp wk0 wk1) ⟨hx, hb, hml, hown, hts⟩ hK hG hA rfl rfl (c_X5_key l D κ am H.size x5_1 uv r uv' hf5) (cwV 1 hts xG_X5_key rfl rfl rfl (by decide +kernel) ⟨Nat.le_of_ble_eq_true rfl, Nat.le_of_ble_eq_true rfl⟩) 0 5 rfl rfl rfl rfl hl.1 rfl (Nat.le_of_ble_eq_true rfl) dL_law_822 ⟨by omega, by omega⟩ (fun H locs hG => ?_)
    refine lv_lstore (lv' := [(6, .long r), (0, .ref b), (1, .ref (a 25)), (2, .ref (am 0)), (3, .ref ad), (4, .int (nI (5 * j))), (5, .int 0)]) hx hb dL_law_825 hl (by decide) rfl (fun ls hl => ?_)
    have hl0 : lv_has ls 8 [(0, .ref b), (1, .ref (a 25)), (2, .ref (am 0)), (3, .ref ad), (4, .int (nI (5 * j))), (5, .int 0), (6, .long r)] := lv_sub hl [1, 2, 3, 4, 5, 6, 0] rfl
    replace hl := hl0
    refine lv_aload_n hx hb dL_law_827 rfl (lv_at hl 2 rfl) ?_
    refine x_callVi (pre := WH κ a uh ++ (WR κ a ur ++ (WN κ a un ++ (WS κ a us ++ WO κ a uo)))) (wc := WM κ am uv') (wc1 := WM κ am uv') (post := ([(ad, .inl (κ 1, 1, .inr (.inl (vp_updL fo (0 : Int32).toNatClampNeg r))))] ++ (wp ++ (wk0 ++ wk1)))) (As := []) (rest := []) (w1 := LW κ a am ad uh ur un us uo uv' (vp_updL fo (0 : Int32).toNatClampNeg r) wp wk0 wk1) ⟨hx, hb, hml, hown, hts⟩ hK hG hA rfl rfl (c_X5_thrown l D κ am H.size uv' 0 (by show some _ = _; rw [hth])) (cwV 0 hts xG_X5_thrown rfl rfl rfl (by decide +kernel) ⟨Nat.le_of_ble_eq_true rfl, Nat.le_of_ble_eq_true rfl⟩) 0 5 rfl rfl rfl rfl hl.1 rfl (Nat.le_of_ble_eq_true rfl) dL_law_828 ⟨by omega, by omega⟩ (fun H locs hG => ?_)
    refine lv_iload hx hb dL_law_831 (lv_at hl 5 rfl) ?_
    refine lv_icmp_eq (tgt := 838) hx hb dL_law_833 (by decide) (fun c1 => ?_) (fun c1 => absurd rfl c1)
    refine lv_iload hx hb dL_law_838 (lv_at hl 5 rfl) ?_
    refine lv_if_ne (tgt := 854) hx hb dL_law_840 (by decide) (fun c2 => absurd rfl c2) (fun c2 => ?_)
    refine lv_aload_n hx hb dL_law_843 rfl (lv_at hl 3 rfl) ?_
    refine lv_iconst (v := 0) hx hb dL_law_844 (by decide) ?_
    refine x_lald hx hb hK hG 47 rfl (v := r) rfl x_in01 dL_law_845 ?_
    refine lv_lload hx hb dL_law_846 (lv_at hl 6 rfl) ?_
    refine W.lcmp hx hb dL_law_848 ?_
    refine lv_if_eq (tgt := 854) hx hb dL_law_849 (by decide) (fun c3 => ?_) (fun c3 => absurd ((lg_cmp_eq _ _).mpr rfl) c3)
    refine lv_goto (tgt := 1805) hx hb dL_law_854 (by decide) ?_
    refine W.widen (k := 48 + 17 * (j + 1)) (n := 16900 + 2606 * (j + 1)) (by omega) (by omega) ?_
    exact hnext a am ad uh ur un us uo uv' (vp_updL fo (0 : Int32).toNatClampNeg r) wp wk0 wk1 pu u0 u1 n0 n1 hrel hpap hk0 hk1 H locs ls hG (lv_sub hl [0, 1, 2, 3, 4] rfl)
set_option maxRecDepth 100000 in
set_option maxHeartbeats 4000000 in
theorem law_c19 (Rel : Nat → HS → NS → OS → HS → NS → HS → NS → MS → Prop) (hR : RS_item Rel) {p : Program} {l : Launch} {e : Env} {s : State} {m : MethodId} {below : List Frame} {meth : Method} {c : Code} {D : va_G} {κ : Nat → ClassId} {b L : Nat} {xs : Nat → Int32} (hL : L ≤ 2560) (C9 : lw_At p s m meth c b L xs) (hK : va_K D vwCl (xT κ) s) (hl0 : l.stackTraces = false) {sa : Nat} (hTH : xTH sa (fun q : Nat => s.heap.size ≤ q) s) (j : Nat) (hj : 5 * j + 5 ≤ L) (hnext : LAt Rel D κ p l e s m below meth c b 1805 j (j + 1)) : LAt Rel D κ p l e s m below meth c b 857 j j := by
  obtain ⟨hx, hb, hr, hml, hown, hts0, hX, hbl, hlocks, hgv⟩ := C9
  have hts : ∀ w ∈ wsLL, w.before #[Value.ref b] s = true := fun w h => hts0 w (xlw_LL w h)
  have hA : ∀ q : Nat, s.heap.size ≤ q → (fun q : Nat => s.heap.size ≤ q) q := fun _ h => h
  intro a am ad uh ur un us uo uv fo wp wk0 wk1 pu u0 u1 n0 n1 hrel hpap hk0 hk1 H locs ls hG hl
  have hcc : 48 + 17 * (j + 1) ≤ room_1.cells := by show _ ≤ 601024; omega
  have hss : 16900 + 2606 * (j + 1) ≤ room_1.slots := by show _ ≤ 7293034; omega
  refine lv_aload_n hx hb dL_law_857 rfl (lv_at hl 1 rfl) ?_
  refine lv_aload_n hx hb dL_law_858 rfl (lv_at hl 0 rfl) ?_
  refine lv_iload hx hb dL_law_859 (lv_at hl 4 rfl) ?_
  refine lv_iconst (v := 1) hx hb dL_law_861 (by decide) ?_
  refine lv_iadd hx hb dL_law_862 ?_
  refine x_sld (kn := 1) (by decide) (by decide) hj hL hx hb hX hbl hG.2.2 dL_law_863 (fun x5_1 ex5_1 => ?_)
  refine lv_aload_n hx hb dL_law_864 rfl (lv_at hl 0 rfl) ?_
  refine lv_iload hx hb dL_law_865 (lv_at hl 4 rfl) ?_
  refine lv_iconst (v := 2) hx hb dL_law_867 (by decide) ?_
  refine lv_iadd hx hb dL_law_868 ?_
  refine x_sld (kn := 2) (by decide) (by decide) hj hL hx hb hX hbl hG.2.2 dL_law_869 (fun x10_2 ex10_2 => ?_)
  refine lv_aload_n hx hb dL_law_870 rfl (lv_at hl 3 rfl) ?_
  obtain ⟨i9, r, ur', uv', hi9, hf5, hrel, hcase⟩ := hR j x5_1 x10_2 uh ur un us uo u0 n0 u1 n1 uv (by omega) hrel
  have hG : xG D (fun q : Nat => s.heap.size ≤ q) s.heap ([] ++ ((WH κ a uh ++ (WR κ a ur ++ (WN κ a un ++ (WS κ a us ++ (WO κ a uo ++ [(ad, .inl (κ 1, 1, .inr (.inl fo)))]))))) ++ (WM κ am uv ++ (wp ++ (wk0 ++ wk1))))) H locs := by rw [← xasc]; exact xG_perm (xq4 _ _ _ _ _ _) hG
  rcases hcase with ⟨hi0, hth⟩ | ⟨hi0, hth, hf4⟩
  · subst i9
    have hFr : ∀ q, va_A (WH κ a uh ++ (WR κ a ur ++ (WN κ a un ++ (WS κ a us ++ (WO κ a uo ++ [(ad, .inl (κ 1, 1, .inr (.inl fo)))]))))) H.size q → s.heap.size ≤ q := (x_frame (wc1 := []) hG hA rfl).2.2.1
    refine x_callSW (hh := [(0, 10, 13, 13)]) (X := fun U => xTH sa (va_A (WH κ a uh ++ (WR κ a ur ++ (WN κ a un ++ (WS κ a us ++ (WO κ a uo ++ [(ad, .inl (κ 1, 1, .inr (.inl fo)))]))))) H.size) U) (pre := []) (wc := WH κ a uh ++ (WR κ a ur ++ (WN κ a un ++ (WS κ a us ++ (WO κ a uo ++ [(ad, .inl (κ 1, 1, .inr (.inl fo)))]))))) (wc1 := WH κ a uh ++ (WR κ a ur ++ (WN κ a un ++ (WS κ a us ++ (WO κ a uo ++ [(ad, .inl (κ 1, 1, .inr (.inl fo)))]))))) (post := WM κ am uv ++ (wp ++ (wk0 ++ wk1))) (As := [.ref (a 25), .int x5_1, .int x10_2, .ref ad]) (rest := []) (w1 := [] ++ ((WH κ a uh ++ (WR κ a ur ++ (WN κ a un ++ (WS κ a us ++ (WO κ a uo ++ [(ad, .inl (κ 1, 1, .inr (.inl fo)))]))))) ++ (WM κ am uv ++ (wp ++ (wk0 ++ wk1))))) ⟨hx, hb, hml, hown, hts⟩ hK (fun _ _ _ _ h => h.calling) hG hA rfl rfl (fun U hU hW => xTH.at hW hU hG.2.2 hFr hTH) (t_L_item l hl0 D κ a H.size sa x5_1 x10_2 uh ur un us uo ad fo hi9) (vx_cwSW 4 hts xG_L_item rfl rfl rfl (by decide +kernel) ⟨Nat.le_of_ble_eq_true rfl, Nat.le_of_ble_eq_true rfl⟩) rfl hl.1 rfl (Nat.le_of_ble_eq_true rfl) dL_law_871 ⟨by show _ + 1 ≤ _; omega, by show _ + 6 ≤ _; omega⟩ (fun H locs hG => ?_)
    refine W.widen (k := 48 + 17 * j + 1) (n := 16900 + 2606 * j + 6) (Nat.le_refl _) (Nat.le_refl _) ?_
    have hG : xG D (fun q : Nat => s.heap.size ≤ q) s.heap (LW κ a am ad uh ur un us uo uv fo wp wk0 wk1) H locs := by rw [← xasc] at hG; exact xG_perm (xq4 _ _ _ _ _ _).symm hG
    refine lv_istore (lv' := [(5, .int 1), (0, .ref b), (1, .ref (a 25)), (2, .ref (am 0)), (3, .ref ad), (4, .int (nI (5 * j)))]) hx hb dL_law_874 hl (by decide) rfl (fun ls hl => ?_)
    have hl0 : lv_has ls 8 [(0, .ref b), (1, .ref (a 25)), (2, .ref (am 0)), (3, .ref ad), (4, .int (nI (5 * j))), (5, .int 1)] := lv_sub hl [1, 2, 3, 4, 5, 0] rfl
    replace hl := hl0
    refine lv_aload_n hx hb dL_law_876 rfl (lv_at hl 2 rfl) ?_
    refine lv_aload_n hx hb dL_law_877 rfl (lv_at hl 0 rfl) ?_
    refine lv_iload hx hb dL_law_878 (lv_at hl 4 rfl) ?_
    refine lv_iconst (v := 1) hx hb dL_law_880 (by decide) ?_
    refine lv_iadd hx hb dL_law_881 ?_
    refine x_sld (kn := 1) (by decide) (by decide) hj hL hx hb hX hbl hG.2.2 dL_law_882 (fun y5_1 ey5_1 => ?_)
    refine lv_aload_n hx hb dL_law_883 rfl (lv_at hl 0 rfl) ?_
    refine lv_iload hx hb dL_law_884 (lv_at hl 4 rfl) ?_
    refine lv_iconst (v := 2) hx hb dL_law_886 (by decide) ?_
    refine lv_iadd hx hb dL_law_887 ?_
    refine x_sld (kn := 2) (by decide) (by decide) hj hL hx hb hX hbl hG.2.2 dL_law_888 (fun y10_2 ey10_2 => ?_)
    obtain rfl : x5_1 = y5_1 := ex5_1.trans ey5_1.symm
    obtain rfl : x10_2 = y10_2 := ex10_2.trans ey10_2.symm
    refine x_callVi (pre := WH κ a uh ++ (WR κ a ur ++ (WN κ a un ++ (WS κ a us ++ WO κ a uo)))) (wc := WM κ am uv) (wc1 := WM κ am uv') (post := ([(ad, .inl (κ 1, 1, .inr (.inl fo)))] ++ (wp ++ (wk0 ++ wk1)))) (As := [.int x5_1, .int x10_2]) (rest := []) (w1 := LW κ a am ad uh ur un us uo uv' fo wp wk0 wk1) ⟨hx, hb, hml, hown, hts⟩ hK hG hA rfl rfl (c_X5_item l D κ am H.size x5_1 x10_2 uv r uv' hf5) (cwV 2 hts xG_X5_item rfl rfl rfl (by decide +kernel) ⟨Nat.le_of_ble_eq_true rfl, Nat.le_of_ble_eq_true rfl⟩) 0 5 rfl rfl rfl rfl hl.1 rfl (Nat.le_of_ble_eq_true rfl) dL_law_889 ⟨by omega, by omega⟩ (fun H locs hG => ?_)
    refine lv_istore (lv' := [(6, .int r), (0, .ref b), (1, .ref (a 25)), (2, .ref (am 0)), (3, .ref ad), (4, .int (nI (5 * j))), (5, .int 1)]) hx hb dL_law_892 hl (by decide) rfl (fun ls hl => ?_)
    have hl0 : lv_has ls 8 [(0, .ref b), (1, .ref (a 25)), (2, .ref (am 0)), (3, .ref ad), (4, .int (nI (5 * j))), (5, .int 1), (6, .int r)] := lv_sub hl [1, 2, 3, 4, 5, 6, 0] rfl
    replace hl := hl0
    refine lv_aload_n hx hb dL_law_894 rfl (lv_at hl 2 rfl) ?_
    refine x_callVi (pre := WH κ a uh ++ (WR κ a ur ++ (WN κ a un ++ (WS κ a us ++ WO κ a uo)))) (wc := WM κ am uv') (wc1 := WM κ am uv') (post := ([(ad, .inl (κ 1, 1, .inr (.inl fo)))] ++ (wp ++ (wk0 ++ wk1)))) (As := []) (rest := []) (w1 := LW κ a am ad uh ur un us uo uv' fo wp wk0 wk1) ⟨hx, hb, hml, hown, hts⟩ hK hG hA rfl rfl (c_X5_thrown l D κ am H.size uv' 1 (by show some _ = _; rw [hth])) (cwV 0 hts xG_X5_thrown rfl rfl rfl (by decide +kernel) ⟨Nat.le_of_ble_eq_true rfl, Nat.le_of_ble_eq_true rfl⟩) 0 5 rfl rfl rfl rfl hl.1 rfl (Nat.le_of_ble_eq_true rfl) dL_law_895 ⟨by omega, by omega⟩ (fun H locs hG => ?_)
    refine lv_iload hx hb dL_law_898 (lv_at hl 5 rfl) ?_
    refine lv_icmp_eq (tgt := 905) hx hb dL_law_900 (by decide) (fun c1 => ?_) (fun c1 => absurd rfl c1)
    refine lv_iload hx hb dL_law_905 (lv_at hl 5 rfl) ?_
    refine lv_if_ne (tgt := 922) hx hb dL_law_907 (by decide) (fun c2 => ?_) (fun c2 => absurd c2 (by decide))
    refine lv_goto (tgt := 1805) hx hb dL_law_922 (by decide) ?_
    refine W.widen (k := 48 + 17 * (j + 1)) (n := 16900 + 2606 * (j + 1)) (by omega) (by omega) ?_
    exact hnext a am ad uh ur un us uo uv' fo wp wk0 wk1 pu u0 u1 n0 n1 hrel hpap hk0 hk1 H locs ls hG (lv_sub hl [0, 1, 2, 3, 4] rfl)
  · subst i9
    refine x_callSW (hh := [(0, 10, 13, 13)]) (X := fun _ => True) (pre := []) (wc := WH κ a uh ++ (WR κ a ur ++ (WN κ a un ++ (WS κ a us ++ (WO κ a uo ++ [(ad, .inl (κ 1, 1, .inr (.inl fo)))]))))) (wc1 := WH κ a uh ++ (WR κ a ur' ++ (WN κ a un ++ (WS κ a us ++ (WO κ a uo ++ [(ad, .inl (κ 1, 1, .inr (.inl (vp_updL fo (0 : Int32).toNatClampNeg (r.toInt64)))))]))))) (post := WM κ am uv ++ (wp ++ (wk0 ++ wk1))) (As := [.ref (a 25), .int x5_1, .int x10_2, .ref ad]) (rest := []) (w1 := [] ++ ((WH κ a uh ++ (WR κ a ur' ++ (WN κ a un ++ (WS κ a us ++ (WO κ a uo ++ [(ad, .inl (κ 1, 1, .inr (.inl (vp_updL fo (0 : Int32).toNatClampNeg (r.toInt64)))))]))))) ++ (WM κ am uv ++ (wp ++ (wk0 ++ wk1))))) ⟨hx, hb, hml, hown, hts⟩ hK (fun _ _ _ _ h => h) hG hA rfl rfl (fun _ _ _ => trivial) (c_L_item l D κ a H.size x5_1 x10_2 uh ur un us uo ad fo r ur' hf4) (vx_cwSW 4 hts xG_L_item rfl rfl rfl (by decide +kernel) ⟨Nat.le_of_ble_eq_true rfl, Nat.le_of_ble_eq_true rfl⟩) rfl hl.1 rfl (Nat.le_of_ble_eq_true rfl) dL_law_871 ⟨by show _ + 0 ≤ _; omega, by show _ + 0 ≤ _; omega⟩ (fun H locs hG => ?_)
    refine W.widen (k := 48 + 17 * j) (n := 16900 + 2606 * j) (Nat.le_refl _) (Nat.le_refl _) ?_
    have hG : xG D (fun q : Nat => s.heap.size ≤ q) s.heap (LW κ a am ad uh ur' un us uo uv (vp_updL fo (0 : Int32).toNatClampNeg (r.toInt64)) wp wk0 wk1) H locs := by rw [← xasc] at hG; exact xG_perm (xq4 _ _ _ _ _ _).symm hG
    refine lv_istore (lv' := [(5, .int 0), (0, .ref b), (1, .ref (a 25)), (2, .ref (am 0)), (3, .ref ad), (4, .int (nI (5 * j)))]) hx hb dL_law_874 hl (by decide) rfl (fun ls hl => ?_)
    have hl0 : lv_has ls 8 [(0, .ref b), (1, .ref (a 25)), (2, .ref (am 0)), (3, .ref ad), (4, .int (nI (5 * j))), (5, .int 0)] := lv_sub hl [1, 2, 3, 4, 5, 0] rfl
    replace hl := hl0
    refine lv_aload_n hx hb dL_law_876 rfl (lv_at hl 2 rfl) ?_
    refine lv_aload_n hx hb dL_law_877 rfl (lv_at hl 0 rfl) ?_
    refine lv_iload hx hb dL_law_878 (lv_at hl 4 rfl) ?_
    refine lv_iconst (v := 1) hx hb dL_law_880 (by decide) ?_
    refine lv_iadd hx hb dL_law_881 ?_
    refine x_sld (kn := 1) (by decide) (by decide) hj hL hx hb hX hbl hG.2.2 dL_law_882 (fun y5_1 ey5_1 => ?_)
    refine lv_aload_n hx hb dL_law_883 rfl (lv_at hl 0 rfl) ?_
    refine lv_iload hx hb dL_law_884 (lv_at hl 4 rfl) ?_
    refine lv_iconst (v := 2) hx hb dL_law_886 (by decide) ?_
    refine lv_iadd hx hb dL_law_887 ?_
    refine x_sld (kn := 2) (by decide) (by decide) hj hL hx hb hX hbl hG.2.2 dL_law_888 (fun y10_2 ey10_2 => ?_)
    obtain rfl : x5_1 = y5_1 := ex5_1.trans ey5_1.symm
    obtain rfl : x10_2 = y10_2 := ex10_2.trans ey10_2.symm
    refine x_callVi (pre := WH κ a uh ++ (WR κ a ur' ++ (WN κ a un ++ (WS κ a us ++ WO κ a uo)))) (wc := WM κ am uv) (wc1 := WM κ am uv') (post := ([(ad, .inl (κ 1, 1, .inr (.inl (vp_updL fo (0 : Int32).toNatClampNeg (r.toInt64)))))] ++ (wp ++ (wk0 ++ wk1)))) (As := [.int x5_1, .int x10_2]) (rest := []) (w1 := LW κ a am ad uh ur' un us uo uv' (vp_updL fo (0 : Int32).toNatClampNeg (r.toInt64)) wp wk0 wk1) ⟨hx, hb, hml, hown, hts⟩ hK hG hA rfl rfl (c_X5_item l D κ am H.size x5_1 x10_2 uv r uv' hf5) (cwV 2 hts xG_X5_item rfl rfl rfl (by decide +kernel) ⟨Nat.le_of_ble_eq_true rfl, Nat.le_of_ble_eq_true rfl⟩) 0 5 rfl rfl rfl rfl hl.1 rfl (Nat.le_of_ble_eq_true rfl) dL_law_889 ⟨by omega, by omega⟩ (fun H locs hG => ?_)
    refine lv_istore (lv' := [(6, .int r), (0, .ref b), (1, .ref (a 25)), (2, .ref (am 0)), (3, .ref ad), (4, .int (nI (5 * j))), (5, .int 0)]) hx hb dL_law_892 hl (by decide) rfl (fun ls hl => ?_)
    have hl0 : lv_has ls 8 [(0, .ref b), (1, .ref (a 25)), (2, .ref (am 0)), (3, .ref ad), (4, .int (nI (5 * j))), (5, .int 0), (6, .int r)] := lv_sub hl [1, 2, 3, 4, 5, 6, 0] rfl
    replace hl := hl0
    refine lv_aload_n hx hb dL_law_894 rfl (lv_at hl 2 rfl) ?_
    refine x_callVi (pre := WH κ a uh ++ (WR κ a ur' ++ (WN κ a un ++ (WS κ a us ++ WO κ a uo)))) (wc := WM κ am uv') (wc1 := WM κ am uv') (post := ([(ad, .inl (κ 1, 1, .inr (.inl (vp_updL fo (0 : Int32).toNatClampNeg (r.toInt64)))))] ++ (wp ++ (wk0 ++ wk1)))) (As := []) (rest := []) (w1 := LW κ a am ad uh ur' un us uo uv' (vp_updL fo (0 : Int32).toNatClampNeg (r.toInt64)) wp wk0 wk1) ⟨hx, hb, hml, hown, hts⟩ hK hG hA rfl rfl (c_X5_thrown l D κ am H.size uv' 0 (by show some _ = _; rw [hth])) (cwV 0 hts xG_X5_thrown rfl rfl rfl (by decide +kernel) ⟨Nat.le_of_ble_eq_true rfl, Nat.le_of_ble_eq_true rfl⟩) 0 5 rfl rfl rfl rfl hl.1 rfl (Nat.le_of_ble_eq_true rfl) dL_law_895 ⟨by omega, by omega⟩ (fun H locs hG => ?_)
    refine lv_iload hx hb dL_law_898 (lv_at hl 5 rfl) ?_
    refine lv_icmp_eq (tgt := 905) hx hb dL_law_900 (by decide) (fun c1 => ?_) (fun c1 => absurd rfl c1)
    refine lv_iload hx hb dL_law_905 (lv_at hl 5 rfl) ?_
    refine lv_if_ne (tgt := 922) hx hb dL_law_907 (by decide) (fun c2 => absurd rfl c2) (fun c2 => ?_)
    refine lv_aload_n hx hb dL_law_910 rfl (lv_at hl 3 rfl) ?_
    refine lv_iconst (v := 0) hx hb dL_law_911 (by decide) ?_
    refine x_lald hx hb hK hG 47 rfl (v := (r.toInt64)) rfl x_in01 dL_law_912 ?_
    refine lv_iload hx hb dL_law_913 (lv_at hl 6 rfl) ?_
    refine lv_i2l hx hb dL_law_915 rfl ?_
    refine W.lcmp hx hb dL_law_916 ?_
    refine lv_if_eq (tgt := 922) hx hb dL_law_917 (by decide) (fun c3 => ?_) (fun c3 => absurd ((lg_cmp_eq _ _).mpr rfl) c3)
    refine lv_goto (tgt := 1805) hx hb dL_law_922 (by decide) ?_
    refine W.widen (k := 48 + 17 * (j + 1)) (n := 16900 + 2606 * (j + 1)) (by omega) (by omega) ?_
    exact hnext a am ad uh ur' un us uo uv' (vp_updL fo (0 : Int32).toNatClampNeg (r.toInt64)) wp wk0 wk1 pu u0 u1 n0 n1 hrel hpap hk0 hk1 H locs ls hG (lv_sub hl [0, 1, 2, 3, 4] rfl)
set_option maxRecDepth 100000 in
set_option maxHeartbeats 4000000 in
theorem law_c27 (Rel : Nat → HS → NS → OS → HS → NS → HS → NS → MS → Prop) (hR : RS_above Rel) {p : Program} {l : Launch} {e : Env} {s : State} {m : MethodId} {below : List Frame} {meth : Method} {c : Code} {D : va_G} {κ : Nat → ClassId} {b L : Nat} {xs : Nat → Int32} (hL : L ≤ 2560) (C9 : lw_At p s m meth c b L xs) (hK : va_K D vwCl (xT κ) s) (hl0 : l.stackTraces = false) {sa : Nat} (hTH : xTH sa (fun q : Nat => s.heap.size ≤ q) s) (j : Nat) (hj : 5 * j + 5 ≤ L) (hnext : LAt Rel D κ p l e s m below meth c b 1805 j (j + 1)) : LAt Rel D κ p l e s m below meth c b 1254 j j := by
  obtain ⟨hx, hb, hr, hml, hown, hts0, hX, hbl, hlocks, hgv⟩ := C9
  have hts : ∀ w ∈ wsLL, w.before #[Value.ref b] s = true := fun w h => hts0 w (xlw_LL w h)
  have hA : ∀ q : Nat, s.heap.size ≤ q → (fun q : Nat => s.heap.size ≤ q) q := fun _ h => h
  intro a am ad uh ur un us uo uv fo wp wk0 wk1 pu u0 u1 n0 n1 hrel hpap hk0 hk1 H locs ls hG hl
  have hcc : 48 + 17 * (j + 1) ≤ room_1.cells := by show _ ≤ 601024; omega
  have hss : 16900 + 2606 * (j + 1) ≤ room_1.slots := by show _ ≤ 7293034; omega
  refine lv_aload_n hx hb dL_law_1254 rfl (lv_at hl 1 rfl) ?_
  refine lv_aload_n hx hb dL_law_1255 rfl (lv_at hl 0 rfl) ?_
  refine lv_iload hx hb dL_law_1256 (lv_at hl 4 rfl) ?_
  refine lv_iconst (v := 1) hx hb dL_law_1258 (by decide) ?_
  refine lv_iadd hx hb dL_law_1259 ?_
  refine x_sld (kn := 1) (by decide) (by decide) hj hL hx hb hX hbl hG.2.2 dL_law_1260 (fun x5_1 ex5_1 => ?_)
  refine lv_aload_n hx hb dL_law_1261 rfl (lv_at hl 0 rfl) ?_
  refine lv_iload hx hb dL_law_1262 (lv_at hl 4 rfl) ?_
  refine lv_iconst (v := 2) hx hb dL_law_1264 (by decide) ?_
  refine lv_iadd hx hb dL_law_1265 ?_
  refine x_sld (kn := 2) (by decide) (by decide) hj hL hx hb hX hbl hG.2.2 dL_law_1266 (fun x10_2 ex10_2 => ?_)
  refine lv_aload_n hx hb dL_law_1267 rfl (lv_at hl 3 rfl) ?_
  obtain ⟨i9, r, ur', uv', hi9, hf5, hrel, hcase⟩ := hR j x5_1 x10_2 uh ur un us uo u0 n0 u1 n1 uv (by omega) hrel
  have hG : xG D (fun q : Nat => s.heap.size ≤ q) s.heap ([] ++ ((WH κ a uh ++ (WR κ a ur ++ (WN κ a un ++ (WS κ a us ++ (WO κ a uo ++ [(ad, .inl (κ 1, 1, .inr (.inl fo)))]))))) ++ (WM κ am uv ++ (wp ++ (wk0 ++ wk1))))) H locs := by rw [← xasc]; exact xG_perm (xq4 _ _ _ _ _ _) hG
  rcases hcase with ⟨hi0, hth⟩ | ⟨hi0, hth, hf4⟩
  · subst i9
    have hFr : ∀ q, va_A (WH κ a uh ++ (WR κ a ur ++ (WN κ a un ++ (WS κ a us ++ (WO κ a uo ++ [(ad, .inl (κ 1, 1, .inr (.inl fo)))]))))) H.size q → s.heap.size ≤ q := (x_frame (wc1 := []) hG hA rfl).2.2.1
    refine x_callSW (hh := [(0, 10, 13, 13)]) (X := fun U => xTH sa (va_A (WH κ a uh ++ (WR κ a ur ++ (WN κ a un ++ (WS κ a us ++ (WO κ a uo ++ [(ad, .inl (κ 1, 1, .inr (.inl fo)))]))))) H.size) U) (pre := []) (wc := WH κ a uh ++ (WR κ a ur ++ (WN κ a un ++ (WS κ a us ++ (WO κ a uo ++ [(ad, .inl (κ 1, 1, .inr (.inl fo)))]))))) (wc1 := WH κ a uh ++ (WR κ a ur ++ (WN κ a un ++ (WS κ a us ++ (WO κ a uo ++ [(ad, .inl (κ 1, 1, .inr (.inl fo)))]))))) (post := WM κ am uv ++ (wp ++ (wk0 ++ wk1))) (As := [.ref (a 25), .int x5_1, .int x10_2, .ref ad]) (rest := []) (w1 := [] ++ ((WH κ a uh ++ (WR κ a ur ++ (WN κ a un ++ (WS κ a us ++ (WO κ a uo ++ [(ad, .inl (κ 1, 1, .inr (.inl fo)))]))))) ++ (WM κ am uv ++ (wp ++ (wk0 ++ wk1))))) ⟨hx, hb, hml, hown, hts⟩ hK (fun _ _ _ _ h => h.calling) hG hA rfl rfl (fun U hU hW => xTH.at hW hU hG.2.2 hFr hTH) (t_L_above l hl0 D κ a H.size sa x5_1 x10_2 uh ur un us uo ad fo hi9) (vx_cwSW 4 hts xG_L_above rfl rfl rfl (by decide +kernel) ⟨Nat.le_of_ble_eq_true rfl, Nat.le_of_ble_eq_true rfl⟩) rfl hl.1 rfl (Nat.le_of_ble_eq_true rfl) dL_law_1268 ⟨by show _ + 1 ≤ _; omega, by show _ + 6 ≤ _; omega⟩ (fun H locs hG => ?_)
    refine W.widen (k := 48 + 17 * j + 1) (n := 16900 + 2606 * j + 6) (Nat.le_refl _) (Nat.le_refl _) ?_
    have hG : xG D (fun q : Nat => s.heap.size ≤ q) s.heap (LW κ a am ad uh ur un us uo uv fo wp wk0 wk1) H locs := by rw [← xasc] at hG; exact xG_perm (xq4 _ _ _ _ _ _).symm hG
    refine lv_istore (lv' := [(5, .int 1), (0, .ref b), (1, .ref (a 25)), (2, .ref (am 0)), (3, .ref ad), (4, .int (nI (5 * j)))]) hx hb dL_law_1271 hl (by decide) rfl (fun ls hl => ?_)
    have hl0 : lv_has ls 8 [(0, .ref b), (1, .ref (a 25)), (2, .ref (am 0)), (3, .ref ad), (4, .int (nI (5 * j))), (5, .int 1)] := lv_sub hl [1, 2, 3, 4, 5, 0] rfl
    replace hl := hl0
    refine lv_aload_n hx hb dL_law_1273 rfl (lv_at hl 2 rfl) ?_
    refine lv_aload_n hx hb dL_law_1274 rfl (lv_at hl 0 rfl) ?_
    refine lv_iload hx hb dL_law_1275 (lv_at hl 4 rfl) ?_
    refine lv_iconst (v := 1) hx hb dL_law_1277 (by decide) ?_
    refine lv_iadd hx hb dL_law_1278 ?_
    refine x_sld (kn := 1) (by decide) (by decide) hj hL hx hb hX hbl hG.2.2 dL_law_1279 (fun y5_1 ey5_1 => ?_)
    refine lv_aload_n hx hb dL_law_1280 rfl (lv_at hl 0 rfl) ?_
    refine lv_iload hx hb dL_law_1281 (lv_at hl 4 rfl) ?_
    refine lv_iconst (v := 2) hx hb dL_law_1283 (by decide) ?_
    refine lv_iadd hx hb dL_law_1284 ?_
    refine x_sld (kn := 2) (by decide) (by decide) hj hL hx hb hX hbl hG.2.2 dL_law_1285 (fun y10_2 ey10_2 => ?_)
    obtain rfl : x5_1 = y5_1 := ex5_1.trans ey5_1.symm
    obtain rfl : x10_2 = y10_2 := ex10_2.trans ey10_2.symm
    refine x_callVi (pre := WH κ a uh ++ (WR κ a ur ++ (WN κ a un ++ (WS κ a us ++ WO κ a uo)))) (wc := WM κ am uv) (wc1 := WM κ am uv') (post := ([(ad, .inl (κ 1, 1, .inr (.inl fo)))] ++ (wp ++ (wk0 ++ wk1)))) (As := [.int x5_1, .int x10_2]) (rest := []) (w1 := LW κ a am ad uh ur un us uo uv' fo wp wk0 wk1) ⟨hx, hb, hml, hown, hts⟩ hK hG hA rfl rfl (c_X5_above l D κ am H.size x5_1 x10_2 uv r uv' hf5) (cwV 2 hts xG_X5_above rfl rfl rfl (by decide +kernel) ⟨Nat.le_of_ble_eq_true rfl, Nat.le_of_ble_eq_true rfl⟩) 0 5 rfl rfl rfl rfl hl.1 rfl (Nat.le_of_ble_eq_true rfl) dL_law_1286 ⟨by omega, by omega⟩ (fun H locs hG => ?_)
    refine lv_istore (lv' := [(6, .int r), (0, .ref b), (1, .ref (a 25)), (2, .ref (am 0)), (3, .ref ad), (4, .int (nI (5 * j))), (5, .int 1)]) hx hb dL_law_1289 hl (by decide) rfl (fun ls hl => ?_)
    have hl0 : lv_has ls 8 [(0, .ref b), (1, .ref (a 25)), (2, .ref (am 0)), (3, .ref ad), (4, .int (nI (5 * j))), (5, .int 1), (6, .int r)] := lv_sub hl [1, 2, 3, 4, 5, 6, 0] rfl
    replace hl := hl0
    refine lv_aload_n hx hb dL_law_1291 rfl (lv_at hl 2 rfl) ?_
    refine x_callVi (pre := WH κ a uh ++ (WR κ a ur ++ (WN κ a un ++ (WS κ a us ++ WO κ a uo)))) (wc := WM κ am uv') (wc1 := WM κ am uv') (post := ([(ad, .inl (κ 1, 1, .inr (.inl fo)))] ++ (wp ++ (wk0 ++ wk1)))) (As := []) (rest := []) (w1 := LW κ a am ad uh ur un us uo uv' fo wp wk0 wk1) ⟨hx, hb, hml, hown, hts⟩ hK hG hA rfl rfl (c_X5_thrown l D κ am H.size uv' 1 (by show some _ = _; rw [hth])) (cwV 0 hts xG_X5_thrown rfl rfl rfl (by decide +kernel) ⟨Nat.le_of_ble_eq_true rfl, Nat.le_of_ble_eq_true rfl⟩) 0 5 rfl rfl rfl rfl hl.1 rfl (Nat.le_of_ble_eq_true rfl) dL_law_1292 ⟨by omega, by omega⟩ (fun H locs hG => ?_)
    refine lv_iload hx hb dL_law_1295 (lv_at hl 5 rfl) ?_
    refine lv_icmp_eq (tgt := 1302) hx hb dL_law_1297 (by decide) (fun c1 => ?_) (fun c1 => absurd rfl c1)
    refine lv_iload hx hb dL_law_1302 (lv_at hl 5 rfl) ?_
    refine lv_if_ne (tgt := 1319) hx hb dL_law_1304 (by decide) (fun c2 => ?_) (fun c2 => absurd c2 (by decide))
    refine lv_goto (tgt := 1805) hx hb dL_law_1319 (by decide) ?_
    refine W.widen (k := 48 + 17 * (j + 1)) (n := 16900 + 2606 * (j + 1)) (by omega) (by omega) ?_
    exact hnext a am ad uh ur un us uo uv' fo wp wk0 wk1 pu u0 u1 n0 n1 hrel hpap hk0 hk1 H locs ls hG (lv_sub hl [0, 1, 2, 3, 4] rfl)
  · subst i9
    refine x_callSW (hh := [(0, 10, 13, 13)]) (X := fun _ => True) (pre := []) (wc := WH κ a uh ++ (WR κ a ur ++ (WN κ a un ++ (WS κ a us ++ (WO κ a uo ++ [(ad, .inl (κ 1, 1, .inr (.inl fo)))]))))) (wc1 := WH κ a uh ++ (WR κ a ur ++ (WN κ a un ++ (WS κ a us ++ (WO κ a uo ++ [(ad, .inl (κ 1, 1, .inr (.inl (vp_updL fo (0 : Int32).toNatClampNeg (r.toInt64)))))]))))) (post := WM κ am uv ++ (wp ++ (wk0 ++ wk1))) (As := [.ref (a 25), .int x5_1, .int x10_2, .ref ad]) (rest := []) (w1 := [] ++ ((WH κ a uh ++ (WR κ a ur ++ (WN κ a un ++ (WS κ a us ++ (WO κ a uo ++ [(ad, .inl (κ 1, 1, .inr (.inl (vp_updL fo (0 : Int32).toNatClampNeg (r.toInt64)))))]))))) ++ (WM κ am uv ++ (wp ++ (wk0 ++ wk1))))) ⟨hx, hb, hml, hown, hts⟩ hK (fun _ _ _ _ h => h) hG hA rfl rfl (fun _ _ _ => trivial) (c_L_above l D κ a H.size x5_1 x10_2 uh ur un us uo ad fo r hf4) (vx_cwSW 4 hts xG_L_above rfl rfl rfl (by decide +kernel) ⟨Nat.le_of_ble_eq_true rfl, Nat.le_of_ble_eq_true rfl⟩) rfl hl.1 rfl (Nat.le_of_ble_eq_true rfl) dL_law_1268 ⟨by show _ + 0 ≤ _; omega, by show _ + 0 ≤ _; omega⟩ (fun H locs hG => ?_)
    refine W.widen (k := 48 + 17 * j) (n := 16900 + 2606 * j) (Nat.le_refl _) (Nat.le_refl _) ?_
    have hG : xG D (fun q : Nat => s.heap.size ≤ q) s.heap (LW κ a am ad uh ur un us uo uv (vp_updL fo (0 : Int32).toNatClampNeg (r.toInt64)) wp wk0 wk1) H locs := by rw [← xasc] at hG; exact xG_perm (xq4 _ _ _ _ _ _).symm hG
    refine lv_istore (lv' := [(5, .int 0), (0, .ref b), (1, .ref (a 25)), (2, .ref (am 0)), (3, .ref ad), (4, .int (nI (5 * j)))]) hx hb dL_law_1271 hl (by decide) rfl (fun ls hl => ?_)
    have hl0 : lv_has ls 8 [(0, .ref b), (1, .ref (a 25)), (2, .ref (am 0)), (3, .ref ad), (4, .int (nI (5 * j))), (5, .int 0)] := lv_sub hl [1, 2, 3, 4, 5, 0] rfl
    replace hl := hl0
    refine lv_aload_n hx hb dL_law_1273 rfl (lv_at hl 2 rfl) ?_
    refine lv_aload_n hx hb dL_law_1274 rfl (lv_at hl 0 rfl) ?_
    refine lv_iload hx hb dL_law_1275 (lv_at hl 4 rfl) ?_
    refine lv_iconst (v := 1) hx hb dL_law_1277 (by decide) ?_
    refine lv_iadd hx hb dL_law_1278 ?_
    refine x_sld (kn := 1) (by decide) (by decide) hj hL hx hb hX hbl hG.2.2 dL_law_1279 (fun y5_1 ey5_1 => ?_)
    refine lv_aload_n hx hb dL_law_1280 rfl (lv_at hl 0 rfl) ?_
    refine lv_iload hx hb dL_law_1281 (lv_at hl 4 rfl) ?_
    refine lv_iconst (v := 2) hx hb dL_law_1283 (by decide) ?_
    refine lv_iadd hx hb dL_law_1284 ?_
    refine x_sld (kn := 2) (by decide) (by decide) hj hL hx hb hX hbl hG.2.2 dL_law_1285 (fun y10_2 ey10_2 => ?_)
    obtain rfl : x5_1 = y5_1 := ex5_1.trans ey5_1.symm
    obtain rfl : x10_2 = y10_2 := ex10_2.trans ey10_2.symm
    refine x_callVi (pre := WH κ a uh ++ (WR κ a ur ++ (WN κ a un ++ (WS κ a us ++ WO κ a uo)))) (wc := WM κ am uv) (wc1 := WM κ am uv') (post := ([(ad, .inl (κ 1, 1, .inr (.inl (vp_updL fo (0 : Int32).toNatClampNeg (r.toInt64)))))] ++ (wp ++ (wk0 ++ wk1)))) (As := [.int x5_1, .int x10_2]) (rest := []) (w1 := LW κ a am ad uh ur un us uo uv' (vp_updL fo (0 : Int32).toNatClampNeg (r.toInt64)) wp wk0 wk1) ⟨hx, hb, hml, hown, hts⟩ hK hG hA rfl rfl (c_X5_above l D κ am H.size x5_1 x10_2 uv r uv' hf5) (cwV 2 hts xG_X5_above rfl rfl rfl (by decide +kernel) ⟨Nat.le_of_ble_eq_true rfl, Nat.le_of_ble_eq_true rfl⟩) 0 5 rfl rfl rfl rfl hl.1 rfl (Nat.le_of_ble_eq_true rfl) dL_law_1286 ⟨by omega, by omega⟩ (fun H locs hG => ?_)
    refine lv_istore (lv' := [(6, .int r), (0, .ref b), (1, .ref (a 25)), (2, .ref (am 0)), (3, .ref ad), (4, .int (nI (5 * j))), (5, .int 0)]) hx hb dL_law_1289 hl (by decide) rfl (fun ls hl => ?_)
    have hl0 : lv_has ls 8 [(0, .ref b), (1, .ref (a 25)), (2, .ref (am 0)), (3, .ref ad), (4, .int (nI (5 * j))), (5, .int 0), (6, .int r)] := lv_sub hl [1, 2, 3, 4, 5, 6, 0] rfl
    replace hl := hl0
    refine lv_aload_n hx hb dL_law_1291 rfl (lv_at hl 2 rfl) ?_
    refine x_callVi (pre := WH κ a uh ++ (WR κ a ur ++ (WN κ a un ++ (WS κ a us ++ WO κ a uo)))) (wc := WM κ am uv') (wc1 := WM κ am uv') (post := ([(ad, .inl (κ 1, 1, .inr (.inl (vp_updL fo (0 : Int32).toNatClampNeg (r.toInt64)))))] ++ (wp ++ (wk0 ++ wk1)))) (As := []) (rest := []) (w1 := LW κ a am ad uh ur un us uo uv' (vp_updL fo (0 : Int32).toNatClampNeg (r.toInt64)) wp wk0 wk1) ⟨hx, hb, hml, hown, hts⟩ hK hG hA rfl rfl (c_X5_thrown l D κ am H.size uv' 0 (by show some _ = _; rw [hth])) (cwV 0 hts xG_X5_thrown rfl rfl rfl (by decide +kernel) ⟨Nat.le_of_ble_eq_true rfl, Nat.le_of_ble_eq_true rfl⟩) 0 5 rfl rfl rfl rfl hl.1 rfl (Nat.le_of_ble_eq_true rfl) dL_law_1292 ⟨by omega, by omega⟩ (fun H locs hG => ?_)
    refine lv_iload hx hb dL_law_1295 (lv_at hl 5 rfl) ?_
    refine lv_icmp_eq (tgt := 1302) hx hb dL_law_1297 (by decide) (fun c1 => ?_) (fun c1 => absurd rfl c1)
    refine lv_iload hx hb dL_law_1302 (lv_at hl 5 rfl) ?_
    refine lv_if_ne (tgt := 1319) hx hb dL_law_1304 (by decide) (fun c2 => absurd rfl c2) (fun c2 => ?_)
    refine lv_aload_n hx hb dL_law_1307 rfl (lv_at hl 3 rfl) ?_
    refine lv_iconst (v := 0) hx hb dL_law_1308 (by decide) ?_
    refine x_lald hx hb hK hG 47 rfl (v := (r.toInt64)) rfl x_in01 dL_law_1309 ?_
    refine lv_iload hx hb dL_law_1310 (lv_at hl 6 rfl) ?_
    refine lv_i2l hx hb dL_law_1312 rfl ?_
    refine W.lcmp hx hb dL_law_1313 ?_
    refine lv_if_eq (tgt := 1319) hx hb dL_law_1314 (by decide) (fun c3 => ?_) (fun c3 => absurd ((lg_cmp_eq _ _).mpr rfl) c3)
    refine lv_goto (tgt := 1805) hx hb dL_law_1319 (by decide) ?_
    refine W.widen (k := 48 + 17 * (j + 1)) (n := 16900 + 2606 * (j + 1)) (by omega) (by omega) ?_
    exact hnext a am ad uh ur un us uo uv' (vp_updL fo (0 : Int32).toNatClampNeg (r.toInt64)) wp wk0 wk1 pu u0 u1 n0 n1 hrel hpap hk0 hk1 H locs ls hG (lv_sub hl [0, 1, 2, 3, 4] rfl)
