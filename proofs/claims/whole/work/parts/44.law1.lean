set_option maxRecDepth 100000 in
set_option maxHeartbeats 4000000 in
theorem law_c0 (Rel : Nat → HS → NS → OS → HS → NS → HS → NS → MS → Prop) (hR : RS_enter Rel) {p : Program} {l : Launch} {e : Env} {s : State} {m : MethodId} {below : List Frame} {meth : Method} {c : Code} {D : va_G} {κ : Nat → ClassId} {b L : Nat} {xs : Nat → Int32} (hL : L ≤ 2560) (C9 : lw_At p s m meth c b L xs) (hK : va_K D vwCl (xT κ) s) (j : Nat) (hj : 5 * j + 5 ≤ L) (hnext : LAt Rel D κ p l e s m below meth c b 1805 j (j + 1)) : LAt Rel D κ p l e s m below meth c b 220 j j := by
  obtain ⟨hx, hb, hr, hml, hown, hts0, hX, hbl, hlocks, hgv⟩ := C9
  have hts : ∀ w ∈ wsLL, w.before #[Value.ref b] s = true := fun w h => hts0 w (xlw_LL w h)
  have hA : ∀ q : Nat, s.heap.size ≤ q → (fun q : Nat => s.heap.size ≤ q) q := fun _ h => h
  intro a am ad uh ur un us uo uv fo wp wk0 wk1 pu u0 u1 n0 n1 hrel hpap hk0 hk1 H locs ls hG hl
  have hcc : 48 + 17 * (j + 1) ≤ room_1.cells := by show _ ≤ 601024; omega
  have hss : 16900 + 2606 * (j + 1) ≤ room_1.slots := by show _ ≤ 7293034; omega
  refine lv_aload_n hx hb dL_law_220 rfl (lv_at hl 1 rfl) ?_
  refine lv_aload_n hx hb dL_law_221 rfl (lv_at hl 0 rfl) ?_
  refine lv_iload hx hb dL_law_222 (lv_at hl 4 rfl) ?_
  refine lv_iconst (v := 1) hx hb dL_law_224 (by decide) ?_
  refine lv_iadd hx hb dL_law_225 ?_
  refine x_sld (kn := 1) (by decide) (by decide) hj hL hx hb hX hbl hG.2.2 dL_law_226 (fun x5_1 ex5_1 => ?_)
  refine lv_aload_n hx hb dL_law_227 rfl (lv_at hl 0 rfl) ?_
  refine lv_iload hx hb dL_law_228 (lv_at hl 4 rfl) ?_
  refine lv_iconst (v := 2) hx hb dL_law_230 (by decide) ?_
  refine lv_iadd hx hb dL_law_231 ?_
  refine x_sld (kn := 2) (by decide) (by decide) hj hL hx hb hX hbl hG.2.2 dL_law_232 (fun x10_2 ex10_2 => ?_)
  refine lv_aload_n hx hb dL_law_233 rfl (lv_at hl 0 rfl) ?_
  refine lv_iload hx hb dL_law_234 (lv_at hl 4 rfl) ?_
  refine lv_iconst (v := 3) hx hb dL_law_236 (by decide) ?_
  refine lv_iadd hx hb dL_law_237 ?_
  refine x_sld (kn := 3) (by decide) (by decide) hj hL hx hb hX hbl hG.2.2 dL_law_238 (fun x15_3 ex15_3 => ?_)
  obtain ⟨r, uh', uo', uv', hf4, hf5, hrel, hkh, hkn, hpp⟩ := hR j x5_1 x10_2 x15_3 uh ur un us uo u0 n0 u1 n1 uv (by omega) hrel
  refine x_callVi (pre := []) (wc := WH κ a uh ++ (WR κ a ur ++ (WN κ a un ++ (WS κ a us ++ WO κ a uo)))) (wc1 := WH κ a uh' ++ (WR κ a ur ++ (WN κ a un ++ (WS κ a us ++ WO κ a uo')))) (post := WM κ am uv ++ ([(ad, .inl (κ 1, 1, .inr (.inl fo)))] ++ (wp ++ (wk0 ++ wk1)))) (As := [.int x5_1, .int x10_2, .int x15_3]) (rest := []) (w1 := LW κ a am ad uh' ur un us uo' uv fo wp wk0 wk1) ⟨hx, hb, hml, hown, hts⟩ hK hG hA rfl rfl (c_X4_enter l D κ a H.size x5_1 x10_2 x15_3 uh ur un us uo r uh' uo' hf4) (cwV 3 hts xG_X4_enter rfl rfl rfl (by decide +kernel) ⟨Nat.le_of_ble_eq_true rfl, Nat.le_of_ble_eq_true rfl⟩) 25 4 rfl rfl rfl rfl hl.1 rfl (Nat.le_of_ble_eq_true rfl) dL_law_239 ⟨by omega, by omega⟩ (fun H locs hG => ?_)
  refine lv_aload_n hx hb dL_law_242 rfl (lv_at hl 2 rfl) ?_
  refine lv_aload_n hx hb dL_law_243 rfl (lv_at hl 0 rfl) ?_
  refine lv_iload hx hb dL_law_244 (lv_at hl 4 rfl) ?_
  refine lv_iconst (v := 1) hx hb dL_law_246 (by decide) ?_
  refine lv_iadd hx hb dL_law_247 ?_
  refine x_sld (kn := 1) (by decide) (by decide) hj hL hx hb hX hbl hG.2.2 dL_law_248 (fun x23_1 ex23_1 => ?_)
  refine lv_aload_n hx hb dL_law_249 rfl (lv_at hl 0 rfl) ?_
  refine lv_iload hx hb dL_law_250 (lv_at hl 4 rfl) ?_
  refine lv_iconst (v := 2) hx hb dL_law_252 (by decide) ?_
  refine lv_iadd hx hb dL_law_253 ?_
  refine x_sld (kn := 2) (by decide) (by decide) hj hL hx hb hX hbl hG.2.2 dL_law_254 (fun x28_2 ex28_2 => ?_)
  refine lv_aload_n hx hb dL_law_255 rfl (lv_at hl 0 rfl) ?_
  refine lv_iload hx hb dL_law_256 (lv_at hl 4 rfl) ?_
  refine lv_iconst (v := 3) hx hb dL_law_258 (by decide) ?_
  refine lv_iadd hx hb dL_law_259 ?_
  refine x_sld (kn := 3) (by decide) (by decide) hj hL hx hb hX hbl hG.2.2 dL_law_260 (fun x33_3 ex33_3 => ?_)
  obtain rfl : x23_1 = x5_1 := ex23_1.trans ex5_1.symm
  obtain rfl : x28_2 = x10_2 := ex28_2.trans ex10_2.symm
  obtain rfl : x33_3 = x15_3 := ex33_3.trans ex15_3.symm
  refine x_callVi (pre := WH κ a uh' ++ (WR κ a ur ++ (WN κ a un ++ (WS κ a us ++ WO κ a uo')))) (wc := WM κ am uv) (wc1 := WM κ am uv') (post := ([(ad, .inl (κ 1, 1, .inr (.inl fo)))] ++ (wp ++ (wk0 ++ wk1)))) (As := [.int x5_1, .int x10_2, .int x15_3]) (rest := [.int r]) (w1 := LW κ a am ad uh' ur un us uo' uv' fo wp wk0 wk1) ⟨hx, hb, hml, hown, hts⟩ hK hG hA rfl rfl (c_X5_enter l D κ am H.size x5_1 x10_2 x15_3 uv r uv' hf5) (cwV 3 hts xG_X5_enter rfl rfl rfl (by decide +kernel) ⟨Nat.le_of_ble_eq_true rfl, Nat.le_of_ble_eq_true rfl⟩) 0 5 rfl rfl rfl rfl hl.1 rfl (Nat.le_of_ble_eq_true rfl) dL_law_261 ⟨by omega, by omega⟩ (fun H locs hG => ?_)
  refine lv_icmp_eq (tgt := 1805) hx hb dL_law_264 (by decide) (fun c1 => ?_) (fun c1 => absurd rfl c1)
  refine W.widen (k := 48 + 17 * (j + 1)) (n := 16900 + 2606 * (j + 1)) (by omega) (by omega) ?_
  exact hnext a am ad uh' ur un us uo' uv' fo wp wk0 wk1 pu u0 u1 n0 n1 hrel (by rw [hpp]; exact hpap) (by rw [hkh, hkn]; exact hk0) (by rw [hkh, hkn]; exact hk1) H locs ls hG hl
set_option maxRecDepth 100000 in
set_option maxHeartbeats 4000000 in
theorem law_c1 (Rel : Nat → HS → NS → OS → HS → NS → HS → NS → MS → Prop) (hR : RS_take Rel) {p : Program} {l : Launch} {e : Env} {s : State} {m : MethodId} {below : List Frame} {meth : Method} {c : Code} {D : va_G} {κ : Nat → ClassId} {b L : Nat} {xs : Nat → Int32} (hL : L ≤ 2560) (C9 : lw_At p s m meth c b L xs) (hK : va_K D vwCl (xT κ) s) (j : Nat) (hj : 5 * j + 5 ≤ L) (hnext : LAt Rel D κ p l e s m below meth c b 1805 j (j + 1)) : LAt Rel D κ p l e s m below meth c b 269 j j := by
  obtain ⟨hx, hb, hr, hml, hown, hts0, hX, hbl, hlocks, hgv⟩ := C9
  have hts : ∀ w ∈ wsLL, w.before #[Value.ref b] s = true := fun w h => hts0 w (xlw_LL w h)
  have hA : ∀ q : Nat, s.heap.size ≤ q → (fun q : Nat => s.heap.size ≤ q) q := fun _ h => h
  intro a am ad uh ur un us uo uv fo wp wk0 wk1 pu u0 u1 n0 n1 hrel hpap hk0 hk1 H locs ls hG hl
  have hcc : 48 + 17 * (j + 1) ≤ room_1.cells := by show _ ≤ 601024; omega
  have hss : 16900 + 2606 * (j + 1) ≤ room_1.slots := by show _ ≤ 7293034; omega
  refine lv_aload_n hx hb dL_law_269 rfl (lv_at hl 1 rfl) ?_
  refine lv_aload_n hx hb dL_law_270 rfl (lv_at hl 0 rfl) ?_
  refine lv_iload hx hb dL_law_271 (lv_at hl 4 rfl) ?_
  refine lv_iconst (v := 1) hx hb dL_law_273 (by decide) ?_
  refine lv_iadd hx hb dL_law_274 ?_
  refine x_sld (kn := 1) (by decide) (by decide) hj hL hx hb hX hbl hG.2.2 dL_law_275 (fun x5_1 ex5_1 => ?_)
  obtain ⟨r, uh', uo', uv', hf4, hf5, hrel, hkh, hkn, hpp⟩ := hR j x5_1 uh ur un us uo u0 n0 u1 n1 uv (by omega) hrel
  refine x_callVi (pre := []) (wc := WH κ a uh ++ (WR κ a ur ++ (WN κ a un ++ (WS κ a us ++ WO κ a uo)))) (wc1 := WH κ a uh' ++ (WR κ a ur ++ (WN κ a un ++ (WS κ a us ++ WO κ a uo')))) (post := WM κ am uv ++ ([(ad, .inl (κ 1, 1, .inr (.inl fo)))] ++ (wp ++ (wk0 ++ wk1)))) (As := [.int x5_1]) (rest := []) (w1 := LW κ a am ad uh' ur un us uo' uv fo wp wk0 wk1) ⟨hx, hb, hml, hown, hts⟩ hK hG hA rfl rfl (c_X4_take l D κ a H.size x5_1 uh ur un us uo r uh' uo' hf4) (cwV 1 hts xG_X4_take rfl rfl rfl (by decide +kernel) ⟨Nat.le_of_ble_eq_true rfl, Nat.le_of_ble_eq_true rfl⟩) 25 4 rfl rfl rfl rfl hl.1 rfl (Nat.le_of_ble_eq_true rfl) dL_law_276 ⟨by omega, by omega⟩ (fun H locs hG => ?_)
  refine lv_aload_n hx hb dL_law_279 rfl (lv_at hl 2 rfl) ?_
  refine lv_aload_n hx hb dL_law_280 rfl (lv_at hl 0 rfl) ?_
  refine lv_iload hx hb dL_law_281 (lv_at hl 4 rfl) ?_
  refine lv_iconst (v := 1) hx hb dL_law_283 (by decide) ?_
  refine lv_iadd hx hb dL_law_284 ?_
  refine x_sld (kn := 1) (by decide) (by decide) hj hL hx hb hX hbl hG.2.2 dL_law_285 (fun x13_1 ex13_1 => ?_)
  obtain rfl : x13_1 = x5_1 := ex13_1.trans ex5_1.symm
  refine x_callVi (pre := WH κ a uh' ++ (WR κ a ur ++ (WN κ a un ++ (WS κ a us ++ WO κ a uo')))) (wc := WM κ am uv) (wc1 := WM κ am uv') (post := ([(ad, .inl (κ 1, 1, .inr (.inl fo)))] ++ (wp ++ (wk0 ++ wk1)))) (As := [.int x5_1]) (rest := [.int r]) (w1 := LW κ a am ad uh' ur un us uo' uv' fo wp wk0 wk1) ⟨hx, hb, hml, hown, hts⟩ hK hG hA rfl rfl (c_X5_take l D κ am H.size x5_1 uv r uv' hf5) (cwV 1 hts xG_X5_take rfl rfl rfl (by decide +kernel) ⟨Nat.le_of_ble_eq_true rfl, Nat.le_of_ble_eq_true rfl⟩) 0 5 rfl rfl rfl rfl hl.1 rfl (Nat.le_of_ble_eq_true rfl) dL_law_286 ⟨by omega, by omega⟩ (fun H locs hG => ?_)
  refine lv_icmp_eq (tgt := 1805) hx hb dL_law_289 (by decide) (fun c1 => ?_) (fun c1 => absurd rfl c1)
  refine W.widen (k := 48 + 17 * (j + 1)) (n := 16900 + 2606 * (j + 1)) (by omega) (by omega) ?_
  exact hnext a am ad uh' ur un us uo' uv' fo wp wk0 wk1 pu u0 u1 n0 n1 hrel (by rw [hpp]; exact hpap) (by rw [hkh, hkn]; exact hk0) (by rw [hkh, hkn]; exact hk1) H locs ls hG hl
set_option maxRecDepth 100000 in
set_option maxHeartbeats 4000000 in
theorem law_c2 (Rel : Nat → HS → NS → OS → HS → NS → HS → NS → MS → Prop) (hR : RS_round Rel) {p : Program} {l : Launch} {e : Env} {s : State} {m : MethodId} {below : List Frame} {meth : Method} {c : Code} {D : va_G} {κ : Nat → ClassId} {b L : Nat} {xs : Nat → Int32} (hL : L ≤ 2560) (C9 : lw_At p s m meth c b L xs) (hK : va_K D vwCl (xT κ) s) (j : Nat) (hj : 5 * j + 5 ≤ L) (hnext : LAt Rel D κ p l e s m below meth c b 1805 j (j + 1)) : LAt Rel D κ p l e s m below meth c b 294 j j := by
  obtain ⟨hx, hb, hr, hml, hown, hts0, hX, hbl, hlocks, hgv⟩ := C9
  have hts : ∀ w ∈ wsLL, w.before #[Value.ref b] s = true := fun w h => hts0 w (xlw_LL w h)
  have hA : ∀ q : Nat, s.heap.size ≤ q → (fun q : Nat => s.heap.size ≤ q) q := fun _ h => h
  intro a am ad uh ur un us uo uv fo wp wk0 wk1 pu u0 u1 n0 n1 hrel hpap hk0 hk1 H locs ls hG hl
  have hcc : 48 + 17 * (j + 1) ≤ room_1.cells := by show _ ≤ 601024; omega
  have hss : 16900 + 2606 * (j + 1) ≤ room_1.slots := by show _ ≤ 7293034; omega
  refine lv_aload_n hx hb dL_law_294 rfl (lv_at hl 1 rfl) ?_
  refine lv_aload_n hx hb dL_law_295 rfl (lv_at hl 0 rfl) ?_
  refine lv_iload hx hb dL_law_296 (lv_at hl 4 rfl) ?_
  refine lv_iconst (v := 1) hx hb dL_law_298 (by decide) ?_
  refine lv_iadd hx hb dL_law_299 ?_
  refine x_sld (kn := 1) (by decide) (by decide) hj hL hx hb hX hbl hG.2.2 dL_law_300 (fun x5_1 ex5_1 => ?_)
  obtain ⟨r, uh', uo', uv', hf4, hf5, hrel, hkh, hkn, hpp⟩ := hR j x5_1 uh ur un us uo u0 n0 u1 n1 uv (by omega) hrel
  refine x_callVi (pre := []) (wc := WH κ a uh ++ (WR κ a ur ++ (WN κ a un ++ (WS κ a us ++ WO κ a uo)))) (wc1 := WH κ a uh' ++ (WR κ a ur ++ (WN κ a un ++ (WS κ a us ++ WO κ a uo')))) (post := WM κ am uv ++ ([(ad, .inl (κ 1, 1, .inr (.inl fo)))] ++ (wp ++ (wk0 ++ wk1)))) (As := [.int x5_1]) (rest := []) (w1 := LW κ a am ad uh' ur un us uo' uv fo wp wk0 wk1) ⟨hx, hb, hml, hown, hts⟩ hK hG hA rfl rfl (c_X4_round l D κ a H.size x5_1 uh ur un us uo r uh' uo' hf4) (cwV 1 hts xG_X4_round rfl rfl rfl (by decide +kernel) ⟨Nat.le_of_ble_eq_true rfl, Nat.le_of_ble_eq_true rfl⟩) 25 4 rfl rfl rfl rfl hl.1 rfl (Nat.le_of_ble_eq_true rfl) dL_law_301 ⟨by omega, by omega⟩ (fun H locs hG => ?_)
  refine lv_aload_n hx hb dL_law_304 rfl (lv_at hl 2 rfl) ?_
  refine lv_aload_n hx hb dL_law_305 rfl (lv_at hl 0 rfl) ?_
  refine lv_iload hx hb dL_law_306 (lv_at hl 4 rfl) ?_
  refine lv_iconst (v := 1) hx hb dL_law_308 (by decide) ?_
  refine lv_iadd hx hb dL_law_309 ?_
  refine x_sld (kn := 1) (by decide) (by decide) hj hL hx hb hX hbl hG.2.2 dL_law_310 (fun x13_1 ex13_1 => ?_)
  obtain rfl : x13_1 = x5_1 := ex13_1.trans ex5_1.symm
  refine x_callVi (pre := WH κ a uh' ++ (WR κ a ur ++ (WN κ a un ++ (WS κ a us ++ WO κ a uo')))) (wc := WM κ am uv) (wc1 := WM κ am uv') (post := ([(ad, .inl (κ 1, 1, .inr (.inl fo)))] ++ (wp ++ (wk0 ++ wk1)))) (As := [.int x5_1]) (rest := [.int r]) (w1 := LW κ a am ad uh' ur un us uo' uv' fo wp wk0 wk1) ⟨hx, hb, hml, hown, hts⟩ hK hG hA rfl rfl (c_X5_round l D κ am H.size x5_1 uv r uv' hf5) (cwV 1 hts xG_X5_round rfl rfl rfl (by decide +kernel) ⟨Nat.le_of_ble_eq_true rfl, Nat.le_of_ble_eq_true rfl⟩) 0 5 rfl rfl rfl rfl hl.1 rfl (Nat.le_of_ble_eq_true rfl) dL_law_311 ⟨by omega, by omega⟩ (fun H locs hG => ?_)
  refine lv_icmp_eq (tgt := 1805) hx hb dL_law_314 (by decide) (fun c1 => ?_) (fun c1 => absurd rfl c1)
  refine W.widen (k := 48 + 17 * (j + 1)) (n := 16900 + 2606 * (j + 1)) (by omega) (by omega) ?_
  exact hnext a am ad uh' ur un us uo' uv' fo wp wk0 wk1 pu u0 u1 n0 n1 hrel (by rw [hpp]; exact hpap) (by rw [hkh, hkn]; exact hk0) (by rw [hkh, hkn]; exact hk1) H locs ls hG hl
set_option maxRecDepth 100000 in
set_option maxHeartbeats 4000000 in
theorem law_c3 (Rel : Nat → HS → NS → OS → HS → NS → HS → NS → MS → Prop) (hR : RS_cross Rel) {p : Program} {l : Launch} {e : Env} {s : State} {m : MethodId} {below : List Frame} {meth : Method} {c : Code} {D : va_G} {κ : Nat → ClassId} {b L : Nat} {xs : Nat → Int32} (hL : L ≤ 2560) (C9 : lw_At p s m meth c b L xs) (hK : va_K D vwCl (xT κ) s) (j : Nat) (hj : 5 * j + 5 ≤ L) (hnext : LAt Rel D κ p l e s m below meth c b 1805 j (j + 1)) : LAt Rel D κ p l e s m below meth c b 319 j j := by
  obtain ⟨hx, hb, hr, hml, hown, hts0, hX, hbl, hlocks, hgv⟩ := C9
  have hts : ∀ w ∈ wsLL, w.before #[Value.ref b] s = true := fun w h => hts0 w (xlw_LL w h)
  have hA : ∀ q : Nat, s.heap.size ≤ q → (fun q : Nat => s.heap.size ≤ q) q := fun _ h => h
  intro a am ad uh ur un us uo uv fo wp wk0 wk1 pu u0 u1 n0 n1 hrel hpap hk0 hk1 H locs ls hG hl
  have hcc : 48 + 17 * (j + 1) ≤ room_1.cells := by show _ ≤ 601024; omega
  have hss : 16900 + 2606 * (j + 1) ≤ room_1.slots := by show _ ≤ 7293034; omega
  refine lv_aload_n hx hb dL_law_319 rfl (lv_at hl 1 rfl) ?_
  refine lv_aload_n hx hb dL_law_320 rfl (lv_at hl 0 rfl) ?_
  refine lv_iload hx hb dL_law_321 (lv_at hl 4 rfl) ?_
  refine lv_iconst (v := 1) hx hb dL_law_323 (by decide) ?_
  refine lv_iadd hx hb dL_law_324 ?_
  refine x_sld (kn := 1) (by decide) (by decide) hj hL hx hb hX hbl hG.2.2 dL_law_325 (fun x5_1 ex5_1 => ?_)
  obtain ⟨r, uh', uo', uv', hf4, hf5, hrel, hkh, hkn, hpp⟩ := hR j x5_1 uh ur un us uo u0 n0 u1 n1 uv (by omega) hrel
  refine x_callVi (pre := []) (wc := WH κ a uh ++ (WR κ a ur ++ (WN κ a un ++ (WS κ a us ++ WO κ a uo)))) (wc1 := WH κ a uh' ++ (WR κ a ur ++ (WN κ a un ++ (WS κ a us ++ WO κ a uo')))) (post := WM κ am uv ++ ([(ad, .inl (κ 1, 1, .inr (.inl fo)))] ++ (wp ++ (wk0 ++ wk1)))) (As := [.int x5_1]) (rest := []) (w1 := LW κ a am ad uh' ur un us uo' uv fo wp wk0 wk1) ⟨hx, hb, hml, hown, hts⟩ hK hG hA rfl rfl (c_X4_cross l D κ a H.size x5_1 uh ur un us uo r uh' uo' hf4) (cwV 1 hts xG_X4_cross rfl rfl rfl (by decide +kernel) ⟨Nat.le_of_ble_eq_true rfl, Nat.le_of_ble_eq_true rfl⟩) 25 4 rfl rfl rfl rfl hl.1 rfl (Nat.le_of_ble_eq_true rfl) dL_law_326 ⟨by omega, by omega⟩ (fun H locs hG => ?_)
  refine lv_aload_n hx hb dL_law_329 rfl (lv_at hl 2 rfl) ?_
  refine lv_aload_n hx hb dL_law_330 rfl (lv_at hl 0 rfl) ?_
  refine lv_iload hx hb dL_law_331 (lv_at hl 4 rfl) ?_
  refine lv_iconst (v := 1) hx hb dL_law_333 (by decide) ?_
  refine lv_iadd hx hb dL_law_334 ?_
  refine x_sld (kn := 1) (by decide) (by decide) hj hL hx hb hX hbl hG.2.2 dL_law_335 (fun x13_1 ex13_1 => ?_)
  obtain rfl : x13_1 = x5_1 := ex13_1.trans ex5_1.symm
  refine x_callVi (pre := WH κ a uh' ++ (WR κ a ur ++ (WN κ a un ++ (WS κ a us ++ WO κ a uo')))) (wc := WM κ am uv) (wc1 := WM κ am uv') (post := ([(ad, .inl (κ 1, 1, .inr (.inl fo)))] ++ (wp ++ (wk0 ++ wk1)))) (As := [.int x5_1]) (rest := [.int r]) (w1 := LW κ a am ad uh' ur un us uo' uv' fo wp wk0 wk1) ⟨hx, hb, hml, hown, hts⟩ hK hG hA rfl rfl (c_X5_cross l D κ am H.size x5_1 uv r uv' hf5) (cwV 1 hts xG_X5_cross rfl rfl rfl (by decide +kernel) ⟨Nat.le_of_ble_eq_true rfl, Nat.le_of_ble_eq_true rfl⟩) 0 5 rfl rfl rfl rfl hl.1 rfl (Nat.le_of_ble_eq_true rfl) dL_law_336 ⟨by omega, by omega⟩ (fun H locs hG => ?_)
  refine lv_icmp_eq (tgt := 1805) hx hb dL_law_339 (by decide) (fun c1 => ?_) (fun c1 => absurd rfl c1)
  refine W.widen (k := 48 + 17 * (j + 1)) (n := 16900 + 2606 * (j + 1)) (by omega) (by omega) ?_
  exact hnext a am ad uh' ur un us uo' uv' fo wp wk0 wk1 pu u0 u1 n0 n1 hrel (by rw [hpp]; exact hpap) (by rw [hkh, hkn]; exact hk0) (by rw [hkh, hkn]; exact hk1) H locs ls hG hl
set_option maxRecDepth 100000 in
set_option maxHeartbeats 4000000 in
theorem law_c4 (Rel : Nat → HS → NS → OS → HS → NS → HS → NS → MS → Prop) (hR : RS_uncross Rel) {p : Program} {l : Launch} {e : Env} {s : State} {m : MethodId} {below : List Frame} {meth : Method} {c : Code} {D : va_G} {κ : Nat → ClassId} {b L : Nat} {xs : Nat → Int32} (hL : L ≤ 2560) (C9 : lw_At p s m meth c b L xs) (hK : va_K D vwCl (xT κ) s) (j : Nat) (hj : 5 * j + 5 ≤ L) (hnext : LAt Rel D κ p l e s m below meth c b 1805 j (j + 1)) : LAt Rel D κ p l e s m below meth c b 344 j j := by
  obtain ⟨hx, hb, hr, hml, hown, hts0, hX, hbl, hlocks, hgv⟩ := C9
  have hts : ∀ w ∈ wsLL, w.before #[Value.ref b] s = true := fun w h => hts0 w (xlw_LL w h)
  have hA : ∀ q : Nat, s.heap.size ≤ q → (fun q : Nat => s.heap.size ≤ q) q := fun _ h => h
  intro a am ad uh ur un us uo uv fo wp wk0 wk1 pu u0 u1 n0 n1 hrel hpap hk0 hk1 H locs ls hG hl
  have hcc : 48 + 17 * (j + 1) ≤ room_1.cells := by show _ ≤ 601024; omega
  have hss : 16900 + 2606 * (j + 1) ≤ room_1.slots := by show _ ≤ 7293034; omega
  refine lv_aload_n hx hb dL_law_344 rfl (lv_at hl 1 rfl) ?_
  refine lv_aload_n hx hb dL_law_345 rfl (lv_at hl 0 rfl) ?_
  refine lv_iload hx hb dL_law_346 (lv_at hl 4 rfl) ?_
  refine lv_iconst (v := 1) hx hb dL_law_348 (by decide) ?_
  refine lv_iadd hx hb dL_law_349 ?_
  refine x_sld (kn := 1) (by decide) (by decide) hj hL hx hb hX hbl hG.2.2 dL_law_350 (fun x5_1 ex5_1 => ?_)
  obtain ⟨r, uh', uo', uv', hf4, hf5, hrel, hkh, hkn, hpp⟩ := hR j x5_1 uh ur un us uo u0 n0 u1 n1 uv (by omega) hrel
  refine x_callVi (pre := []) (wc := WH κ a uh ++ (WR κ a ur ++ (WN κ a un ++ (WS κ a us ++ WO κ a uo)))) (wc1 := WH κ a uh' ++ (WR κ a ur ++ (WN κ a un ++ (WS κ a us ++ WO κ a uo')))) (post := WM κ am uv ++ ([(ad, .inl (κ 1, 1, .inr (.inl fo)))] ++ (wp ++ (wk0 ++ wk1)))) (As := [.int x5_1]) (rest := []) (w1 := LW κ a am ad uh' ur un us uo' uv fo wp wk0 wk1) ⟨hx, hb, hml, hown, hts⟩ hK hG hA rfl rfl (c_X4_uncross l D κ a H.size x5_1 uh ur un us uo r uh' uo' hf4) (cwV 1 hts xG_X4_uncross rfl rfl rfl (by decide +kernel) ⟨Nat.le_of_ble_eq_true rfl, Nat.le_of_ble_eq_true rfl⟩) 25 4 rfl rfl rfl rfl hl.1 rfl (Nat.le_of_ble_eq_true rfl) dL_law_351 ⟨by omega, by omega⟩ (fun H locs hG => ?_)
  refine lv_aload_n hx hb dL_law_354 rfl (lv_at hl 2 rfl) ?_
  refine lv_aload_n hx hb dL_law_355 rfl (lv_at hl 0 rfl) ?_
  refine lv_iload hx hb dL_law_356 (lv_at hl 4 rfl) ?_
  refine lv_iconst (v := 1) hx hb dL_law_358 (by decide) ?_
  refine lv_iadd hx hb dL_law_359 ?_
  refine x_sld (kn := 1) (by decide) (by decide) hj hL hx hb hX hbl hG.2.2 dL_law_360 (fun x13_1 ex13_1 => ?_)
  obtain rfl : x13_1 = x5_1 := ex13_1.trans ex5_1.symm
  refine x_callVi (pre := WH κ a uh' ++ (WR κ a ur ++ (WN κ a un ++ (WS κ a us ++ WO κ a uo')))) (wc := WM κ am uv) (wc1 := WM κ am uv') (post := ([(ad, .inl (κ 1, 1, .inr (.inl fo)))] ++ (wp ++ (wk0 ++ wk1)))) (As := [.int x5_1]) (rest := [.int r]) (w1 := LW κ a am ad uh' ur un us uo' uv' fo wp wk0 wk1) ⟨hx, hb, hml, hown, hts⟩ hK hG hA rfl rfl (c_X5_uncross l D κ am H.size x5_1 uv r uv' hf5) (cwV 1 hts xG_X5_uncross rfl rfl rfl (by decide +kernel) ⟨Nat.le_of_ble_eq_true rfl, Nat.le_of_ble_eq_true rfl⟩) 0 5 rfl rfl rfl rfl hl.1 rfl (Nat.le_of_ble_eq_true rfl) dL_law_361 ⟨by omega, by omega⟩ (fun H locs hG => ?_)
  refine lv_icmp_eq (tgt := 1805) hx hb dL_law_364 (by decide) (fun c1 => ?_) (fun c1 => absurd rfl c1)
  refine W.widen (k := 48 + 17 * (j + 1)) (n := 16900 + 2606 * (j + 1)) (by omega) (by omega) ?_
  exact hnext a am ad uh' ur un us uo' uv' fo wp wk0 wk1 pu u0 u1 n0 n1 hrel (by rw [hpp]; exact hpap) (by rw [hkh, hkn]; exact hk0) (by rw [hkh, hkn]; exact hk1) H locs ls hG hl
set_option maxRecDepth 100000 in
set_option maxHeartbeats 4000000 in
theorem law_c5 (Rel : Nat → HS → NS → OS → HS → NS → HS → NS → MS → Prop) (hR : RS_cut Rel) {p : Program} {l : Launch} {e : Env} {s : State} {m : MethodId} {below : List Frame} {meth : Method} {c : Code} {D : va_G} {κ : Nat → ClassId} {b L : Nat} {xs : Nat → Int32} (hL : L ≤ 2560) (C9 : lw_At p s m meth c b L xs) (hK : va_K D vwCl (xT κ) s) (j : Nat) (hj : 5 * j + 5 ≤ L) (hnext : LAt Rel D κ p l e s m below meth c b 1805 j (j + 1)) : LAt Rel D κ p l e s m below meth c b 369 j j := by
  obtain ⟨hx, hb, hr, hml, hown, hts0, hX, hbl, hlocks, hgv⟩ := C9
  have hts : ∀ w ∈ wsLL, w.before #[Value.ref b] s = true := fun w h => hts0 w (xlw_LL w h)
  have hA : ∀ q : Nat, s.heap.size ≤ q → (fun q : Nat => s.heap.size ≤ q) q := fun _ h => h
  intro a am ad uh ur un us uo uv fo wp wk0 wk1 pu u0 u1 n0 n1 hrel hpap hk0 hk1 H locs ls hG hl
  have hcc : 48 + 17 * (j + 1) ≤ room_1.cells := by show _ ≤ 601024; omega
  have hss : 16900 + 2606 * (j + 1) ≤ room_1.slots := by show _ ≤ 7293034; omega
  refine lv_aload_n hx hb dL_law_369 rfl (lv_at hl 1 rfl) ?_
  refine lv_aload_n hx hb dL_law_370 rfl (lv_at hl 0 rfl) ?_
  refine lv_iload hx hb dL_law_371 (lv_at hl 4 rfl) ?_
  refine lv_iconst (v := 1) hx hb dL_law_373 (by decide) ?_
  refine lv_iadd hx hb dL_law_374 ?_
  refine x_sld (kn := 1) (by decide) (by decide) hj hL hx hb hX hbl hG.2.2 dL_law_375 (fun x5_1 ex5_1 => ?_)
  obtain ⟨r, uh', uo', uv', hf4, hf5, hrel, hkh, hkn, hpp⟩ := hR j x5_1 uh ur un us uo u0 n0 u1 n1 uv (by omega) hrel
  refine x_callVi (pre := []) (wc := WH κ a uh ++ (WR κ a ur ++ (WN κ a un ++ (WS κ a us ++ WO κ a uo)))) (wc1 := WH κ a uh' ++ (WR κ a ur ++ (WN κ a un ++ (WS κ a us ++ WO κ a uo')))) (post := WM κ am uv ++ ([(ad, .inl (κ 1, 1, .inr (.inl fo)))] ++ (wp ++ (wk0 ++ wk1)))) (As := [.int x5_1]) (rest := []) (w1 := LW κ a am ad uh' ur un us uo' uv fo wp wk0 wk1) ⟨hx, hb, hml, hown, hts⟩ hK hG hA rfl rfl (c_X4_cut l D κ a H.size x5_1 uh ur un us uo r uh' uo' hf4) (cwV 1 hts xG_X4_cut rfl rfl rfl (by decide +kernel) ⟨Nat.le_of_ble_eq_true rfl, Nat.le_of_ble_eq_true rfl⟩) 25 4 rfl rfl rfl rfl hl.1 rfl (Nat.le_of_ble_eq_true rfl) dL_law_376 ⟨by omega, by omega⟩ (fun H locs hG => ?_)
  refine lv_aload_n hx hb dL_law_379 rfl (lv_at hl 2 rfl) ?_
  refine lv_aload_n hx hb dL_law_380 rfl (lv_at hl 0 rfl) ?_
  refine lv_iload hx hb dL_law_381 (lv_at hl 4 rfl) ?_
  refine lv_iconst (v := 1) hx hb dL_law_383 (by decide) ?_
  refine lv_iadd hx hb dL_law_384 ?_
  refine x_sld (kn := 1) (by decide) (by decide) hj hL hx hb hX hbl hG.2.2 dL_law_385 (fun x13_1 ex13_1 => ?_)
  obtain rfl : x13_1 = x5_1 := ex13_1.trans ex5_1.symm
  refine x_callVi (pre := WH κ a uh' ++ (WR κ a ur ++ (WN κ a un ++ (WS κ a us ++ WO κ a uo')))) (wc := WM κ am uv) (wc1 := WM κ am uv') (post := ([(ad, .inl (κ 1, 1, .inr (.inl fo)))] ++ (wp ++ (wk0 ++ wk1)))) (As := [.int x5_1]) (rest := [.int r]) (w1 := LW κ a am ad uh' ur un us uo' uv' fo wp wk0 wk1) ⟨hx, hb, hml, hown, hts⟩ hK hG hA rfl rfl (c_X5_cut l D κ am H.size x5_1 uv r uv' hf5) (cwV 1 hts xG_X5_cut rfl rfl rfl (by decide +kernel) ⟨Nat.le_of_ble_eq_true rfl, Nat.le_of_ble_eq_true rfl⟩) 0 5 rfl rfl rfl rfl hl.1 rfl (Nat.le_of_ble_eq_true rfl) dL_law_386 ⟨by omega, by omega⟩ (fun H locs hG => ?_)
  refine lv_icmp_eq (tgt := 1805) hx hb dL_law_389 (by decide) (fun c1 => ?_) (fun c1 => absurd rfl c1)
  refine W.widen (k := 48 + 17 * (j + 1)) (n := 16900 + 2606 * (j + 1)) (by omega) (by omega) ?_
  exact hnext a am ad uh' ur un us uo' uv' fo wp wk0 wk1 pu u0 u1 n0 n1 hrel (by rw [hpp]; exact hpap) (by rw [hkh, hkn]; exact hk0) (by rw [hkh, hkn]; exact hk1) H locs ls hG hl
set_option maxRecDepth 100000 in
set_option maxHeartbeats 4000000 in
theorem law_c6 (Rel : Nat → HS → NS → OS → HS → NS → HS → NS → MS → Prop) (hR : RS_rekey Rel) {p : Program} {l : Launch} {e : Env} {s : State} {m : MethodId} {below : List Frame} {meth : Method} {c : Code} {D : va_G} {κ : Nat → ClassId} {b L : Nat} {xs : Nat → Int32} (hL : L ≤ 2560) (C9 : lw_At p s m meth c b L xs) (hK : va_K D vwCl (xT κ) s) (j : Nat) (hj : 5 * j + 5 ≤ L) (hnext : LAt Rel D κ p l e s m below meth c b 1805 j (j + 1)) : LAt Rel D κ p l e s m below meth c b 394 j j := by
  obtain ⟨hx, hb, hr, hml, hown, hts0, hX, hbl, hlocks, hgv⟩ := C9
  have hts : ∀ w ∈ wsLL, w.before #[Value.ref b] s = true := fun w h => hts0 w (xlw_LL w h)
  have hA : ∀ q : Nat, s.heap.size ≤ q → (fun q : Nat => s.heap.size ≤ q) q := fun _ h => h
  intro a am ad uh ur un us uo uv fo wp wk0 wk1 pu u0 u1 n0 n1 hrel hpap hk0 hk1 H locs ls hG hl
  have hcc : 48 + 17 * (j + 1) ≤ room_1.cells := by show _ ≤ 601024; omega
  have hss : 16900 + 2606 * (j + 1) ≤ room_1.slots := by show _ ≤ 7293034; omega
  refine lv_aload_n hx hb dL_law_394 rfl (lv_at hl 1 rfl) ?_
  refine lv_aload_n hx hb dL_law_395 rfl (lv_at hl 0 rfl) ?_
  refine lv_iload hx hb dL_law_396 (lv_at hl 4 rfl) ?_
  refine lv_iconst (v := 1) hx hb dL_law_398 (by decide) ?_
  refine lv_iadd hx hb dL_law_399 ?_
  refine x_sld (kn := 1) (by decide) (by decide) hj hL hx hb hX hbl hG.2.2 dL_law_400 (fun x5_1 ex5_1 => ?_)
  refine lv_aload_n hx hb dL_law_401 rfl (lv_at hl 0 rfl) ?_
  refine lv_iload hx hb dL_law_402 (lv_at hl 4 rfl) ?_
  refine lv_iconst (v := 2) hx hb dL_law_404 (by decide) ?_
  refine lv_iadd hx hb dL_law_405 ?_
  refine x_sld (kn := 2) (by decide) (by decide) hj hL hx hb hX hbl hG.2.2 dL_law_406 (fun x10_2 ex10_2 => ?_)
  obtain ⟨r, uh', uo', uv', hf4, hf5, hrel, hkh, hkn, hpp⟩ := hR j x5_1 x10_2 uh ur un us uo u0 n0 u1 n1 uv (by omega) hrel
  refine x_callVi (pre := []) (wc := WH κ a uh ++ (WR κ a ur ++ (WN κ a un ++ (WS κ a us ++ WO κ a uo)))) (wc1 := WH κ a uh' ++ (WR κ a ur ++ (WN κ a un ++ (WS κ a us ++ WO κ a uo')))) (post := WM κ am uv ++ ([(ad, .inl (κ 1, 1, .inr (.inl fo)))] ++ (wp ++ (wk0 ++ wk1)))) (As := [.int x5_1, .int x10_2]) (rest := []) (w1 := LW κ a am ad uh' ur un us uo' uv fo wp wk0 wk1) ⟨hx, hb, hml, hown, hts⟩ hK hG hA rfl rfl (c_X4_rekey l D κ a H.size x5_1 x10_2 uh ur un us uo r uh' uo' hf4) (cwV 2 hts xG_X4_rekey rfl rfl rfl (by decide +kernel) ⟨Nat.le_of_ble_eq_true rfl, Nat.le_of_ble_eq_true rfl⟩) 25 4 rfl rfl rfl rfl hl.1 rfl (Nat.le_of_ble_eq_true rfl) dL_law_407 ⟨by omega, by omega⟩ (fun H locs hG => ?_)
  refine lv_aload_n hx hb dL_law_410 rfl (lv_at hl 2 rfl) ?_
  refine lv_aload_n hx hb dL_law_411 rfl (lv_at hl 0 rfl) ?_
  refine lv_iload hx hb dL_law_412 (lv_at hl 4 rfl) ?_
  refine lv_iconst (v := 1) hx hb dL_law_414 (by decide) ?_
  refine lv_iadd hx hb dL_law_415 ?_
  refine x_sld (kn := 1) (by decide) (by decide) hj hL hx hb hX hbl hG.2.2 dL_law_416 (fun x18_1 ex18_1 => ?_)
  refine lv_aload_n hx hb dL_law_417 rfl (lv_at hl 0 rfl) ?_
  refine lv_iload hx hb dL_law_418 (lv_at hl 4 rfl) ?_
  refine lv_iconst (v := 2) hx hb dL_law_420 (by decide) ?_
  refine lv_iadd hx hb dL_law_421 ?_
  refine x_sld (kn := 2) (by decide) (by decide) hj hL hx hb hX hbl hG.2.2 dL_law_422 (fun x23_2 ex23_2 => ?_)
  obtain rfl : x18_1 = x5_1 := ex18_1.trans ex5_1.symm
  obtain rfl : x23_2 = x10_2 := ex23_2.trans ex10_2.symm
  refine x_callVi (pre := WH κ a uh' ++ (WR κ a ur ++ (WN κ a un ++ (WS κ a us ++ WO κ a uo')))) (wc := WM κ am uv) (wc1 := WM κ am uv') (post := ([(ad, .inl (κ 1, 1, .inr (.inl fo)))] ++ (wp ++ (wk0 ++ wk1)))) (As := [.int x5_1, .int x10_2]) (rest := [.int r]) (w1 := LW κ a am ad uh' ur un us uo' uv' fo wp wk0 wk1) ⟨hx, hb, hml, hown, hts⟩ hK hG hA rfl rfl (c_X5_rekey l D κ am H.size x5_1 x10_2 uv r uv' hf5) (cwV 2 hts xG_X5_rekey rfl rfl rfl (by decide +kernel) ⟨Nat.le_of_ble_eq_true rfl, Nat.le_of_ble_eq_true rfl⟩) 0 5 rfl rfl rfl rfl hl.1 rfl (Nat.le_of_ble_eq_true rfl) dL_law_423 ⟨by omega, by omega⟩ (fun H locs hG => ?_)
  refine lv_icmp_eq (tgt := 1805) hx hb dL_law_426 (by decide) (fun c1 => ?_) (fun c1 => absurd rfl c1)
  refine W.widen (k := 48 + 17 * (j + 1)) (n := 16900 + 2606 * (j + 1)) (by omega) (by omega) ?_
  exact hnext a am ad uh' ur un us uo' uv' fo wp wk0 wk1 pu u0 u1 n0 n1 hrel (by rw [hpp]; exact hpap) (by rw [hkh, hkn]; exact hk0) (by rw [hkh, hkn]; exact hk1) H locs ls hG hl
set_option maxRecDepth 100000 in
set_option maxHeartbeats 4000000 in
theorem law_c7 (Rel : Nat → HS → NS → OS → HS → NS → HS → NS → MS → Prop) (hR : RS_raise Rel) {p : Program} {l : Launch} {e : Env} {s : State} {m : MethodId} {below : List Frame} {meth : Method} {c : Code} {D : va_G} {κ : Nat → ClassId} {b L : Nat} {xs : Nat → Int32} (hL : L ≤ 2560) (C9 : lw_At p s m meth c b L xs) (hK : va_K D vwCl (xT κ) s) (j : Nat) (hj : 5 * j + 5 ≤ L) (hnext : LAt Rel D κ p l e s m below meth c b 1805 j (j + 1)) : LAt Rel D κ p l e s m below meth c b 431 j j := by
  obtain ⟨hx, hb, hr, hml, hown, hts0, hX, hbl, hlocks, hgv⟩ := C9
  have hts : ∀ w ∈ wsLL, w.before #[Value.ref b] s = true := fun w h => hts0 w (xlw_LL w h)
  have hA : ∀ q : Nat, s.heap.size ≤ q → (fun q : Nat => s.heap.size ≤ q) q := fun _ h => h
  intro a am ad uh ur un us uo uv fo wp wk0 wk1 pu u0 u1 n0 n1 hrel hpap hk0 hk1 H locs ls hG hl
  have hcc : 48 + 17 * (j + 1) ≤ room_1.cells := by show _ ≤ 601024; omega
  have hss : 16900 + 2606 * (j + 1) ≤ room_1.slots := by show _ ≤ 7293034; omega
  refine lv_aload_n hx hb dL_law_431 rfl (lv_at hl 1 rfl) ?_
  refine lv_aload_n hx hb dL_law_432 rfl (lv_at hl 0 rfl) ?_
  refine lv_iload hx hb dL_law_433 (lv_at hl 4 rfl) ?_
  refine lv_iconst (v := 1) hx hb dL_law_435 (by decide) ?_
  refine lv_iadd hx hb dL_law_436 ?_
  refine x_sld (kn := 1) (by decide) (by decide) hj hL hx hb hX hbl hG.2.2 dL_law_437 (fun x5_1 ex5_1 => ?_)
  refine lv_aload_n hx hb dL_law_438 rfl (lv_at hl 0 rfl) ?_
  refine lv_iload hx hb dL_law_439 (lv_at hl 4 rfl) ?_
  refine lv_iconst (v := 2) hx hb dL_law_441 (by decide) ?_
  refine lv_iadd hx hb dL_law_442 ?_
  refine x_sld (kn := 2) (by decide) (by decide) hj hL hx hb hX hbl hG.2.2 dL_law_443 (fun x10_2 ex10_2 => ?_)
  obtain ⟨r, uh', uo', uv', hf4, hf5, hrel, hkh, hkn, hpp⟩ := hR j x5_1 x10_2 uh ur un us uo u0 n0 u1 n1 uv (by omega) hrel
  refine x_callVi (pre := []) (wc := WH κ a uh ++ (WR κ a ur ++ (WN κ a un ++ (WS κ a us ++ WO κ a uo)))) (wc1 := WH κ a uh' ++ (WR κ a ur ++ (WN κ a un ++ (WS κ a us ++ WO κ a uo')))) (post := WM κ am uv ++ ([(ad, .inl (κ 1, 1, .inr (.inl fo)))] ++ (wp ++ (wk0 ++ wk1)))) (As := [.int x5_1, .int x10_2]) (rest := []) (w1 := LW κ a am ad uh' ur un us uo' uv fo wp wk0 wk1) ⟨hx, hb, hml, hown, hts⟩ hK hG hA rfl rfl (c_X4_raise l D κ a H.size x5_1 x10_2 uh ur un us uo r uh' uo' hf4) (cwV 2 hts xG_X4_raise rfl rfl rfl (by decide +kernel) ⟨Nat.le_of_ble_eq_true rfl, Nat.le_of_ble_eq_true rfl⟩) 25 4 rfl rfl rfl rfl hl.1 rfl (Nat.le_of_ble_eq_true rfl) dL_law_444 ⟨by omega, by omega⟩ (fun H locs hG => ?_)
  refine lv_aload_n hx hb dL_law_447 rfl (lv_at hl 2 rfl) ?_
  refine lv_aload_n hx hb dL_law_448 rfl (lv_at hl 0 rfl) ?_
  refine lv_iload hx hb dL_law_449 (lv_at hl 4 rfl) ?_
  refine lv_iconst (v := 1) hx hb dL_law_451 (by decide) ?_
  refine lv_iadd hx hb dL_law_452 ?_
  refine x_sld (kn := 1) (by decide) (by decide) hj hL hx hb hX hbl hG.2.2 dL_law_453 (fun x18_1 ex18_1 => ?_)
  refine lv_aload_n hx hb dL_law_454 rfl (lv_at hl 0 rfl) ?_
  refine lv_iload hx hb dL_law_455 (lv_at hl 4 rfl) ?_
  refine lv_iconst (v := 2) hx hb dL_law_457 (by decide) ?_
  refine lv_iadd hx hb dL_law_458 ?_
  refine x_sld (kn := 2) (by decide) (by decide) hj hL hx hb hX hbl hG.2.2 dL_law_459 (fun x23_2 ex23_2 => ?_)
  obtain rfl : x18_1 = x5_1 := ex18_1.trans ex5_1.symm
  obtain rfl : x23_2 = x10_2 := ex23_2.trans ex10_2.symm
  refine x_callVi (pre := WH κ a uh' ++ (WR κ a ur ++ (WN κ a un ++ (WS κ a us ++ WO κ a uo')))) (wc := WM κ am uv) (wc1 := WM κ am uv') (post := ([(ad, .inl (κ 1, 1, .inr (.inl fo)))] ++ (wp ++ (wk0 ++ wk1)))) (As := [.int x5_1, .int x10_2]) (rest := [.int r]) (w1 := LW κ a am ad uh' ur un us uo' uv' fo wp wk0 wk1) ⟨hx, hb, hml, hown, hts⟩ hK hG hA rfl rfl (c_X5_raise l D κ am H.size x5_1 x10_2 uv r uv' hf5) (cwV 2 hts xG_X5_raise rfl rfl rfl (by decide +kernel) ⟨Nat.le_of_ble_eq_true rfl, Nat.le_of_ble_eq_true rfl⟩) 0 5 rfl rfl rfl rfl hl.1 rfl (Nat.le_of_ble_eq_true rfl) dL_law_460 ⟨by omega, by omega⟩ (fun H locs hG => ?_)
  refine lv_icmp_eq (tgt := 1805) hx hb dL_law_463 (by decide) (fun c1 => ?_) (fun c1 => absurd rfl c1)
  refine W.widen (k := 48 + 17 * (j + 1)) (n := 16900 + 2606 * (j + 1)) (by omega) (by omega) ?_
  exact hnext a am ad uh' ur un us uo' uv' fo wp wk0 wk1 pu u0 u1 n0 n1 hrel (by rw [hpp]; exact hpap) (by rw [hkh, hkn]; exact hk0) (by rw [hkh, hkn]; exact hk1) H locs ls hG hl
set_option maxRecDepth 100000 in
set_option maxHeartbeats 4000000 in
theorem law_c8 (Rel : Nat → HS → NS → OS → HS → NS → HS → NS → MS → Prop) (hR : RS_meld Rel) {p : Program} {l : Launch} {e : Env} {s : State} {m : MethodId} {below : List Frame} {meth : Method} {c : Code} {D : va_G} {κ : Nat → ClassId} {b L : Nat} {xs : Nat → Int32} (hL : L ≤ 2560) (C9 : lw_At p s m meth c b L xs) (hK : va_K D vwCl (xT κ) s) (j : Nat) (hj : 5 * j + 5 ≤ L) (hnext : LAt Rel D κ p l e s m below meth c b 1805 j (j + 1)) : LAt Rel D κ p l e s m below meth c b 468 j j := by
  obtain ⟨hx, hb, hr, hml, hown, hts0, hX, hbl, hlocks, hgv⟩ := C9
  have hts : ∀ w ∈ wsLL, w.before #[Value.ref b] s = true := fun w h => hts0 w (xlw_LL w h)
  have hA : ∀ q : Nat, s.heap.size ≤ q → (fun q : Nat => s.heap.size ≤ q) q := fun _ h => h
  intro a am ad uh ur un us uo uv fo wp wk0 wk1 pu u0 u1 n0 n1 hrel hpap hk0 hk1 H locs ls hG hl
  have hcc : 48 + 17 * (j + 1) ≤ room_1.cells := by show _ ≤ 601024; omega
  have hss : 16900 + 2606 * (j + 1) ≤ room_1.slots := by show _ ≤ 7293034; omega
  refine lv_aload_n hx hb dL_law_468 rfl (lv_at hl 1 rfl) ?_
  refine lv_aload_n hx hb dL_law_469 rfl (lv_at hl 0 rfl) ?_
  refine lv_iload hx hb dL_law_470 (lv_at hl 4 rfl) ?_
  refine lv_iconst (v := 1) hx hb dL_law_472 (by decide) ?_
  refine lv_iadd hx hb dL_law_473 ?_
  refine x_sld (kn := 1) (by decide) (by decide) hj hL hx hb hX hbl hG.2.2 dL_law_474 (fun x5_1 ex5_1 => ?_)
  refine lv_aload_n hx hb dL_law_475 rfl (lv_at hl 0 rfl) ?_
  refine lv_iload hx hb dL_law_476 (lv_at hl 4 rfl) ?_
  refine lv_iconst (v := 2) hx hb dL_law_478 (by decide) ?_
  refine lv_iadd hx hb dL_law_479 ?_
  refine x_sld (kn := 2) (by decide) (by decide) hj hL hx hb hX hbl hG.2.2 dL_law_480 (fun x10_2 ex10_2 => ?_)
  obtain ⟨r, uh', uo', uv', hf4, hf5, hrel, hkh, hkn, hpp⟩ := hR j x5_1 x10_2 uh ur un us uo u0 n0 u1 n1 uv (by omega) hrel
  refine x_callVi (pre := []) (wc := WH κ a uh ++ (WR κ a ur ++ (WN κ a un ++ (WS κ a us ++ WO κ a uo)))) (wc1 := WH κ a uh' ++ (WR κ a ur ++ (WN κ a un ++ (WS κ a us ++ WO κ a uo')))) (post := WM κ am uv ++ ([(ad, .inl (κ 1, 1, .inr (.inl fo)))] ++ (wp ++ (wk0 ++ wk1)))) (As := [.int x5_1, .int x10_2]) (rest := []) (w1 := LW κ a am ad uh' ur un us uo' uv fo wp wk0 wk1) ⟨hx, hb, hml, hown, hts⟩ hK hG hA rfl rfl (c_X4_meld l D κ a H.size x5_1 x10_2 uh ur un us uo r uh' uo' hf4) (cwV 2 hts xG_X4_meld rfl rfl rfl (by decide +kernel) ⟨Nat.le_of_ble_eq_true rfl, Nat.le_of_ble_eq_true rfl⟩) 25 4 rfl rfl rfl rfl hl.1 rfl (Nat.le_of_ble_eq_true rfl) dL_law_481 ⟨by omega, by omega⟩ (fun H locs hG => ?_)
  refine lv_aload_n hx hb dL_law_484 rfl (lv_at hl 2 rfl) ?_
  refine lv_aload_n hx hb dL_law_485 rfl (lv_at hl 0 rfl) ?_
  refine lv_iload hx hb dL_law_486 (lv_at hl 4 rfl) ?_
  refine lv_iconst (v := 1) hx hb dL_law_488 (by decide) ?_
  refine lv_iadd hx hb dL_law_489 ?_
  refine x_sld (kn := 1) (by decide) (by decide) hj hL hx hb hX hbl hG.2.2 dL_law_490 (fun x18_1 ex18_1 => ?_)
  refine lv_aload_n hx hb dL_law_491 rfl (lv_at hl 0 rfl) ?_
  refine lv_iload hx hb dL_law_492 (lv_at hl 4 rfl) ?_
  refine lv_iconst (v := 2) hx hb dL_law_494 (by decide) ?_
  refine lv_iadd hx hb dL_law_495 ?_
  refine x_sld (kn := 2) (by decide) (by decide) hj hL hx hb hX hbl hG.2.2 dL_law_496 (fun x23_2 ex23_2 => ?_)
  obtain rfl : x18_1 = x5_1 := ex18_1.trans ex5_1.symm
  obtain rfl : x23_2 = x10_2 := ex23_2.trans ex10_2.symm
  refine x_callVi (pre := WH κ a uh' ++ (WR κ a ur ++ (WN κ a un ++ (WS κ a us ++ WO κ a uo')))) (wc := WM κ am uv) (wc1 := WM κ am uv') (post := ([(ad, .inl (κ 1, 1, .inr (.inl fo)))] ++ (wp ++ (wk0 ++ wk1)))) (As := [.int x5_1, .int x10_2]) (rest := [.int r]) (w1 := LW κ a am ad uh' ur un us uo' uv' fo wp wk0 wk1) ⟨hx, hb, hml, hown, hts⟩ hK hG hA rfl rfl (c_X5_meld l D κ am H.size x5_1 x10_2 uv r uv' hf5) (cwV 2 hts xG_X5_meld rfl rfl rfl (by decide +kernel) ⟨Nat.le_of_ble_eq_true rfl, Nat.le_of_ble_eq_true rfl⟩) 0 5 rfl rfl rfl rfl hl.1 rfl (Nat.le_of_ble_eq_true rfl) dL_law_497 ⟨by omega, by omega⟩ (fun H locs hG => ?_)
  refine lv_icmp_eq (tgt := 1805) hx hb dL_law_500 (by decide) (fun c1 => ?_) (fun c1 => absurd rfl c1)
  refine W.widen (k := 48 + 17 * (j + 1)) (n := 16900 + 2606 * (j + 1)) (by omega) (by omega) ?_
  exact hnext a am ad uh' ur un us uo' uv' fo wp wk0 wk1 pu u0 u1 n0 n1 hrel (by rw [hpp]; exact hpap) (by rw [hkh, hkn]; exact hk0) (by rw [hkh, hkn]; exact hk1) H locs ls hG hl
set_option maxRecDepth 100000 in
set_option maxHeartbeats 4000000 in
theorem law_c9 (Rel : Nat → HS → NS → OS → HS → NS → HS → NS → MS → Prop) (hR : RS_part Rel) {p : Program} {l : Launch} {e : Env} {s : State} {m : MethodId} {below : List Frame} {meth : Method} {c : Code} {D : va_G} {κ : Nat → ClassId} {b L : Nat} {xs : Nat → Int32} (hL : L ≤ 2560) (C9 : lw_At p s m meth c b L xs) (hK : va_K D vwCl (xT κ) s) (j : Nat) (hj : 5 * j + 5 ≤ L) (hnext : LAt Rel D κ p l e s m below meth c b 1805 j (j + 1)) : LAt Rel D κ p l e s m below meth c b 505 j j := by
  obtain ⟨hx, hb, hr, hml, hown, hts0, hX, hbl, hlocks, hgv⟩ := C9
  have hts : ∀ w ∈ wsLL, w.before #[Value.ref b] s = true := fun w h => hts0 w (xlw_LL w h)
  have hA : ∀ q : Nat, s.heap.size ≤ q → (fun q : Nat => s.heap.size ≤ q) q := fun _ h => h
  intro a am ad uh ur un us uo uv fo wp wk0 wk1 pu u0 u1 n0 n1 hrel hpap hk0 hk1 H locs ls hG hl
  have hcc : 48 + 17 * (j + 1) ≤ room_1.cells := by show _ ≤ 601024; omega
  have hss : 16900 + 2606 * (j + 1) ≤ room_1.slots := by show _ ≤ 7293034; omega
  refine lv_aload_n hx hb dL_law_505 rfl (lv_at hl 1 rfl) ?_
  refine lv_aload_n hx hb dL_law_506 rfl (lv_at hl 0 rfl) ?_
  refine lv_iload hx hb dL_law_507 (lv_at hl 4 rfl) ?_
  refine lv_iconst (v := 1) hx hb dL_law_509 (by decide) ?_
  refine lv_iadd hx hb dL_law_510 ?_
  refine x_sld (kn := 1) (by decide) (by decide) hj hL hx hb hX hbl hG.2.2 dL_law_511 (fun x5_1 ex5_1 => ?_)
  refine lv_aload_n hx hb dL_law_512 rfl (lv_at hl 0 rfl) ?_
  refine lv_iload hx hb dL_law_513 (lv_at hl 4 rfl) ?_
  refine lv_iconst (v := 2) hx hb dL_law_515 (by decide) ?_
  refine lv_iadd hx hb dL_law_516 ?_
  refine x_sld (kn := 2) (by decide) (by decide) hj hL hx hb hX hbl hG.2.2 dL_law_517 (fun x10_2 ex10_2 => ?_)
  refine lv_aload_n hx hb dL_law_518 rfl (lv_at hl 0 rfl) ?_
  refine lv_iload hx hb dL_law_519 (lv_at hl 4 rfl) ?_
  refine lv_iconst (v := 3) hx hb dL_law_521 (by decide) ?_
  refine lv_iadd hx hb dL_law_522 ?_
  refine x_sld (kn := 3) (by decide) (by decide) hj hL hx hb hX hbl hG.2.2 dL_law_523 (fun x15_3 ex15_3 => ?_)
  obtain ⟨r, uh', uo', uv', hf4, hf5, hrel, hkh, hkn, hpp⟩ := hR j x5_1 x10_2 x15_3 uh ur un us uo u0 n0 u1 n1 uv (by omega) hrel
  refine x_callVi (pre := []) (wc := WH κ a uh ++ (WR κ a ur ++ (WN κ a un ++ (WS κ a us ++ WO κ a uo)))) (wc1 := WH κ a uh' ++ (WR κ a ur ++ (WN κ a un ++ (WS κ a us ++ WO κ a uo')))) (post := WM κ am uv ++ ([(ad, .inl (κ 1, 1, .inr (.inl fo)))] ++ (wp ++ (wk0 ++ wk1)))) (As := [.int x5_1, .int x10_2, .int x15_3]) (rest := []) (w1 := LW κ a am ad uh' ur un us uo' uv fo wp wk0 wk1) ⟨hx, hb, hml, hown, hts⟩ hK hG hA rfl rfl (c_X4_part l D κ a H.size x5_1 x10_2 x15_3 uh ur un us uo r uh' uo' hf4) (cwV 3 hts xG_X4_part rfl rfl rfl (by decide +kernel) ⟨Nat.le_of_ble_eq_true rfl, Nat.le_of_ble_eq_true rfl⟩) 25 4 rfl rfl rfl rfl hl.1 rfl (Nat.le_of_ble_eq_true rfl) dL_law_524 ⟨by omega, by omega⟩ (fun H locs hG => ?_)
  refine lv_aload_n hx hb dL_law_527 rfl (lv_at hl 2 rfl) ?_
  refine lv_aload_n hx hb dL_law_528 rfl (lv_at hl 0 rfl) ?_
  refine lv_iload hx hb dL_law_529 (lv_at hl 4 rfl) ?_
  refine lv_iconst (v := 1) hx hb dL_law_531 (by decide) ?_
  refine lv_iadd hx hb dL_law_532 ?_
  refine x_sld (kn := 1) (by decide) (by decide) hj hL hx hb hX hbl hG.2.2 dL_law_533 (fun x23_1 ex23_1 => ?_)
  refine lv_aload_n hx hb dL_law_534 rfl (lv_at hl 0 rfl) ?_
  refine lv_iload hx hb dL_law_535 (lv_at hl 4 rfl) ?_
  refine lv_iconst (v := 2) hx hb dL_law_537 (by decide) ?_
  refine lv_iadd hx hb dL_law_538 ?_
  refine x_sld (kn := 2) (by decide) (by decide) hj hL hx hb hX hbl hG.2.2 dL_law_539 (fun x28_2 ex28_2 => ?_)
  refine lv_aload_n hx hb dL_law_540 rfl (lv_at hl 0 rfl) ?_
  refine lv_iload hx hb dL_law_541 (lv_at hl 4 rfl) ?_
  refine lv_iconst (v := 3) hx hb dL_law_543 (by decide) ?_
  refine lv_iadd hx hb dL_law_544 ?_
  refine x_sld (kn := 3) (by decide) (by decide) hj hL hx hb hX hbl hG.2.2 dL_law_545 (fun x33_3 ex33_3 => ?_)
  obtain rfl : x23_1 = x5_1 := ex23_1.trans ex5_1.symm
  obtain rfl : x28_2 = x10_2 := ex28_2.trans ex10_2.symm
  obtain rfl : x33_3 = x15_3 := ex33_3.trans ex15_3.symm
  refine x_callVi (pre := WH κ a uh' ++ (WR κ a ur ++ (WN κ a un ++ (WS κ a us ++ WO κ a uo')))) (wc := WM κ am uv) (wc1 := WM κ am uv') (post := ([(ad, .inl (κ 1, 1, .inr (.inl fo)))] ++ (wp ++ (wk0 ++ wk1)))) (As := [.int x5_1, .int x10_2, .int x15_3]) (rest := [.int r]) (w1 := LW κ a am ad uh' ur un us uo' uv' fo wp wk0 wk1) ⟨hx, hb, hml, hown, hts⟩ hK hG hA rfl rfl (c_X5_part l D κ am H.size x5_1 x10_2 x15_3 uv r uv' hf5) (cwV 3 hts xG_X5_part rfl rfl rfl (by decide +kernel) ⟨Nat.le_of_ble_eq_true rfl, Nat.le_of_ble_eq_true rfl⟩) 0 5 rfl rfl rfl rfl hl.1 rfl (Nat.le_of_ble_eq_true rfl) dL_law_546 ⟨by omega, by omega⟩ (fun H locs hG => ?_)
  refine lv_icmp_eq (tgt := 1805) hx hb dL_law_549 (by decide) (fun c1 => ?_) (fun c1 => absurd rfl c1)
  refine W.widen (k := 48 + 17 * (j + 1)) (n := 16900 + 2606 * (j + 1)) (by omega) (by omega) ?_
  exact hnext a am ad uh' ur un us uo' uv' fo wp wk0 wk1 pu u0 u1 n0 n1 hrel (by rw [hpp]; exact hpap) (by rw [hkh, hkn]; exact hk0) (by rw [hkh, hkn]; exact hk1) H locs ls hG hl
set_option maxRecDepth 100000 in
set_option maxHeartbeats 4000000 in
theorem law_c10 (Rel : Nat → HS → NS → OS → HS → NS → HS → NS → MS → Prop) (hR : RS_split Rel) {p : Program} {l : Launch} {e : Env} {s : State} {m : MethodId} {below : List Frame} {meth : Method} {c : Code} {D : va_G} {κ : Nat → ClassId} {b L : Nat} {xs : Nat → Int32} (hL : L ≤ 2560) (C9 : lw_At p s m meth c b L xs) (hK : va_K D vwCl (xT κ) s) (j : Nat) (hj : 5 * j + 5 ≤ L) (hnext : LAt Rel D κ p l e s m below meth c b 1805 j (j + 1)) : LAt Rel D κ p l e s m below meth c b 554 j j := by
  obtain ⟨hx, hb, hr, hml, hown, hts0, hX, hbl, hlocks, hgv⟩ := C9
  have hts : ∀ w ∈ wsLL, w.before #[Value.ref b] s = true := fun w h => hts0 w (xlw_LL w h)
  have hA : ∀ q : Nat, s.heap.size ≤ q → (fun q : Nat => s.heap.size ≤ q) q := fun _ h => h
  intro a am ad uh ur un us uo uv fo wp wk0 wk1 pu u0 u1 n0 n1 hrel hpap hk0 hk1 H locs ls hG hl
  have hcc : 48 + 17 * (j + 1) ≤ room_1.cells := by show _ ≤ 601024; omega
  have hss : 16900 + 2606 * (j + 1) ≤ room_1.slots := by show _ ≤ 7293034; omega
  refine lv_aload_n hx hb dL_law_554 rfl (lv_at hl 1 rfl) ?_
  refine lv_aload_n hx hb dL_law_555 rfl (lv_at hl 0 rfl) ?_
  refine lv_iload hx hb dL_law_556 (lv_at hl 4 rfl) ?_
  refine lv_iconst (v := 1) hx hb dL_law_558 (by decide) ?_
  refine lv_iadd hx hb dL_law_559 ?_
  refine x_sld (kn := 1) (by decide) (by decide) hj hL hx hb hX hbl hG.2.2 dL_law_560 (fun x5_1 ex5_1 => ?_)
  refine lv_aload_n hx hb dL_law_561 rfl (lv_at hl 0 rfl) ?_
  refine lv_iload hx hb dL_law_562 (lv_at hl 4 rfl) ?_
  refine lv_iconst (v := 2) hx hb dL_law_564 (by decide) ?_
  refine lv_iadd hx hb dL_law_565 ?_
  refine x_sld (kn := 2) (by decide) (by decide) hj hL hx hb hX hbl hG.2.2 dL_law_566 (fun x10_2 ex10_2 => ?_)
  refine lv_aload_n hx hb dL_law_567 rfl (lv_at hl 0 rfl) ?_
  refine lv_iload hx hb dL_law_568 (lv_at hl 4 rfl) ?_
  refine lv_iconst (v := 3) hx hb dL_law_570 (by decide) ?_
  refine lv_iadd hx hb dL_law_571 ?_
  refine x_sld (kn := 3) (by decide) (by decide) hj hL hx hb hX hbl hG.2.2 dL_law_572 (fun x15_3 ex15_3 => ?_)
  obtain ⟨r, uh', ur', uo', uv', hf4, hf5, hrel, hkh, hkn, hpp⟩ := hR j x5_1 x10_2 x15_3 uh ur un us uo u0 n0 u1 n1 uv (by omega) hrel
  refine x_callVi (pre := []) (wc := WH κ a uh ++ (WR κ a ur ++ (WN κ a un ++ (WS κ a us ++ WO κ a uo)))) (wc1 := WH κ a uh' ++ (WR κ a ur' ++ (WN κ a un ++ (WS κ a us ++ WO κ a uo')))) (post := WM κ am uv ++ ([(ad, .inl (κ 1, 1, .inr (.inl fo)))] ++ (wp ++ (wk0 ++ wk1)))) (As := [.int x5_1, .int x10_2, .int x15_3]) (rest := []) (w1 := LW κ a am ad uh' ur' un us uo' uv fo wp wk0 wk1) ⟨hx, hb, hml, hown, hts⟩ hK hG hA rfl rfl (c_X4_split l D κ a H.size x5_1 x10_2 x15_3 uh ur un us uo r uh' ur' uo' hf4) (cwV 3 hts xG_X4_split rfl rfl rfl (by decide +kernel) ⟨Nat.le_of_ble_eq_true rfl, Nat.le_of_ble_eq_true rfl⟩) 25 4 rfl rfl rfl rfl hl.1 rfl (Nat.le_of_ble_eq_true rfl) dL_law_573 ⟨by omega, by omega⟩ (fun H locs hG => ?_)
  refine lv_aload_n hx hb dL_law_576 rfl (lv_at hl 2 rfl) ?_
  refine lv_aload_n hx hb dL_law_577 rfl (lv_at hl 0 rfl) ?_
  refine lv_iload hx hb dL_law_578 (lv_at hl 4 rfl) ?_
  refine lv_iconst (v := 1) hx hb dL_law_580 (by decide) ?_
  refine lv_iadd hx hb dL_law_581 ?_
  refine x_sld (kn := 1) (by decide) (by decide) hj hL hx hb hX hbl hG.2.2 dL_law_582 (fun x23_1 ex23_1 => ?_)
  refine lv_aload_n hx hb dL_law_583 rfl (lv_at hl 0 rfl) ?_
  refine lv_iload hx hb dL_law_584 (lv_at hl 4 rfl) ?_
  refine lv_iconst (v := 2) hx hb dL_law_586 (by decide) ?_
  refine lv_iadd hx hb dL_law_587 ?_
  refine x_sld (kn := 2) (by decide) (by decide) hj hL hx hb hX hbl hG.2.2 dL_law_588 (fun x28_2 ex28_2 => ?_)
  refine lv_aload_n hx hb dL_law_589 rfl (lv_at hl 0 rfl) ?_
  refine lv_iload hx hb dL_law_590 (lv_at hl 4 rfl) ?_
  refine lv_iconst (v := 3) hx hb dL_law_592 (by decide) ?_
  refine lv_iadd hx hb dL_law_593 ?_
  refine x_sld (kn := 3) (by decide) (by decide) hj hL hx hb hX hbl hG.2.2 dL_law_594 (fun x33_3 ex33_3 => ?_)
  obtain rfl : x23_1 = x5_1 := ex23_1.trans ex5_1.symm
  obtain rfl : x28_2 = x10_2 := ex28_2.trans ex10_2.symm
  obtain rfl : x33_3 = x15_3 := ex33_3.trans ex15_3.symm
  refine x_callVi (pre := WH κ a uh' ++ (WR κ a ur' ++ (WN κ a un ++ (WS κ a us ++ WO κ a uo')))) (wc := WM κ am uv) (wc1 := WM κ am uv') (post := ([(ad, .inl (κ 1, 1, .inr (.inl fo)))] ++ (wp ++ (wk0 ++ wk1)))) (As := [.int x5_1, .int x10_2, .int x15_3]) (rest := [.int r]) (w1 := LW κ a am ad uh' ur' un us uo' uv' fo wp wk0 wk1) ⟨hx, hb, hml, hown, hts⟩ hK hG hA rfl rfl (c_X5_split l D κ am H.size x5_1 x10_2 x15_3 uv r uv' hf5) (cwV 3 hts xG_X5_split rfl rfl rfl (by decide +kernel) ⟨Nat.le_of_ble_eq_true rfl, Nat.le_of_ble_eq_true rfl⟩) 0 5 rfl rfl rfl rfl hl.1 rfl (Nat.le_of_ble_eq_true rfl) dL_law_595 ⟨by omega, by omega⟩ (fun H locs hG => ?_)
  refine lv_icmp_eq (tgt := 1805) hx hb dL_law_598 (by decide) (fun c1 => ?_) (fun c1 => absurd rfl c1)
  refine W.widen (k := 48 + 17 * (j + 1)) (n := 16900 + 2606 * (j + 1)) (by omega) (by omega) ?_
  exact hnext a am ad uh' ur' un us uo' uv' fo wp wk0 wk1 pu u0 u1 n0 n1 hrel (by rw [hpp]; exact hpap) (by rw [hkh, hkn]; exact hk0) (by rw [hkh, hkn]; exact hk1) H locs ls hG hl
set_option maxRecDepth 100000 in
set_option maxHeartbeats 4000000 in
theorem law_c11 (Rel : Nat → HS → NS → OS → HS → NS → HS → NS → MS → Prop) (hR : RS_gather Rel) {p : Program} {l : Launch} {e : Env} {s : State} {m : MethodId} {below : List Frame} {meth : Method} {c : Code} {D : va_G} {κ : Nat → ClassId} {b L : Nat} {xs : Nat → Int32} (hL : L ≤ 2560) (C9 : lw_At p s m meth c b L xs) (hK : va_K D vwCl (xT κ) s) (j : Nat) (hj : 5 * j + 5 ≤ L) (hnext : LAt Rel D κ p l e s m below meth c b 1805 j (j + 1)) : LAt Rel D κ p l e s m below meth c b 603 j j := by
  obtain ⟨hx, hb, hr, hml, hown, hts0, hX, hbl, hlocks, hgv⟩ := C9
  have hts : ∀ w ∈ wsLL, w.before #[Value.ref b] s = true := fun w h => hts0 w (xlw_LL w h)
  have hA : ∀ q : Nat, s.heap.size ≤ q → (fun q : Nat => s.heap.size ≤ q) q := fun _ h => h
  intro a am ad uh ur un us uo uv fo wp wk0 wk1 pu u0 u1 n0 n1 hrel hpap hk0 hk1 H locs ls hG hl
  have hcc : 48 + 17 * (j + 1) ≤ room_1.cells := by show _ ≤ 601024; omega
  have hss : 16900 + 2606 * (j + 1) ≤ room_1.slots := by show _ ≤ 7293034; omega
  refine lv_aload_n hx hb dL_law_603 rfl (lv_at hl 1 rfl) ?_
  refine lv_aload_n hx hb dL_law_604 rfl (lv_at hl 0 rfl) ?_
  refine lv_iload hx hb dL_law_605 (lv_at hl 4 rfl) ?_
  refine lv_iconst (v := 1) hx hb dL_law_607 (by decide) ?_
  refine lv_iadd hx hb dL_law_608 ?_
  refine x_sld (kn := 1) (by decide) (by decide) hj hL hx hb hX hbl hG.2.2 dL_law_609 (fun x5_1 ex5_1 => ?_)
  obtain ⟨r, uh', ur', uo', uv', hf4, hf5, hrel, hkh, hkn, hpp⟩ := hR j x5_1 uh ur un us uo u0 n0 u1 n1 uv (by omega) hrel
  refine x_callVi (pre := []) (wc := WH κ a uh ++ (WR κ a ur ++ (WN κ a un ++ (WS κ a us ++ WO κ a uo)))) (wc1 := WH κ a uh' ++ (WR κ a ur' ++ (WN κ a un ++ (WS κ a us ++ WO κ a uo')))) (post := WM κ am uv ++ ([(ad, .inl (κ 1, 1, .inr (.inl fo)))] ++ (wp ++ (wk0 ++ wk1)))) (As := [.int x5_1]) (rest := []) (w1 := LW κ a am ad uh' ur' un us uo' uv fo wp wk0 wk1) ⟨hx, hb, hml, hown, hts⟩ hK hG hA rfl rfl (c_X4_gather l D κ a H.size x5_1 uh ur un us uo r uh' ur' uo' hf4) (cwV 1 hts xG_X4_gather rfl rfl rfl (by decide +kernel) ⟨Nat.le_of_ble_eq_true rfl, Nat.le_of_ble_eq_true rfl⟩) 25 4 rfl rfl rfl rfl hl.1 rfl (Nat.le_of_ble_eq_true rfl) dL_law_610 ⟨by omega, by omega⟩ (fun H locs hG => ?_)
  refine lv_aload_n hx hb dL_law_613 rfl (lv_at hl 2 rfl) ?_
  refine lv_aload_n hx hb dL_law_614 rfl (lv_at hl 0 rfl) ?_
  refine lv_iload hx hb dL_law_615 (lv_at hl 4 rfl) ?_
  refine lv_iconst (v := 1) hx hb dL_law_617 (by decide) ?_
  refine lv_iadd hx hb dL_law_618 ?_
  refine x_sld (kn := 1) (by decide) (by decide) hj hL hx hb hX hbl hG.2.2 dL_law_619 (fun x13_1 ex13_1 => ?_)
  obtain rfl : x13_1 = x5_1 := ex13_1.trans ex5_1.symm
  refine x_callVi (pre := WH κ a uh' ++ (WR κ a ur' ++ (WN κ a un ++ (WS κ a us ++ WO κ a uo')))) (wc := WM κ am uv) (wc1 := WM κ am uv') (post := ([(ad, .inl (κ 1, 1, .inr (.inl fo)))] ++ (wp ++ (wk0 ++ wk1)))) (As := [.int x5_1]) (rest := [.int r]) (w1 := LW κ a am ad uh' ur' un us uo' uv' fo wp wk0 wk1) ⟨hx, hb, hml, hown, hts⟩ hK hG hA rfl rfl (c_X5_gather l D κ am H.size x5_1 uv r uv' hf5) (cwV 1 hts xG_X5_gather rfl rfl rfl (by decide +kernel) ⟨Nat.le_of_ble_eq_true rfl, Nat.le_of_ble_eq_true rfl⟩) 0 5 rfl rfl rfl rfl hl.1 rfl (Nat.le_of_ble_eq_true rfl) dL_law_620 ⟨by omega, by omega⟩ (fun H locs hG => ?_)
  refine lv_icmp_eq (tgt := 1805) hx hb dL_law_623 (by decide) (fun c1 => ?_) (fun c1 => absurd rfl c1)
  refine W.widen (k := 48 + 17 * (j + 1)) (n := 16900 + 2606 * (j + 1)) (by omega) (by omega) ?_
  exact hnext a am ad uh' ur' un us uo' uv' fo wp wk0 wk1 pu u0 u1 n0 n1 hrel (by rw [hpp]; exact hpap) (by rw [hkh, hkn]; exact hk0) (by rw [hkh, hkn]; exact hk1) H locs ls hG hl
set_option maxRecDepth 100000 in
set_option maxHeartbeats 4000000 in
theorem law_c12 (Rel : Nat → HS → NS → OS → HS → NS → HS → NS → MS → Prop) (hR : RS_even Rel) {p : Program} {l : Launch} {e : Env} {s : State} {m : MethodId} {below : List Frame} {meth : Method} {c : Code} {D : va_G} {κ : Nat → ClassId} {b L : Nat} {xs : Nat → Int32} (hL : L ≤ 2560) (C9 : lw_At p s m meth c b L xs) (hK : va_K D vwCl (xT κ) s) (j : Nat) (hj : 5 * j + 5 ≤ L) (hnext : LAt Rel D κ p l e s m below meth c b 1805 j (j + 1)) : LAt Rel D κ p l e s m below meth c b 628 j j := by
  obtain ⟨hx, hb, hr, hml, hown, hts0, hX, hbl, hlocks, hgv⟩ := C9
  have hts : ∀ w ∈ wsLL, w.before #[Value.ref b] s = true := fun w h => hts0 w (xlw_LL w h)
  have hA : ∀ q : Nat, s.heap.size ≤ q → (fun q : Nat => s.heap.size ≤ q) q := fun _ h => h
  intro a am ad uh ur un us uo uv fo wp wk0 wk1 pu u0 u1 n0 n1 hrel hpap hk0 hk1 H locs ls hG hl
  have hcc : 48 + 17 * (j + 1) ≤ room_1.cells := by show _ ≤ 601024; omega
  have hss : 16900 + 2606 * (j + 1) ≤ room_1.slots := by show _ ≤ 7293034; omega
  refine lv_aload_n hx hb dL_law_628 rfl (lv_at hl 1 rfl) ?_
  obtain ⟨r, uh', ur', uv', hf4, hf5, hrel⟩ := hR j  uh ur un us uo u0 n0 u1 n1 uv (by omega) hrel
  refine x_callVi (pre := []) (wc := WH κ a uh ++ (WR κ a ur ++ (WN κ a un ++ (WS κ a us ++ WO κ a uo)))) (wc1 := WH κ a uh' ++ (WR κ a ur' ++ (WN κ a un ++ (WS κ a us ++ WO κ a uo)))) (post := WM κ am uv ++ ([(ad, .inl (κ 1, 1, .inr (.inl fo)))] ++ (wp ++ (wk0 ++ wk1)))) (As := []) (rest := []) (w1 := LW κ a am ad uh' ur' un us uo uv fo wp wk0 wk1) ⟨hx, hb, hml, hown, hts⟩ hK hG hA rfl rfl (c_X4_even l D κ a H.size  uh ur un us uo r uh' ur' hf4) (cwV 0 hts xG_X4_even rfl rfl rfl (by decide +kernel) ⟨Nat.le_of_ble_eq_true rfl, Nat.le_of_ble_eq_true rfl⟩) 25 4 rfl rfl rfl rfl hl.1 rfl (Nat.le_of_ble_eq_true rfl) dL_law_629 ⟨by omega, by omega⟩ (fun H locs hG => ?_)
  refine lv_aload_n hx hb dL_law_632 rfl (lv_at hl 2 rfl) ?_
  refine x_callVi (pre := WH κ a uh' ++ (WR κ a ur' ++ (WN κ a un ++ (WS κ a us ++ WO κ a uo)))) (wc := WM κ am uv) (wc1 := WM κ am uv') (post := ([(ad, .inl (κ 1, 1, .inr (.inl fo)))] ++ (wp ++ (wk0 ++ wk1)))) (As := []) (rest := [.int r]) (w1 := LW κ a am ad uh' ur' un us uo uv' fo wp wk0 wk1) ⟨hx, hb, hml, hown, hts⟩ hK hG hA rfl rfl (c_X5_even l D κ am H.size  uv r uv' hf5) (cwV 0 hts xG_X5_even rfl rfl rfl (by decide +kernel) ⟨Nat.le_of_ble_eq_true rfl, Nat.le_of_ble_eq_true rfl⟩) 0 5 rfl rfl rfl rfl hl.1 rfl (Nat.le_of_ble_eq_true rfl) dL_law_633 ⟨by omega, by omega⟩ (fun H locs hG => ?_)
  refine lv_icmp_eq (tgt := 1805) hx hb dL_law_636 (by decide) (fun c1 => ?_) (fun c1 => absurd rfl c1)
  refine W.widen (k := 48 + 17 * (j + 1)) (n := 16900 + 2606 * (j + 1)) (by omega) (by omega) ?_
  exact hnext a am ad uh' ur' un us uo uv' fo wp wk0 wk1 pu u0 u1 n0 n1 hrel hpap hk0 hk1 H locs ls hG hl
set_option maxRecDepth 100000 in
set_option maxHeartbeats 4000000 in
theorem law_c13 (Rel : Nat → HS → NS → OS → HS → NS → HS → NS → MS → Prop) (hR : RS_arc Rel) {p : Program} {l : Launch} {e : Env} {s : State} {m : MethodId} {below : List Frame} {meth : Method} {c : Code} {D : va_G} {κ : Nat → ClassId} {b L : Nat} {xs : Nat → Int32} (hL : L ≤ 2560) (C9 : lw_At p s m meth c b L xs) (hK : va_K D vwCl (xT κ) s) (j : Nat) (hj : 5 * j + 5 ≤ L) (hnext : LAt Rel D κ p l e s m below meth c b 1805 j (j + 1)) : LAt Rel D κ p l e s m below meth c b 641 j j := by
  obtain ⟨hx, hb, hr, hml, hown, hts0, hX, hbl, hlocks, hgv⟩ := C9
  have hts : ∀ w ∈ wsLL, w.before #[Value.ref b] s = true := fun w h => hts0 w (xlw_LL w h)
  have hA : ∀ q : Nat, s.heap.size ≤ q → (fun q : Nat => s.heap.size ≤ q) q := fun _ h => h
  intro a am ad uh ur un us uo uv fo wp wk0 wk1 pu u0 u1 n0 n1 hrel hpap hk0 hk1 H locs ls hG hl
  have hcc : 48 + 17 * (j + 1) ≤ room_1.cells := by show _ ≤ 601024; omega
  have hss : 16900 + 2606 * (j + 1) ≤ room_1.slots := by show _ ≤ 7293034; omega
  refine lv_aload_n hx hb dL_law_641 rfl (lv_at hl 1 rfl) ?_
  refine lv_aload_n hx hb dL_law_642 rfl (lv_at hl 0 rfl) ?_
  refine lv_iload hx hb dL_law_643 (lv_at hl 4 rfl) ?_
  refine lv_iconst (v := 1) hx hb dL_law_645 (by decide) ?_
  refine lv_iadd hx hb dL_law_646 ?_
  refine x_sld (kn := 1) (by decide) (by decide) hj hL hx hb hX hbl hG.2.2 dL_law_647 (fun x5_1 ex5_1 => ?_)
  refine lv_aload_n hx hb dL_law_648 rfl (lv_at hl 0 rfl) ?_
  refine lv_iload hx hb dL_law_649 (lv_at hl 4 rfl) ?_
  refine lv_iconst (v := 2) hx hb dL_law_651 (by decide) ?_
  refine lv_iadd hx hb dL_law_652 ?_
  refine x_sld (kn := 2) (by decide) (by decide) hj hL hx hb hX hbl hG.2.2 dL_law_653 (fun x10_2 ex10_2 => ?_)
  refine lv_aload_n hx hb dL_law_654 rfl (lv_at hl 0 rfl) ?_
  refine lv_iload hx hb dL_law_655 (lv_at hl 4 rfl) ?_
  refine lv_iconst (v := 3) hx hb dL_law_657 (by decide) ?_
  refine lv_iadd hx hb dL_law_658 ?_
  refine x_sld (kn := 3) (by decide) (by decide) hj hL hx hb hX hbl hG.2.2 dL_law_659 (fun x15_3 ex15_3 => ?_)
  obtain ⟨r, un', uo', uv', hf4, hf5, hrel, hkh, hkn, hpp⟩ := hR j x5_1 x10_2 x15_3 uh ur un us uo u0 n0 u1 n1 uv (by omega) hrel
  refine x_callVi (pre := []) (wc := WH κ a uh ++ (WR κ a ur ++ (WN κ a un ++ (WS κ a us ++ WO κ a uo)))) (wc1 := WH κ a uh ++ (WR κ a ur ++ (WN κ a un' ++ (WS κ a us ++ WO κ a uo')))) (post := WM κ am uv ++ ([(ad, .inl (κ 1, 1, .inr (.inl fo)))] ++ (wp ++ (wk0 ++ wk1)))) (As := [.int x5_1, .int x10_2, .int x15_3]) (rest := []) (w1 := LW κ a am ad uh ur un' us uo' uv fo wp wk0 wk1) ⟨hx, hb, hml, hown, hts⟩ hK hG hA rfl rfl (c_X4_arc l D κ a H.size x5_1 x10_2 x15_3 uh ur un us uo r un' uo' hf4) (cwV 3 hts xG_X4_arc rfl rfl rfl (by decide +kernel) ⟨Nat.le_of_ble_eq_true rfl, Nat.le_of_ble_eq_true rfl⟩) 25 4 rfl rfl rfl rfl hl.1 rfl (Nat.le_of_ble_eq_true rfl) dL_law_660 ⟨by omega, by omega⟩ (fun H locs hG => ?_)
  refine lv_aload_n hx hb dL_law_663 rfl (lv_at hl 2 rfl) ?_
  refine lv_aload_n hx hb dL_law_664 rfl (lv_at hl 0 rfl) ?_
  refine lv_iload hx hb dL_law_665 (lv_at hl 4 rfl) ?_
  refine lv_iconst (v := 1) hx hb dL_law_667 (by decide) ?_
  refine lv_iadd hx hb dL_law_668 ?_
  refine x_sld (kn := 1) (by decide) (by decide) hj hL hx hb hX hbl hG.2.2 dL_law_669 (fun x23_1 ex23_1 => ?_)
  refine lv_aload_n hx hb dL_law_670 rfl (lv_at hl 0 rfl) ?_
  refine lv_iload hx hb dL_law_671 (lv_at hl 4 rfl) ?_
  refine lv_iconst (v := 2) hx hb dL_law_673 (by decide) ?_
  refine lv_iadd hx hb dL_law_674 ?_
  refine x_sld (kn := 2) (by decide) (by decide) hj hL hx hb hX hbl hG.2.2 dL_law_675 (fun x28_2 ex28_2 => ?_)
  refine lv_aload_n hx hb dL_law_676 rfl (lv_at hl 0 rfl) ?_
  refine lv_iload hx hb dL_law_677 (lv_at hl 4 rfl) ?_
  refine lv_iconst (v := 3) hx hb dL_law_679 (by decide) ?_
  refine lv_iadd hx hb dL_law_680 ?_
  refine x_sld (kn := 3) (by decide) (by decide) hj hL hx hb hX hbl hG.2.2 dL_law_681 (fun x33_3 ex33_3 => ?_)
  obtain rfl : x23_1 = x5_1 := ex23_1.trans ex5_1.symm
  obtain rfl : x28_2 = x10_2 := ex28_2.trans ex10_2.symm
  obtain rfl : x33_3 = x15_3 := ex33_3.trans ex15_3.symm
  refine x_callVi (pre := WH κ a uh ++ (WR κ a ur ++ (WN κ a un' ++ (WS κ a us ++ WO κ a uo')))) (wc := WM κ am uv) (wc1 := WM κ am uv') (post := ([(ad, .inl (κ 1, 1, .inr (.inl fo)))] ++ (wp ++ (wk0 ++ wk1)))) (As := [.int x5_1, .int x10_2, .int x15_3]) (rest := [.int r]) (w1 := LW κ a am ad uh ur un' us uo' uv' fo wp wk0 wk1) ⟨hx, hb, hml, hown, hts⟩ hK hG hA rfl rfl (c_X5_arc l D κ am H.size x5_1 x10_2 x15_3 uv r uv' hf5) (cwV 3 hts xG_X5_arc rfl rfl rfl (by decide +kernel) ⟨Nat.le_of_ble_eq_true rfl, Nat.le_of_ble_eq_true rfl⟩) 0 5 rfl rfl rfl rfl hl.1 rfl (Nat.le_of_ble_eq_true rfl) dL_law_682 ⟨by omega, by omega⟩ (fun H locs hG => ?_)
  refine lv_icmp_eq (tgt := 1805) hx hb dL_law_685 (by decide) (fun c1 => ?_) (fun c1 => absurd rfl c1)
  refine W.widen (k := 48 + 17 * (j + 1)) (n := 16900 + 2606 * (j + 1)) (by omega) (by omega) ?_
  exact hnext a am ad uh ur un' us uo' uv' fo wp wk0 wk1 pu u0 u1 n0 n1 hrel (by rw [hpp]; exact hpap) (by rw [hkh, hkn]; exact hk0) (by rw [hkh, hkn]; exact hk1) H locs ls hG hl
set_option maxRecDepth 100000 in
set_option maxHeartbeats 4000000 in
theorem law_c14 (Rel : Nat → HS → NS → OS → HS → NS → HS → NS → MS → Prop) (hR : RS_unarc Rel) {p : Program} {l : Launch} {e : Env} {s : State} {m : MethodId} {below : List Frame} {meth : Method} {c : Code} {D : va_G} {κ : Nat → ClassId} {b L : Nat} {xs : Nat → Int32} (hL : L ≤ 2560) (C9 : lw_At p s m meth c b L xs) (hK : va_K D vwCl (xT κ) s) (j : Nat) (hj : 5 * j + 5 ≤ L) (hnext : LAt Rel D κ p l e s m below meth c b 1805 j (j + 1)) : LAt Rel D κ p l e s m below meth c b 690 j j := by
  obtain ⟨hx, hb, hr, hml, hown, hts0, hX, hbl, hlocks, hgv⟩ := C9
  have hts : ∀ w ∈ wsLL, w.before #[Value.ref b] s = true := fun w h => hts0 w (xlw_LL w h)
  have hA : ∀ q : Nat, s.heap.size ≤ q → (fun q : Nat => s.heap.size ≤ q) q := fun _ h => h
  intro a am ad uh ur un us uo uv fo wp wk0 wk1 pu u0 u1 n0 n1 hrel hpap hk0 hk1 H locs ls hG hl
  have hcc : 48 + 17 * (j + 1) ≤ room_1.cells := by show _ ≤ 601024; omega
  have hss : 16900 + 2606 * (j + 1) ≤ room_1.slots := by show _ ≤ 7293034; omega
  refine lv_aload_n hx hb dL_law_690 rfl (lv_at hl 1 rfl) ?_
  refine lv_aload_n hx hb dL_law_691 rfl (lv_at hl 0 rfl) ?_
  refine lv_iload hx hb dL_law_692 (lv_at hl 4 rfl) ?_
  refine lv_iconst (v := 1) hx hb dL_law_694 (by decide) ?_
  refine lv_iadd hx hb dL_law_695 ?_
  refine x_sld (kn := 1) (by decide) (by decide) hj hL hx hb hX hbl hG.2.2 dL_law_696 (fun x5_1 ex5_1 => ?_)
  obtain ⟨r, un', uo', uv', hf4, hf5, hrel, hkh, hkn, hpp⟩ := hR j x5_1 uh ur un us uo u0 n0 u1 n1 uv (by omega) hrel
  refine x_callVi (pre := []) (wc := WH κ a uh ++ (WR κ a ur ++ (WN κ a un ++ (WS κ a us ++ WO κ a uo)))) (wc1 := WH κ a uh ++ (WR κ a ur ++ (WN κ a un' ++ (WS κ a us ++ WO κ a uo')))) (post := WM κ am uv ++ ([(ad, .inl (κ 1, 1, .inr (.inl fo)))] ++ (wp ++ (wk0 ++ wk1)))) (As := [.int x5_1]) (rest := []) (w1 := LW κ a am ad uh ur un' us uo' uv fo wp wk0 wk1) ⟨hx, hb, hml, hown, hts⟩ hK hG hA rfl rfl (c_X4_unarc l D κ a H.size x5_1 uh ur un us uo r un' uo' hf4) (cwV 1 hts xG_X4_unarc rfl rfl rfl (by decide +kernel) ⟨Nat.le_of_ble_eq_true rfl, Nat.le_of_ble_eq_true rfl⟩) 25 4 rfl rfl rfl rfl hl.1 rfl (Nat.le_of_ble_eq_true rfl) dL_law_697 ⟨by omega, by omega⟩ (fun H locs hG => ?_)
  refine lv_aload_n hx hb dL_law_700 rfl (lv_at hl 2 rfl) ?_
  refine lv_aload_n hx hb dL_law_701 rfl (lv_at hl 0 rfl) ?_
  refine lv_iload hx hb dL_law_702 (lv_at hl 4 rfl) ?_
  refine lv_iconst (v := 1) hx hb dL_law_704 (by decide) ?_
  refine lv_iadd hx hb dL_law_705 ?_
  refine x_sld (kn := 1) (by decide) (by decide) hj hL hx hb hX hbl hG.2.2 dL_law_706 (fun x13_1 ex13_1 => ?_)
  obtain rfl : x13_1 = x5_1 := ex13_1.trans ex5_1.symm
  refine x_callVi (pre := WH κ a uh ++ (WR κ a ur ++ (WN κ a un' ++ (WS κ a us ++ WO κ a uo')))) (wc := WM κ am uv) (wc1 := WM κ am uv') (post := ([(ad, .inl (κ 1, 1, .inr (.inl fo)))] ++ (wp ++ (wk0 ++ wk1)))) (As := [.int x5_1]) (rest := [.int r]) (w1 := LW κ a am ad uh ur un' us uo' uv' fo wp wk0 wk1) ⟨hx, hb, hml, hown, hts⟩ hK hG hA rfl rfl (c_X5_unarc l D κ am H.size x5_1 uv r uv' hf5) (cwV 1 hts xG_X5_unarc rfl rfl rfl (by decide +kernel) ⟨Nat.le_of_ble_eq_true rfl, Nat.le_of_ble_eq_true rfl⟩) 0 5 rfl rfl rfl rfl hl.1 rfl (Nat.le_of_ble_eq_true rfl) dL_law_707 ⟨by omega, by omega⟩ (fun H locs hG => ?_)
  refine lv_icmp_eq (tgt := 1805) hx hb dL_law_710 (by decide) (fun c1 => ?_) (fun c1 => absurd rfl c1)
  refine W.widen (k := 48 + 17 * (j + 1)) (n := 16900 + 2606 * (j + 1)) (by omega) (by omega) ?_
  exact hnext a am ad uh ur un' us uo' uv' fo wp wk0 wk1 pu u0 u1 n0 n1 hrel (by rw [hpp]; exact hpap) (by rw [hkh, hkn]; exact hk0) (by rw [hkh, hkn]; exact hk1) H locs ls hG hl
set_option maxRecDepth 100000 in
set_option maxHeartbeats 4000000 in
theorem law_c15 (Rel : Nat → HS → NS → OS → HS → NS → HS → NS → MS → Prop) (hR : RS_price Rel) {p : Program} {l : Launch} {e : Env} {s : State} {m : MethodId} {below : List Frame} {meth : Method} {c : Code} {D : va_G} {κ : Nat → ClassId} {b L : Nat} {xs : Nat → Int32} (hL : L ≤ 2560) (C9 : lw_At p s m meth c b L xs) (hK : va_K D vwCl (xT κ) s) (j : Nat) (hj : 5 * j + 5 ≤ L) (hnext : LAt Rel D κ p l e s m below meth c b 1805 j (j + 1)) : LAt Rel D κ p l e s m below meth c b 715 j j := by
  obtain ⟨hx, hb, hr, hml, hown, hts0, hX, hbl, hlocks, hgv⟩ := C9
  have hts : ∀ w ∈ wsLL, w.before #[Value.ref b] s = true := fun w h => hts0 w (xlw_LL w h)
  have hA : ∀ q : Nat, s.heap.size ≤ q → (fun q : Nat => s.heap.size ≤ q) q := fun _ h => h
  intro a am ad uh ur un us uo uv fo wp wk0 wk1 pu u0 u1 n0 n1 hrel hpap hk0 hk1 H locs ls hG hl
  have hcc : 48 + 17 * (j + 1) ≤ room_1.cells := by show _ ≤ 601024; omega
  have hss : 16900 + 2606 * (j + 1) ≤ room_1.slots := by show _ ≤ 7293034; omega
  refine lv_aload_n hx hb dL_law_715 rfl (lv_at hl 1 rfl) ?_
  refine lv_aload_n hx hb dL_law_716 rfl (lv_at hl 0 rfl) ?_
  refine lv_iload hx hb dL_law_717 (lv_at hl 4 rfl) ?_
  refine lv_iconst (v := 1) hx hb dL_law_719 (by decide) ?_
  refine lv_iadd hx hb dL_law_720 ?_
  refine x_sld (kn := 1) (by decide) (by decide) hj hL hx hb hX hbl hG.2.2 dL_law_721 (fun x5_1 ex5_1 => ?_)
  refine lv_aload_n hx hb dL_law_722 rfl (lv_at hl 0 rfl) ?_
  refine lv_iload hx hb dL_law_723 (lv_at hl 4 rfl) ?_
  refine lv_iconst (v := 2) hx hb dL_law_725 (by decide) ?_
  refine lv_iadd hx hb dL_law_726 ?_
  refine x_sld (kn := 2) (by decide) (by decide) hj hL hx hb hX hbl hG.2.2 dL_law_727 (fun x10_2 ex10_2 => ?_)
  obtain ⟨r, un', uo', uv', hf4, hf5, hrel, hkh, hkn, hpp⟩ := hR j x5_1 x10_2 uh ur un us uo u0 n0 u1 n1 uv (by omega) hrel
  refine x_callVi (pre := []) (wc := WH κ a uh ++ (WR κ a ur ++ (WN κ a un ++ (WS κ a us ++ WO κ a uo)))) (wc1 := WH κ a uh ++ (WR κ a ur ++ (WN κ a un' ++ (WS κ a us ++ WO κ a uo')))) (post := WM κ am uv ++ ([(ad, .inl (κ 1, 1, .inr (.inl fo)))] ++ (wp ++ (wk0 ++ wk1)))) (As := [.int x5_1, .int x10_2]) (rest := []) (w1 := LW κ a am ad uh ur un' us uo' uv fo wp wk0 wk1) ⟨hx, hb, hml, hown, hts⟩ hK hG hA rfl rfl (c_X4_price l D κ a H.size x5_1 x10_2 uh ur un us uo r un' uo' hf4) (cwV 2 hts xG_X4_price rfl rfl rfl (by decide +kernel) ⟨Nat.le_of_ble_eq_true rfl, Nat.le_of_ble_eq_true rfl⟩) 25 4 rfl rfl rfl rfl hl.1 rfl (Nat.le_of_ble_eq_true rfl) dL_law_728 ⟨by omega, by omega⟩ (fun H locs hG => ?_)
  refine lv_aload_n hx hb dL_law_731 rfl (lv_at hl 2 rfl) ?_
  refine lv_aload_n hx hb dL_law_732 rfl (lv_at hl 0 rfl) ?_
  refine lv_iload hx hb dL_law_733 (lv_at hl 4 rfl) ?_
  refine lv_iconst (v := 1) hx hb dL_law_735 (by decide) ?_
  refine lv_iadd hx hb dL_law_736 ?_
  refine x_sld (kn := 1) (by decide) (by decide) hj hL hx hb hX hbl hG.2.2 dL_law_737 (fun x18_1 ex18_1 => ?_)
  refine lv_aload_n hx hb dL_law_738 rfl (lv_at hl 0 rfl) ?_
  refine lv_iload hx hb dL_law_739 (lv_at hl 4 rfl) ?_
  refine lv_iconst (v := 2) hx hb dL_law_741 (by decide) ?_
  refine lv_iadd hx hb dL_law_742 ?_
  refine x_sld (kn := 2) (by decide) (by decide) hj hL hx hb hX hbl hG.2.2 dL_law_743 (fun x23_2 ex23_2 => ?_)
  obtain rfl : x18_1 = x5_1 := ex18_1.trans ex5_1.symm
  obtain rfl : x23_2 = x10_2 := ex23_2.trans ex10_2.symm
  refine x_callVi (pre := WH κ a uh ++ (WR κ a ur ++ (WN κ a un' ++ (WS κ a us ++ WO κ a uo')))) (wc := WM κ am uv) (wc1 := WM κ am uv') (post := ([(ad, .inl (κ 1, 1, .inr (.inl fo)))] ++ (wp ++ (wk0 ++ wk1)))) (As := [.int x5_1, .int x10_2]) (rest := [.int r]) (w1 := LW κ a am ad uh ur un' us uo' uv' fo wp wk0 wk1) ⟨hx, hb, hml, hown, hts⟩ hK hG hA rfl rfl (c_X5_price l D κ am H.size x5_1 x10_2 uv r uv' hf5) (cwV 2 hts xG_X5_price rfl rfl rfl (by decide +kernel) ⟨Nat.le_of_ble_eq_true rfl, Nat.le_of_ble_eq_true rfl⟩) 0 5 rfl rfl rfl rfl hl.1 rfl (Nat.le_of_ble_eq_true rfl) dL_law_744 ⟨by omega, by omega⟩ (fun H locs hG => ?_)
  refine lv_icmp_eq (tgt := 1805) hx hb dL_law_747 (by decide) (fun c1 => ?_) (fun c1 => absurd rfl c1)
  refine W.widen (k := 48 + 17 * (j + 1)) (n := 16900 + 2606 * (j + 1)) (by omega) (by omega) ?_
  exact hnext a am ad uh ur un' us uo' uv' fo wp wk0 wk1 pu u0 u1 n0 n1 hrel (by rw [hpp]; exact hpap) (by rw [hkh, hkn]; exact hk0) (by rw [hkh, hkn]; exact hk1) H locs ls hG hl
set_option maxRecDepth 100000 in
set_option maxHeartbeats 4000000 in
theorem law_c20 (Rel : Nat → HS → NS → OS → HS → NS → HS → NS → MS → Prop) (hR : RS_desk Rel) {p : Program} {l : Launch} {e : Env} {s : State} {m : MethodId} {below : List Frame} {meth : Method} {c : Code} {D : va_G} {κ : Nat → ClassId} {b L : Nat} {xs : Nat → Int32} (hL : L ≤ 2560) (C9 : lw_At p s m meth c b L xs) (hK : va_K D vwCl (xT κ) s) (j : Nat) (hj : 5 * j + 5 ≤ L) (hnext : LAt Rel D κ p l e s m below meth c b 1805 j (j + 1)) : LAt Rel D κ p l e s m below meth c b 925 j j := by
  obtain ⟨hx, hb, hr, hml, hown, hts0, hX, hbl, hlocks, hgv⟩ := C9
  have hts : ∀ w ∈ wsLL, w.before #[Value.ref b] s = true := fun w h => hts0 w (xlw_LL w h)
  have hA : ∀ q : Nat, s.heap.size ≤ q → (fun q : Nat => s.heap.size ≤ q) q := fun _ h => h
  intro a am ad uh ur un us uo uv fo wp wk0 wk1 pu u0 u1 n0 n1 hrel hpap hk0 hk1 H locs ls hG hl
  have hcc : 48 + 17 * (j + 1) ≤ room_1.cells := by show _ ≤ 601024; omega
  have hss : 16900 + 2606 * (j + 1) ≤ room_1.slots := by show _ ≤ 7293034; omega
  refine lv_aload_n hx hb dL_law_925 rfl (lv_at hl 1 rfl) ?_
  refine lv_aload_n hx hb dL_law_926 rfl (lv_at hl 0 rfl) ?_
  refine lv_iload hx hb dL_law_927 (lv_at hl 4 rfl) ?_
  refine lv_iconst (v := 1) hx hb dL_law_929 (by decide) ?_
  refine lv_iadd hx hb dL_law_930 ?_
  refine x_sld (kn := 1) (by decide) (by decide) hj hL hx hb hX hbl hG.2.2 dL_law_931 (fun x5_1 ex5_1 => ?_)
  refine lv_aload_n hx hb dL_law_932 rfl (lv_at hl 0 rfl) ?_
  refine lv_iload hx hb dL_law_933 (lv_at hl 4 rfl) ?_
  refine lv_iconst (v := 2) hx hb dL_law_935 (by decide) ?_
  refine lv_iadd hx hb dL_law_936 ?_
  refine x_sld (kn := 2) (by decide) (by decide) hj hL hx hb hX hbl hG.2.2 dL_law_937 (fun x10_2 ex10_2 => ?_)
  obtain ⟨r, ur', uv', hf4, hf5, hrel⟩ := hR j x5_1 x10_2 uh ur un us uo u0 n0 u1 n1 uv (by omega) hrel
  refine x_callVi (pre := []) (wc := WH κ a uh ++ (WR κ a ur ++ (WN κ a un ++ (WS κ a us ++ WO κ a uo)))) (wc1 := WH κ a uh ++ (WR κ a ur' ++ (WN κ a un ++ (WS κ a us ++ WO κ a uo)))) (post := WM κ am uv ++ ([(ad, .inl (κ 1, 1, .inr (.inl fo)))] ++ (wp ++ (wk0 ++ wk1)))) (As := [.int x5_1, .int x10_2]) (rest := []) (w1 := LW κ a am ad uh ur' un us uo uv fo wp wk0 wk1) ⟨hx, hb, hml, hown, hts⟩ hK hG hA rfl rfl (c_X4_desk l D κ a H.size x5_1 x10_2 uh ur un us uo r ur' hf4) (cwV 2 hts xG_X4_desk rfl rfl rfl (by decide +kernel) ⟨Nat.le_of_ble_eq_true rfl, Nat.le_of_ble_eq_true rfl⟩) 25 4 rfl rfl rfl rfl hl.1 rfl (Nat.le_of_ble_eq_true rfl) dL_law_938 ⟨by omega, by omega⟩ (fun H locs hG => ?_)
  refine lv_aload_n hx hb dL_law_941 rfl (lv_at hl 2 rfl) ?_
  refine lv_aload_n hx hb dL_law_942 rfl (lv_at hl 0 rfl) ?_
  refine lv_iload hx hb dL_law_943 (lv_at hl 4 rfl) ?_
  refine lv_iconst (v := 1) hx hb dL_law_945 (by decide) ?_
  refine lv_iadd hx hb dL_law_946 ?_
  refine x_sld (kn := 1) (by decide) (by decide) hj hL hx hb hX hbl hG.2.2 dL_law_947 (fun x18_1 ex18_1 => ?_)
  refine lv_aload_n hx hb dL_law_948 rfl (lv_at hl 0 rfl) ?_
  refine lv_iload hx hb dL_law_949 (lv_at hl 4 rfl) ?_
  refine lv_iconst (v := 2) hx hb dL_law_951 (by decide) ?_
  refine lv_iadd hx hb dL_law_952 ?_
  refine x_sld (kn := 2) (by decide) (by decide) hj hL hx hb hX hbl hG.2.2 dL_law_953 (fun x23_2 ex23_2 => ?_)
  obtain rfl : x18_1 = x5_1 := ex18_1.trans ex5_1.symm
  obtain rfl : x23_2 = x10_2 := ex23_2.trans ex10_2.symm
  refine x_callVi (pre := WH κ a uh ++ (WR κ a ur' ++ (WN κ a un ++ (WS κ a us ++ WO κ a uo)))) (wc := WM κ am uv) (wc1 := WM κ am uv') (post := ([(ad, .inl (κ 1, 1, .inr (.inl fo)))] ++ (wp ++ (wk0 ++ wk1)))) (As := [.int x5_1, .int x10_2]) (rest := [.int r]) (w1 := LW κ a am ad uh ur' un us uo uv' fo wp wk0 wk1) ⟨hx, hb, hml, hown, hts⟩ hK hG hA rfl rfl (c_X5_desk l D κ am H.size x5_1 x10_2 uv r uv' hf5) (cwV 2 hts xG_X5_desk rfl rfl rfl (by decide +kernel) ⟨Nat.le_of_ble_eq_true rfl, Nat.le_of_ble_eq_true rfl⟩) 0 5 rfl rfl rfl rfl hl.1 rfl (Nat.le_of_ble_eq_true rfl) dL_law_954 ⟨by omega, by omega⟩ (fun H locs hG => ?_)
  refine lv_icmp_eq (tgt := 1805) hx hb dL_law_957 (by decide) (fun c1 => ?_) (fun c1 => absurd rfl c1)
  refine W.widen (k := 48 + 17 * (j + 1)) (n := 16900 + 2606 * (j + 1)) (by omega) (by omega) ?_
  exact hnext a am ad uh ur' un us uo uv' fo wp wk0 wk1 pu u0 u1 n0 n1 hrel hpap hk0 hk1 H locs ls hG hl
set_option maxRecDepth 100000 in
set_option maxHeartbeats 4000000 in
theorem law_c21 (Rel : Nat → HS → NS → OS → HS → NS → HS → NS → MS → Prop) (hR : RS_along Rel) {p : Program} {l : Launch} {e : Env} {s : State} {m : MethodId} {below : List Frame} {meth : Method} {c : Code} {D : va_G} {κ : Nat → ClassId} {b L : Nat} {xs : Nat → Int32} (hL : L ≤ 2560) (C9 : lw_At p s m meth c b L xs) (hK : va_K D vwCl (xT κ) s) (j : Nat) (hj : 5 * j + 5 ≤ L) (hnext : LAt Rel D κ p l e s m below meth c b 1805 j (j + 1)) : LAt Rel D κ p l e s m below meth c b 962 j j := by
  obtain ⟨hx, hb, hr, hml, hown, hts0, hX, hbl, hlocks, hgv⟩ := C9
  have hts : ∀ w ∈ wsLL, w.before #[Value.ref b] s = true := fun w h => hts0 w (xlw_LL w h)
  have hA : ∀ q : Nat, s.heap.size ≤ q → (fun q : Nat => s.heap.size ≤ q) q := fun _ h => h
  intro a am ad uh ur un us uo uv fo wp wk0 wk1 pu u0 u1 n0 n1 hrel hpap hk0 hk1 H locs ls hG hl
  have hcc : 48 + 17 * (j + 1) ≤ room_1.cells := by show _ ≤ 601024; omega
  have hss : 16900 + 2606 * (j + 1) ≤ room_1.slots := by show _ ≤ 7293034; omega
  refine lv_aload_n hx hb dL_law_962 rfl (lv_at hl 1 rfl) ?_
  refine lv_aload_n hx hb dL_law_963 rfl (lv_at hl 0 rfl) ?_
  refine lv_iload hx hb dL_law_964 (lv_at hl 4 rfl) ?_
  refine lv_iconst (v := 1) hx hb dL_law_966 (by decide) ?_
  refine lv_iadd hx hb dL_law_967 ?_
  refine x_sld (kn := 1) (by decide) (by decide) hj hL hx hb hX hbl hG.2.2 dL_law_968 (fun x5_1 ex5_1 => ?_)
  refine lv_aload_n hx hb dL_law_969 rfl (lv_at hl 0 rfl) ?_
  refine lv_iload hx hb dL_law_970 (lv_at hl 4 rfl) ?_
  refine lv_iconst (v := 2) hx hb dL_law_972 (by decide) ?_
  refine lv_iadd hx hb dL_law_973 ?_
  refine x_sld (kn := 2) (by decide) (by decide) hj hL hx hb hX hbl hG.2.2 dL_law_974 (fun x10_2 ex10_2 => ?_)
  refine lv_aload_n hx hb dL_law_975 rfl (lv_at hl 0 rfl) ?_
  refine lv_iload hx hb dL_law_976 (lv_at hl 4 rfl) ?_
  refine lv_iconst (v := 3) hx hb dL_law_978 (by decide) ?_
  refine lv_iadd hx hb dL_law_979 ?_
  refine x_sld (kn := 3) (by decide) (by decide) hj hL hx hb hX hbl hG.2.2 dL_law_980 (fun x15_3 ex15_3 => ?_)
  obtain ⟨r, uv', hf4, hf5, hrel⟩ := hR j x5_1 x10_2 x15_3 uh ur un us uo u0 n0 u1 n1 uv (by omega) hrel
  refine x_callVi (pre := []) (wc := WH κ a uh ++ (WR κ a ur ++ (WN κ a un ++ (WS κ a us ++ WO κ a uo)))) (wc1 := WH κ a uh ++ (WR κ a ur ++ (WN κ a un ++ (WS κ a us ++ WO κ a uo)))) (post := WM κ am uv ++ ([(ad, .inl (κ 1, 1, .inr (.inl fo)))] ++ (wp ++ (wk0 ++ wk1)))) (As := [.int x5_1, .int x10_2, .int x15_3]) (rest := []) (w1 := LW κ a am ad uh ur un us uo uv fo wp wk0 wk1) ⟨hx, hb, hml, hown, hts⟩ hK hG hA rfl rfl (c_X4_along l D κ a H.size x5_1 x10_2 x15_3 uh ur un us uo r  hf4) (cwV 3 hts xG_X4_along rfl rfl rfl (by decide +kernel) ⟨Nat.le_of_ble_eq_true rfl, Nat.le_of_ble_eq_true rfl⟩) 25 4 rfl rfl rfl rfl hl.1 rfl (Nat.le_of_ble_eq_true rfl) dL_law_981 ⟨by omega, by omega⟩ (fun H locs hG => ?_)
  refine lv_aload_n hx hb dL_law_984 rfl (lv_at hl 2 rfl) ?_
  refine lv_aload_n hx hb dL_law_985 rfl (lv_at hl 0 rfl) ?_
  refine lv_iload hx hb dL_law_986 (lv_at hl 4 rfl) ?_
  refine lv_iconst (v := 1) hx hb dL_law_988 (by decide) ?_
  refine lv_iadd hx hb dL_law_989 ?_
  refine x_sld (kn := 1) (by decide) (by decide) hj hL hx hb hX hbl hG.2.2 dL_law_990 (fun x23_1 ex23_1 => ?_)
  refine lv_aload_n hx hb dL_law_991 rfl (lv_at hl 0 rfl) ?_
  refine lv_iload hx hb dL_law_992 (lv_at hl 4 rfl) ?_
  refine lv_iconst (v := 2) hx hb dL_law_994 (by decide) ?_
  refine lv_iadd hx hb dL_law_995 ?_
  refine x_sld (kn := 2) (by decide) (by decide) hj hL hx hb hX hbl hG.2.2 dL_law_996 (fun x28_2 ex28_2 => ?_)
  refine lv_aload_n hx hb dL_law_997 rfl (lv_at hl 0 rfl) ?_
  refine lv_iload hx hb dL_law_998 (lv_at hl 4 rfl) ?_
  refine lv_iconst (v := 3) hx hb dL_law_1000 (by decide) ?_
  refine lv_iadd hx hb dL_law_1001 ?_
  refine x_sld (kn := 3) (by decide) (by decide) hj hL hx hb hX hbl hG.2.2 dL_law_1002 (fun x33_3 ex33_3 => ?_)
  obtain rfl : x23_1 = x5_1 := ex23_1.trans ex5_1.symm
  obtain rfl : x28_2 = x10_2 := ex28_2.trans ex10_2.symm
  obtain rfl : x33_3 = x15_3 := ex33_3.trans ex15_3.symm
  refine x_callVi (pre := WH κ a uh ++ (WR κ a ur ++ (WN κ a un ++ (WS κ a us ++ WO κ a uo)))) (wc := WM κ am uv) (wc1 := WM κ am uv') (post := ([(ad, .inl (κ 1, 1, .inr (.inl fo)))] ++ (wp ++ (wk0 ++ wk1)))) (As := [.int x5_1, .int x10_2, .int x15_3]) (rest := [.int r]) (w1 := LW κ a am ad uh ur un us uo uv' fo wp wk0 wk1) ⟨hx, hb, hml, hown, hts⟩ hK hG hA rfl rfl (c_X5_along l D κ am H.size x5_1 x10_2 x15_3 uv r uv' hf5) (cwV 3 hts xG_X5_along rfl rfl rfl (by decide +kernel) ⟨Nat.le_of_ble_eq_true rfl, Nat.le_of_ble_eq_true rfl⟩) 0 5 rfl rfl rfl rfl hl.1 rfl (Nat.le_of_ble_eq_true rfl) dL_law_1003 ⟨by omega, by omega⟩ (fun H locs hG => ?_)
  refine lv_icmp_eq (tgt := 1805) hx hb dL_law_1006 (by decide) (fun c1 => ?_) (fun c1 => absurd rfl c1)
  refine W.widen (k := 48 + 17 * (j + 1)) (n := 16900 + 2606 * (j + 1)) (by omega) (by omega) ?_
  exact hnext a am ad uh ur un us uo uv' fo wp wk0 wk1 pu u0 u1 n0 n1 hrel hpap hk0 hk1 H locs ls hG hl
set_option maxRecDepth 100000 in
set_option maxHeartbeats 4000000 in
theorem law_c22 (Rel : Nat → HS → NS → OS → HS → NS → HS → NS → MS → Prop) (hR : RS_ranked Rel) {p : Program} {l : Launch} {e : Env} {s : State} {m : MethodId} {below : List Frame} {meth : Method} {c : Code} {D : va_G} {κ : Nat → ClassId} {b L : Nat} {xs : Nat → Int32} (hL : L ≤ 2560) (C9 : lw_At p s m meth c b L xs) (hK : va_K D vwCl (xT κ) s) (j : Nat) (hj : 5 * j + 5 ≤ L) (hnext : LAt Rel D κ p l e s m below meth c b 1805 j (j + 1)) : LAt Rel D κ p l e s m below meth c b 1011 j j := by
  obtain ⟨hx, hb, hr, hml, hown, hts0, hX, hbl, hlocks, hgv⟩ := C9
  have hts : ∀ w ∈ wsLL, w.before #[Value.ref b] s = true := fun w h => hts0 w (xlw_LL w h)
  have hA : ∀ q : Nat, s.heap.size ≤ q → (fun q : Nat => s.heap.size ≤ q) q := fun _ h => h
  intro a am ad uh ur un us uo uv fo wp wk0 wk1 pu u0 u1 n0 n1 hrel hpap hk0 hk1 H locs ls hG hl
  have hcc : 48 + 17 * (j + 1) ≤ room_1.cells := by show _ ≤ 601024; omega
  have hss : 16900 + 2606 * (j + 1) ≤ room_1.slots := by show _ ≤ 7293034; omega
  refine lv_aload_n hx hb dL_law_1011 rfl (lv_at hl 1 rfl) ?_
  refine lv_aload_n hx hb dL_law_1012 rfl (lv_at hl 0 rfl) ?_
  refine lv_iload hx hb dL_law_1013 (lv_at hl 4 rfl) ?_
  refine lv_iconst (v := 1) hx hb dL_law_1015 (by decide) ?_
  refine lv_iadd hx hb dL_law_1016 ?_
  refine x_sld (kn := 1) (by decide) (by decide) hj hL hx hb hX hbl hG.2.2 dL_law_1017 (fun x5_1 ex5_1 => ?_)
  refine lv_aload_n hx hb dL_law_1018 rfl (lv_at hl 0 rfl) ?_
  refine lv_iload hx hb dL_law_1019 (lv_at hl 4 rfl) ?_
  refine lv_iconst (v := 2) hx hb dL_law_1021 (by decide) ?_
  refine lv_iadd hx hb dL_law_1022 ?_
  refine x_sld (kn := 2) (by decide) (by decide) hj hL hx hb hX hbl hG.2.2 dL_law_1023 (fun x10_2 ex10_2 => ?_)
  obtain ⟨r, uv', hf4, hf5, hrel⟩ := hR j x5_1 x10_2 uh ur un us uo u0 n0 u1 n1 uv (by omega) hrel
  refine x_callVi (pre := []) (wc := WH κ a uh ++ (WR κ a ur ++ (WN κ a un ++ (WS κ a us ++ WO κ a uo)))) (wc1 := WH κ a uh ++ (WR κ a ur ++ (WN κ a un ++ (WS κ a us ++ WO κ a uo)))) (post := WM κ am uv ++ ([(ad, .inl (κ 1, 1, .inr (.inl fo)))] ++ (wp ++ (wk0 ++ wk1)))) (As := [.int x5_1, .int x10_2]) (rest := []) (w1 := LW κ a am ad uh ur un us uo uv fo wp wk0 wk1) ⟨hx, hb, hml, hown, hts⟩ hK hG hA rfl rfl (c_X4_ranked l D κ a H.size x5_1 x10_2 uh ur un us uo r  hf4) (cwV 2 hts xG_X4_ranked rfl rfl rfl (by decide +kernel) ⟨Nat.le_of_ble_eq_true rfl, Nat.le_of_ble_eq_true rfl⟩) 25 4 rfl rfl rfl rfl hl.1 rfl (Nat.le_of_ble_eq_true rfl) dL_law_1024 ⟨by omega, by omega⟩ (fun H locs hG => ?_)
  refine lv_aload_n hx hb dL_law_1027 rfl (lv_at hl 2 rfl) ?_
  refine lv_aload_n hx hb dL_law_1028 rfl (lv_at hl 0 rfl) ?_
  refine lv_iload hx hb dL_law_1029 (lv_at hl 4 rfl) ?_
  refine lv_iconst (v := 1) hx hb dL_law_1031 (by decide) ?_
  refine lv_iadd hx hb dL_law_1032 ?_
  refine x_sld (kn := 1) (by decide) (by decide) hj hL hx hb hX hbl hG.2.2 dL_law_1033 (fun x18_1 ex18_1 => ?_)
  refine lv_aload_n hx hb dL_law_1034 rfl (lv_at hl 0 rfl) ?_
  refine lv_iload hx hb dL_law_1035 (lv_at hl 4 rfl) ?_
  refine lv_iconst (v := 2) hx hb dL_law_1037 (by decide) ?_
  refine lv_iadd hx hb dL_law_1038 ?_
  refine x_sld (kn := 2) (by decide) (by decide) hj hL hx hb hX hbl hG.2.2 dL_law_1039 (fun x23_2 ex23_2 => ?_)
  obtain rfl : x18_1 = x5_1 := ex18_1.trans ex5_1.symm
  obtain rfl : x23_2 = x10_2 := ex23_2.trans ex10_2.symm
  refine x_callVi (pre := WH κ a uh ++ (WR κ a ur ++ (WN κ a un ++ (WS κ a us ++ WO κ a uo)))) (wc := WM κ am uv) (wc1 := WM κ am uv') (post := ([(ad, .inl (κ 1, 1, .inr (.inl fo)))] ++ (wp ++ (wk0 ++ wk1)))) (As := [.int x5_1, .int x10_2]) (rest := [.int r]) (w1 := LW κ a am ad uh ur un us uo uv' fo wp wk0 wk1) ⟨hx, hb, hml, hown, hts⟩ hK hG hA rfl rfl (c_X5_ranked l D κ am H.size x5_1 x10_2 uv r uv' hf5) (cwV 2 hts xG_X5_ranked rfl rfl rfl (by decide +kernel) ⟨Nat.le_of_ble_eq_true rfl, Nat.le_of_ble_eq_true rfl⟩) 0 5 rfl rfl rfl rfl hl.1 rfl (Nat.le_of_ble_eq_true rfl) dL_law_1040 ⟨by omega, by omega⟩ (fun H locs hG => ?_)
  refine lv_icmp_eq (tgt := 1805) hx hb dL_law_1043 (by decide) (fun c1 => ?_) (fun c1 => absurd rfl c1)
  refine W.widen (k := 48 + 17 * (j + 1)) (n := 16900 + 2606 * (j + 1)) (by omega) (by omega) ?_
  exact hnext a am ad uh ur un us uo uv' fo wp wk0 wk1 pu u0 u1 n0 n1 hrel hpap hk0 hk1 H locs ls hG hl
set_option maxRecDepth 100000 in
set_option maxHeartbeats 4000000 in
theorem law_c23 (Rel : Nat → HS → NS → OS → HS → NS → HS → NS → MS → Prop) (hR : RS_least Rel) {p : Program} {l : Launch} {e : Env} {s : State} {m : MethodId} {below : List Frame} {meth : Method} {c : Code} {D : va_G} {κ : Nat → ClassId} {b L : Nat} {xs : Nat → Int32} (hL : L ≤ 2560) (C9 : lw_At p s m meth c b L xs) (hK : va_K D vwCl (xT κ) s) (j : Nat) (hj : 5 * j + 5 ≤ L) (hnext : LAt Rel D κ p l e s m below meth c b 1805 j (j + 1)) : LAt Rel D κ p l e s m below meth c b 1048 j j := by
  obtain ⟨hx, hb, hr, hml, hown, hts0, hX, hbl, hlocks, hgv⟩ := C9
  have hts : ∀ w ∈ wsLL, w.before #[Value.ref b] s = true := fun w h => hts0 w (xlw_LL w h)
  have hA : ∀ q : Nat, s.heap.size ≤ q → (fun q : Nat => s.heap.size ≤ q) q := fun _ h => h
  intro a am ad uh ur un us uo uv fo wp wk0 wk1 pu u0 u1 n0 n1 hrel hpap hk0 hk1 H locs ls hG hl
  have hcc : 48 + 17 * (j + 1) ≤ room_1.cells := by show _ ≤ 601024; omega
  have hss : 16900 + 2606 * (j + 1) ≤ room_1.slots := by show _ ≤ 7293034; omega
  refine lv_aload_n hx hb dL_law_1048 rfl (lv_at hl 1 rfl) ?_
  refine lv_aload_n hx hb dL_law_1049 rfl (lv_at hl 0 rfl) ?_
  refine lv_iload hx hb dL_law_1050 (lv_at hl 4 rfl) ?_
  refine lv_iconst (v := 1) hx hb dL_law_1052 (by decide) ?_
  refine lv_iadd hx hb dL_law_1053 ?_
  refine x_sld (kn := 1) (by decide) (by decide) hj hL hx hb hX hbl hG.2.2 dL_law_1054 (fun x5_1 ex5_1 => ?_)
  refine lv_aload_n hx hb dL_law_1055 rfl (lv_at hl 0 rfl) ?_
  refine lv_iload hx hb dL_law_1056 (lv_at hl 4 rfl) ?_
  refine lv_iconst (v := 2) hx hb dL_law_1058 (by decide) ?_
  refine lv_iadd hx hb dL_law_1059 ?_
  refine x_sld (kn := 2) (by decide) (by decide) hj hL hx hb hX hbl hG.2.2 dL_law_1060 (fun x10_2 ex10_2 => ?_)
  obtain ⟨r, ur', uv', hf4, hf5, hrel⟩ := hR j x5_1 x10_2 uh ur un us uo u0 n0 u1 n1 uv (by omega) hrel
  refine x_callVi (pre := []) (wc := WH κ a uh ++ (WR κ a ur ++ (WN κ a un ++ (WS κ a us ++ WO κ a uo)))) (wc1 := WH κ a uh ++ (WR κ a ur' ++ (WN κ a un ++ (WS κ a us ++ WO κ a uo)))) (post := WM κ am uv ++ ([(ad, .inl (κ 1, 1, .inr (.inl fo)))] ++ (wp ++ (wk0 ++ wk1)))) (As := [.int x5_1, .int x10_2]) (rest := []) (w1 := LW κ a am ad uh ur' un us uo uv fo wp wk0 wk1) ⟨hx, hb, hml, hown, hts⟩ hK hG hA rfl rfl (c_X4_least l D κ a H.size x5_1 x10_2 uh ur un us uo r ur' hf4) (cwV 2 hts xG_X4_least rfl rfl rfl (by decide +kernel) ⟨Nat.le_of_ble_eq_true rfl, Nat.le_of_ble_eq_true rfl⟩) 25 4 rfl rfl rfl rfl hl.1 rfl (Nat.le_of_ble_eq_true rfl) dL_law_1061 ⟨by omega, by omega⟩ (fun H locs hG => ?_)
  refine lv_aload_n hx hb dL_law_1064 rfl (lv_at hl 2 rfl) ?_
  refine lv_aload_n hx hb dL_law_1065 rfl (lv_at hl 0 rfl) ?_
  refine lv_iload hx hb dL_law_1066 (lv_at hl 4 rfl) ?_
  refine lv_iconst (v := 1) hx hb dL_law_1068 (by decide) ?_
  refine lv_iadd hx hb dL_law_1069 ?_
  refine x_sld (kn := 1) (by decide) (by decide) hj hL hx hb hX hbl hG.2.2 dL_law_1070 (fun x18_1 ex18_1 => ?_)
  refine lv_aload_n hx hb dL_law_1071 rfl (lv_at hl 0 rfl) ?_
  refine lv_iload hx hb dL_law_1072 (lv_at hl 4 rfl) ?_
  refine lv_iconst (v := 2) hx hb dL_law_1074 (by decide) ?_
  refine lv_iadd hx hb dL_law_1075 ?_
  refine x_sld (kn := 2) (by decide) (by decide) hj hL hx hb hX hbl hG.2.2 dL_law_1076 (fun x23_2 ex23_2 => ?_)
  obtain rfl : x18_1 = x5_1 := ex18_1.trans ex5_1.symm
  obtain rfl : x23_2 = x10_2 := ex23_2.trans ex10_2.symm
  refine x_callVi (pre := WH κ a uh ++ (WR κ a ur' ++ (WN κ a un ++ (WS κ a us ++ WO κ a uo)))) (wc := WM κ am uv) (wc1 := WM κ am uv') (post := ([(ad, .inl (κ 1, 1, .inr (.inl fo)))] ++ (wp ++ (wk0 ++ wk1)))) (As := [.int x5_1, .int x10_2]) (rest := [.int r]) (w1 := LW κ a am ad uh ur' un us uo uv' fo wp wk0 wk1) ⟨hx, hb, hml, hown, hts⟩ hK hG hA rfl rfl (c_X5_least l D κ am H.size x5_1 x10_2 uv r uv' hf5) (cwV 2 hts xG_X5_least rfl rfl rfl (by decide +kernel) ⟨Nat.le_of_ble_eq_true rfl, Nat.le_of_ble_eq_true rfl⟩) 0 5 rfl rfl rfl rfl hl.1 rfl (Nat.le_of_ble_eq_true rfl) dL_law_1077 ⟨by omega, by omega⟩ (fun H locs hG => ?_)
  refine lv_icmp_eq (tgt := 1805) hx hb dL_law_1080 (by decide) (fun c1 => ?_) (fun c1 => absurd rfl c1)
  refine W.widen (k := 48 + 17 * (j + 1)) (n := 16900 + 2606 * (j + 1)) (by omega) (by omega) ?_
  exact hnext a am ad uh ur' un us uo uv' fo wp wk0 wk1 pu u0 u1 n0 n1 hrel hpap hk0 hk1 H locs ls hG hl
set_option maxRecDepth 100000 in
set_option maxHeartbeats 4000000 in
theorem law_c24 (Rel : Nat → HS → NS → OS → HS → NS → HS → NS → MS → Prop) (hR : RS_below Rel) {p : Program} {l : Launch} {e : Env} {s : State} {m : MethodId} {below : List Frame} {meth : Method} {c : Code} {D : va_G} {κ : Nat → ClassId} {b L : Nat} {xs : Nat → Int32} (hL : L ≤ 2560) (C9 : lw_At p s m meth c b L xs) (hK : va_K D vwCl (xT κ) s) (j : Nat) (hj : 5 * j + 5 ≤ L) (hnext : LAt Rel D κ p l e s m below meth c b 1805 j (j + 1)) : LAt Rel D κ p l e s m below meth c b 1085 j j := by
  obtain ⟨hx, hb, hr, hml, hown, hts0, hX, hbl, hlocks, hgv⟩ := C9
  have hts : ∀ w ∈ wsLL, w.before #[Value.ref b] s = true := fun w h => hts0 w (xlw_LL w h)
  have hA : ∀ q : Nat, s.heap.size ≤ q → (fun q : Nat => s.heap.size ≤ q) q := fun _ h => h
  intro a am ad uh ur un us uo uv fo wp wk0 wk1 pu u0 u1 n0 n1 hrel hpap hk0 hk1 H locs ls hG hl
  have hcc : 48 + 17 * (j + 1) ≤ room_1.cells := by show _ ≤ 601024; omega
  have hss : 16900 + 2606 * (j + 1) ≤ room_1.slots := by show _ ≤ 7293034; omega
  refine lv_aload_n hx hb dL_law_1085 rfl (lv_at hl 1 rfl) ?_
  refine lv_aload_n hx hb dL_law_1086 rfl (lv_at hl 0 rfl) ?_
  refine lv_iload hx hb dL_law_1087 (lv_at hl 4 rfl) ?_
  refine lv_iconst (v := 1) hx hb dL_law_1089 (by decide) ?_
  refine lv_iadd hx hb dL_law_1090 ?_
  refine x_sld (kn := 1) (by decide) (by decide) hj hL hx hb hX hbl hG.2.2 dL_law_1091 (fun x5_1 ex5_1 => ?_)
  refine lv_aload_n hx hb dL_law_1092 rfl (lv_at hl 0 rfl) ?_
  refine lv_iload hx hb dL_law_1093 (lv_at hl 4 rfl) ?_
  refine lv_iconst (v := 2) hx hb dL_law_1095 (by decide) ?_
  refine lv_iadd hx hb dL_law_1096 ?_
  refine x_sld (kn := 2) (by decide) (by decide) hj hL hx hb hX hbl hG.2.2 dL_law_1097 (fun x10_2 ex10_2 => ?_)
  refine lv_i2l hx hb dL_law_1098 rfl ?_
  refine lv_bipush (v := 32) hx hb dL_law_1099 (by decide) ?_
  refine lv_lshl hx hb dL_law_1101 rfl ?_
  refine lv_aload_n hx hb dL_law_1102 rfl (lv_at hl 0 rfl) ?_
  refine lv_iload hx hb dL_law_1103 (lv_at hl 4 rfl) ?_
  refine lv_iconst (v := 3) hx hb dL_law_1105 (by decide) ?_
  refine lv_iadd hx hb dL_law_1106 ?_
  refine x_sld (kn := 3) (by decide) (by decide) hj hL hx hb hX hbl hG.2.2 dL_law_1107 (fun x18_3 ex18_3 => ?_)
  refine lv_i2l hx hb dL_law_1108 rfl ?_
  refine lv_ldc2 (v := 4294967295) hx hb hown (hts (.constantLong RL 131 (4294967295)) (List.mem_of_getElem? (i := 7) rfl)) dL_law_1109 ?_
  refine lv_land hx hb dL_law_1112 ?_
  refine lv_lor hx hb dL_law_1113 ?_
  obtain ⟨r, uv', hf4, hf5, hrel⟩ := hR j x5_1 (((x10_2.toInt64) <<< ((32 : Int32).toInt64 &&& 63)) ||| ((x18_3.toInt64) &&& 4294967295)) uh ur un us uo u0 n0 u1 n1 uv (by omega) hrel
  refine x_callVi (pre := []) (wc := WH κ a uh ++ (WR κ a ur ++ (WN κ a un ++ (WS κ a us ++ WO κ a uo)))) (wc1 := WH κ a uh ++ (WR κ a ur ++ (WN κ a un ++ (WS κ a us ++ WO κ a uo)))) (post := WM κ am uv ++ ([(ad, .inl (κ 1, 1, .inr (.inl fo)))] ++ (wp ++ (wk0 ++ wk1)))) (As := [.int x5_1, .long (((x10_2.toInt64) <<< ((32 : Int32).toInt64 &&& 63)) ||| ((x18_3.toInt64) &&& 4294967295))]) (rest := []) (w1 := LW κ a am ad uh ur un us uo uv fo wp wk0 wk1) ⟨hx, hb, hml, hown, hts⟩ hK hG hA rfl rfl (c_X4_below l D κ a H.size x5_1 (((x10_2.toInt64) <<< ((32 : Int32).toInt64 &&& 63)) ||| ((x18_3.toInt64) &&& 4294967295)) uh ur un us uo r  hf4) (cwV 2 hts xG_X4_below rfl rfl rfl (by decide +kernel) ⟨Nat.le_of_ble_eq_true rfl, Nat.le_of_ble_eq_true rfl⟩) 25 4 rfl rfl rfl rfl hl.1 rfl (Nat.le_of_ble_eq_true rfl) dL_law_1114 ⟨by omega, by omega⟩ (fun H locs hG => ?_)
  refine lv_aload_n hx hb dL_law_1117 rfl (lv_at hl 2 rfl) ?_
  refine lv_aload_n hx hb dL_law_1118 rfl (lv_at hl 0 rfl) ?_
  refine lv_iload hx hb dL_law_1119 (lv_at hl 4 rfl) ?_
  refine lv_iconst (v := 1) hx hb dL_law_1121 (by decide) ?_
  refine lv_iadd hx hb dL_law_1122 ?_
  refine x_sld (kn := 1) (by decide) (by decide) hj hL hx hb hX hbl hG.2.2 dL_law_1123 (fun x30_1 ex30_1 => ?_)
  refine lv_aload_n hx hb dL_law_1124 rfl (lv_at hl 0 rfl) ?_
  refine lv_iload hx hb dL_law_1125 (lv_at hl 4 rfl) ?_
  refine lv_iconst (v := 2) hx hb dL_law_1127 (by decide) ?_
  refine lv_iadd hx hb dL_law_1128 ?_
  refine x_sld (kn := 2) (by decide) (by decide) hj hL hx hb hX hbl hG.2.2 dL_law_1129 (fun x35_2 ex35_2 => ?_)
  refine lv_i2l hx hb dL_law_1130 rfl ?_
  refine lv_bipush (v := 32) hx hb dL_law_1131 (by decide) ?_
  refine lv_lshl hx hb dL_law_1133 rfl ?_
  refine lv_aload_n hx hb dL_law_1134 rfl (lv_at hl 0 rfl) ?_
  refine lv_iload hx hb dL_law_1135 (lv_at hl 4 rfl) ?_
  refine lv_iconst (v := 3) hx hb dL_law_1137 (by decide) ?_
  refine lv_iadd hx hb dL_law_1138 ?_
  refine x_sld (kn := 3) (by decide) (by decide) hj hL hx hb hX hbl hG.2.2 dL_law_1139 (fun x43_3 ex43_3 => ?_)
  refine lv_i2l hx hb dL_law_1140 rfl ?_
  refine lv_ldc2 (v := 4294967295) hx hb hown (hts (.constantLong RL 131 (4294967295)) (List.mem_of_getElem? (i := 7) rfl)) dL_law_1141 ?_
  refine lv_land hx hb dL_law_1144 ?_
  refine lv_lor hx hb dL_law_1145 ?_
  obtain rfl : x30_1 = x5_1 := ex30_1.trans ex5_1.symm
  obtain rfl : x35_2 = x10_2 := ex35_2.trans ex10_2.symm
  obtain rfl : x43_3 = x18_3 := ex43_3.trans ex18_3.symm
  refine x_callVi (pre := WH κ a uh ++ (WR κ a ur ++ (WN κ a un ++ (WS κ a us ++ WO κ a uo)))) (wc := WM κ am uv) (wc1 := WM κ am uv') (post := ([(ad, .inl (κ 1, 1, .inr (.inl fo)))] ++ (wp ++ (wk0 ++ wk1)))) (As := [.int x5_1, .long (((x10_2.toInt64) <<< ((32 : Int32).toInt64 &&& 63)) ||| ((x18_3.toInt64) &&& 4294967295))]) (rest := [.int r]) (w1 := LW κ a am ad uh ur un us uo uv' fo wp wk0 wk1) ⟨hx, hb, hml, hown, hts⟩ hK hG hA rfl rfl (c_X5_below l D κ am H.size x5_1 (((x10_2.toInt64) <<< ((32 : Int32).toInt64 &&& 63)) ||| ((x18_3.toInt64) &&& 4294967295)) uv r uv' hf5) (cwV 2 hts xG_X5_below rfl rfl rfl (by decide +kernel) ⟨Nat.le_of_ble_eq_true rfl, Nat.le_of_ble_eq_true rfl⟩) 0 5 rfl rfl rfl rfl hl.1 rfl (Nat.le_of_ble_eq_true rfl) dL_law_1146 ⟨by omega, by omega⟩ (fun H locs hG => ?_)
  refine lv_icmp_eq (tgt := 1805) hx hb dL_law_1149 (by decide) (fun c1 => ?_) (fun c1 => absurd rfl c1)
  refine W.widen (k := 48 + 17 * (j + 1)) (n := 16900 + 2606 * (j + 1)) (by omega) (by omega) ?_
  exact hnext a am ad uh ur un us uo uv' fo wp wk0 wk1 pu u0 u1 n0 n1 hrel hpap hk0 hk1 H locs ls hG hl
set_option maxRecDepth 100000 in
set_option maxHeartbeats 4000000 in
theorem law_c25 (Rel : Nat → HS → NS → OS → HS → NS → HS → NS → MS → Prop) (hR : RS_keys Rel) {p : Program} {l : Launch} {e : Env} {s : State} {m : MethodId} {below : List Frame} {meth : Method} {c : Code} {D : va_G} {κ : Nat → ClassId} {b L : Nat} {xs : Nat → Int32} (hL : L ≤ 2560) (C9 : lw_At p s m meth c b L xs) (hK : va_K D vwCl (xT κ) s) (j : Nat) (hj : 5 * j + 5 ≤ L) (hnext : LAt Rel D κ p l e s m below meth c b 1805 j (j + 1)) : LAt Rel D κ p l e s m below meth c b 1154 j j := by
  obtain ⟨hx, hb, hr, hml, hown, hts0, hX, hbl, hlocks, hgv⟩ := C9
  have hts : ∀ w ∈ wsLL, w.before #[Value.ref b] s = true := fun w h => hts0 w (xlw_LL w h)
  have hA : ∀ q : Nat, s.heap.size ≤ q → (fun q : Nat => s.heap.size ≤ q) q := fun _ h => h
  intro a am ad uh ur un us uo uv fo wp wk0 wk1 pu u0 u1 n0 n1 hrel hpap hk0 hk1 H locs ls hG hl
  have hcc : 48 + 17 * (j + 1) ≤ room_1.cells := by show _ ≤ 601024; omega
  have hss : 16900 + 2606 * (j + 1) ≤ room_1.slots := by show _ ≤ 7293034; omega
  refine lv_aload_n hx hb dL_law_1154 rfl (lv_at hl 1 rfl) ?_
  refine lv_aload_n hx hb dL_law_1155 rfl (lv_at hl 0 rfl) ?_
  refine lv_iload hx hb dL_law_1156 (lv_at hl 4 rfl) ?_
  refine lv_iconst (v := 1) hx hb dL_law_1158 (by decide) ?_
  refine lv_iadd hx hb dL_law_1159 ?_
  refine x_sld (kn := 1) (by decide) (by decide) hj hL hx hb hX hbl hG.2.2 dL_law_1160 (fun x5_1 ex5_1 => ?_)
  refine lv_aload_n hx hb dL_law_1161 rfl (lv_at hl 0 rfl) ?_
  refine lv_iload hx hb dL_law_1162 (lv_at hl 4 rfl) ?_
  refine lv_iconst (v := 2) hx hb dL_law_1164 (by decide) ?_
  refine lv_iadd hx hb dL_law_1165 ?_
  refine x_sld (kn := 2) (by decide) (by decide) hj hL hx hb hX hbl hG.2.2 dL_law_1166 (fun x10_2 ex10_2 => ?_)
  obtain ⟨r, ur', uv', hf4, hf5, hrel⟩ := hR j x5_1 x10_2 uh ur un us uo u0 n0 u1 n1 uv (by omega) hrel
  refine x_callVl (pre := []) (wc := WH κ a uh ++ (WR κ a ur ++ (WN κ a un ++ (WS κ a us ++ WO κ a uo)))) (wc1 := WH κ a uh ++ (WR κ a ur' ++ (WN κ a un ++ (WS κ a us ++ WO κ a uo)))) (post := WM κ am uv ++ ([(ad, .inl (κ 1, 1, .inr (.inl fo)))] ++ (wp ++ (wk0 ++ wk1)))) (As := [.int x5_1, .int x10_2]) (rest := []) (w1 := LW κ a am ad uh ur' un us uo uv fo wp wk0 wk1) ⟨hx, hb, hml, hown, hts⟩ hK hG hA rfl rfl (c_X4_keys l D κ a H.size x5_1 x10_2 uh ur un us uo r ur' hf4) (cwV 2 hts xG_X4_keys rfl rfl rfl (by decide +kernel) ⟨Nat.le_of_ble_eq_true rfl, Nat.le_of_ble_eq_true rfl⟩) 25 4 rfl rfl rfl rfl hl.1 rfl (Nat.le_of_ble_eq_true rfl) dL_law_1167 ⟨by omega, by omega⟩ (fun H locs hG => ?_)
  refine lv_aload_n hx hb dL_law_1170 rfl (lv_at hl 2 rfl) ?_
  refine lv_aload_n hx hb dL_law_1171 rfl (lv_at hl 0 rfl) ?_
  refine lv_iload hx hb dL_law_1172 (lv_at hl 4 rfl) ?_
  refine lv_iconst (v := 1) hx hb dL_law_1174 (by decide) ?_
  refine lv_iadd hx hb dL_law_1175 ?_
  refine x_sld (kn := 1) (by decide) (by decide) hj hL hx hb hX hbl hG.2.2 dL_law_1176 (fun x18_1 ex18_1 => ?_)
  refine lv_aload_n hx hb dL_law_1177 rfl (lv_at hl 0 rfl) ?_
  refine lv_iload hx hb dL_law_1178 (lv_at hl 4 rfl) ?_
  refine lv_iconst (v := 2) hx hb dL_law_1180 (by decide) ?_
  refine lv_iadd hx hb dL_law_1181 ?_
  refine x_sld (kn := 2) (by decide) (by decide) hj hL hx hb hX hbl hG.2.2 dL_law_1182 (fun x23_2 ex23_2 => ?_)
  obtain rfl : x18_1 = x5_1 := ex18_1.trans ex5_1.symm
  obtain rfl : x23_2 = x10_2 := ex23_2.trans ex10_2.symm
  refine x_callVl (pre := WH κ a uh ++ (WR κ a ur' ++ (WN κ a un ++ (WS κ a us ++ WO κ a uo)))) (wc := WM κ am uv) (wc1 := WM κ am uv') (post := ([(ad, .inl (κ 1, 1, .inr (.inl fo)))] ++ (wp ++ (wk0 ++ wk1)))) (As := [.int x5_1, .int x10_2]) (rest := [.long r]) (w1 := LW κ a am ad uh ur' un us uo uv' fo wp wk0 wk1) ⟨hx, hb, hml, hown, hts⟩ hK hG hA rfl rfl (c_X5_keys l D κ am H.size x5_1 x10_2 uv r uv' hf5) (cwV 2 hts xG_X5_keys rfl rfl rfl (by decide +kernel) ⟨Nat.le_of_ble_eq_true rfl, Nat.le_of_ble_eq_true rfl⟩) 0 5 rfl rfl rfl rfl hl.1 rfl (Nat.le_of_ble_eq_true rfl) dL_law_1183 ⟨by omega, by omega⟩ (fun H locs hG => ?_)
  refine W.lcmp hx hb dL_law_1186 ?_
  refine lv_if_eq (tgt := 1805) hx hb dL_law_1187 (by decide) (fun c1 => ?_) (fun c1 => absurd ((lg_cmp_eq r r).mpr rfl) c1)
  refine W.widen (k := 48 + 17 * (j + 1)) (n := 16900 + 2606 * (j + 1)) (by omega) (by omega) ?_
  exact hnext a am ad uh ur' un us uo uv' fo wp wk0 wk1 pu u0 u1 n0 n1 hrel hpap hk0 hk1 H locs ls hG hl
set_option maxRecDepth 100000 in
set_option maxHeartbeats 4000000 in
theorem law_c26 (Rel : Nat → HS → NS → OS → HS → NS → HS → NS → MS → Prop) (hR : RS_pair Rel) {p : Program} {l : Launch} {e : Env} {s : State} {m : MethodId} {below : List Frame} {meth : Method} {c : Code} {D : va_G} {κ : Nat → ClassId} {b L : Nat} {xs : Nat → Int32} (hL : L ≤ 2560) (C9 : lw_At p s m meth c b L xs) (hK : va_K D vwCl (xT κ) s) (j : Nat) (hj : 5 * j + 5 ≤ L) (hnext : LAt Rel D κ p l e s m below meth c b 1805 j (j + 1)) : LAt Rel D κ p l e s m below meth c b 1192 j j := by
  obtain ⟨hx, hb, hr, hml, hown, hts0, hX, hbl, hlocks, hgv⟩ := C9
  have hts : ∀ w ∈ wsLL, w.before #[Value.ref b] s = true := fun w h => hts0 w (xlw_LL w h)
  have hA : ∀ q : Nat, s.heap.size ≤ q → (fun q : Nat => s.heap.size ≤ q) q := fun _ h => h
  intro a am ad uh ur un us uo uv fo wp wk0 wk1 pu u0 u1 n0 n1 hrel hpap hk0 hk1 H locs ls hG hl
  have hcc : 48 + 17 * (j + 1) ≤ room_1.cells := by show _ ≤ 601024; omega
  have hss : 16900 + 2606 * (j + 1) ≤ room_1.slots := by show _ ≤ 7293034; omega
  refine lv_aload_n hx hb dL_law_1192 rfl (lv_at hl 1 rfl) ?_
  refine lv_aload_n hx hb dL_law_1193 rfl (lv_at hl 0 rfl) ?_
  refine lv_iload hx hb dL_law_1194 (lv_at hl 4 rfl) ?_
  refine lv_iconst (v := 1) hx hb dL_law_1196 (by decide) ?_
  refine lv_iadd hx hb dL_law_1197 ?_
  refine x_sld (kn := 1) (by decide) (by decide) hj hL hx hb hX hbl hG.2.2 dL_law_1198 (fun x5_1 ex5_1 => ?_)
  refine lv_aload_n hx hb dL_law_1199 rfl (lv_at hl 0 rfl) ?_
  refine lv_iload hx hb dL_law_1200 (lv_at hl 4 rfl) ?_
  refine lv_iconst (v := 2) hx hb dL_law_1202 (by decide) ?_
  refine lv_iadd hx hb dL_law_1203 ?_
  refine x_sld (kn := 2) (by decide) (by decide) hj hL hx hb hX hbl hG.2.2 dL_law_1204 (fun x10_2 ex10_2 => ?_)
  refine lv_aload_n hx hb dL_law_1205 rfl (lv_at hl 0 rfl) ?_
  refine lv_iload hx hb dL_law_1206 (lv_at hl 4 rfl) ?_
  refine lv_iconst (v := 3) hx hb dL_law_1208 (by decide) ?_
  refine lv_iadd hx hb dL_law_1209 ?_
  refine x_sld (kn := 3) (by decide) (by decide) hj hL hx hb hX hbl hG.2.2 dL_law_1210 (fun x15_3 ex15_3 => ?_)
  refine lv_aload_n hx hb dL_law_1211 rfl (lv_at hl 0 rfl) ?_
  refine lv_iload hx hb dL_law_1212 (lv_at hl 4 rfl) ?_
  refine lv_iconst (v := 4) hx hb dL_law_1214 (by decide) ?_
  refine lv_iadd hx hb dL_law_1215 ?_
  refine x_sld (kn := 4) (by decide) (by decide) hj hL hx hb hX hbl hG.2.2 dL_law_1216 (fun x20_4 ex20_4 => ?_)
  obtain ⟨r, ur', uv', hf4, hf5, hrel⟩ := hR j x5_1 x10_2 x15_3 x20_4 uh ur un us uo u0 n0 u1 n1 uv (by omega) hrel
  refine x_callVl (pre := []) (wc := WH κ a uh ++ (WR κ a ur ++ (WN κ a un ++ (WS κ a us ++ WO κ a uo)))) (wc1 := WH κ a uh ++ (WR κ a ur' ++ (WN κ a un ++ (WS κ a us ++ WO κ a uo)))) (post := WM κ am uv ++ ([(ad, .inl (κ 1, 1, .inr (.inl fo)))] ++ (wp ++ (wk0 ++ wk1)))) (As := [.int x5_1, .int x10_2, .int x15_3, .int x20_4]) (rest := []) (w1 := LW κ a am ad uh ur' un us uo uv fo wp wk0 wk1) ⟨hx, hb, hml, hown, hts⟩ hK hG hA rfl rfl (c_X4_pair l D κ a H.size x5_1 x10_2 x15_3 x20_4 uh ur un us uo r ur' hf4) (cwV 4 hts xG_X4_pair rfl rfl rfl (by decide +kernel) ⟨Nat.le_of_ble_eq_true rfl, Nat.le_of_ble_eq_true rfl⟩) 25 4 rfl rfl rfl rfl hl.1 rfl (Nat.le_of_ble_eq_true rfl) dL_law_1217 ⟨by omega, by omega⟩ (fun H locs hG => ?_)
  refine lv_aload_n hx hb dL_law_1220 rfl (lv_at hl 2 rfl) ?_
  refine lv_aload_n hx hb dL_law_1221 rfl (lv_at hl 0 rfl) ?_
  refine lv_iload hx hb dL_law_1222 (lv_at hl 4 rfl) ?_
  refine lv_iconst (v := 1) hx hb dL_law_1224 (by decide) ?_
  refine lv_iadd hx hb dL_law_1225 ?_
  refine x_sld (kn := 1) (by decide) (by decide) hj hL hx hb hX hbl hG.2.2 dL_law_1226 (fun x28_1 ex28_1 => ?_)
  refine lv_aload_n hx hb dL_law_1227 rfl (lv_at hl 0 rfl) ?_
  refine lv_iload hx hb dL_law_1228 (lv_at hl 4 rfl) ?_
  refine lv_iconst (v := 2) hx hb dL_law_1230 (by decide) ?_
  refine lv_iadd hx hb dL_law_1231 ?_
  refine x_sld (kn := 2) (by decide) (by decide) hj hL hx hb hX hbl hG.2.2 dL_law_1232 (fun x33_2 ex33_2 => ?_)
  refine lv_aload_n hx hb dL_law_1233 rfl (lv_at hl 0 rfl) ?_
  refine lv_iload hx hb dL_law_1234 (lv_at hl 4 rfl) ?_
  refine lv_iconst (v := 3) hx hb dL_law_1236 (by decide) ?_
  refine lv_iadd hx hb dL_law_1237 ?_
  refine x_sld (kn := 3) (by decide) (by decide) hj hL hx hb hX hbl hG.2.2 dL_law_1238 (fun x38_3 ex38_3 => ?_)
  refine lv_aload_n hx hb dL_law_1239 rfl (lv_at hl 0 rfl) ?_
  refine lv_iload hx hb dL_law_1240 (lv_at hl 4 rfl) ?_
  refine lv_iconst (v := 4) hx hb dL_law_1242 (by decide) ?_
  refine lv_iadd hx hb dL_law_1243 ?_
  refine x_sld (kn := 4) (by decide) (by decide) hj hL hx hb hX hbl hG.2.2 dL_law_1244 (fun x43_4 ex43_4 => ?_)
  obtain rfl : x28_1 = x5_1 := ex28_1.trans ex5_1.symm
  obtain rfl : x33_2 = x10_2 := ex33_2.trans ex10_2.symm
  obtain rfl : x38_3 = x15_3 := ex38_3.trans ex15_3.symm
  obtain rfl : x43_4 = x20_4 := ex43_4.trans ex20_4.symm
  refine x_callVl (pre := WH κ a uh ++ (WR κ a ur' ++ (WN κ a un ++ (WS κ a us ++ WO κ a uo)))) (wc := WM κ am uv) (wc1 := WM κ am uv') (post := ([(ad, .inl (κ 1, 1, .inr (.inl fo)))] ++ (wp ++ (wk0 ++ wk1)))) (As := [.int x5_1, .int x10_2, .int x15_3, .int x20_4]) (rest := [.long r]) (w1 := LW κ a am ad uh ur' un us uo uv' fo wp wk0 wk1) ⟨hx, hb, hml, hown, hts⟩ hK hG hA rfl rfl (c_X5_pair l D κ am H.size x5_1 x10_2 x15_3 x20_4 uv r uv' hf5) (cwV 4 hts xG_X5_pair rfl rfl rfl (by decide +kernel) ⟨Nat.le_of_ble_eq_true rfl, Nat.le_of_ble_eq_true rfl⟩) 0 5 rfl rfl rfl rfl hl.1 rfl (Nat.le_of_ble_eq_true rfl) dL_law_1245 ⟨by omega, by omega⟩ (fun H locs hG => ?_)
  refine W.lcmp hx hb dL_law_1248 ?_
  refine lv_if_eq (tgt := 1805) hx hb dL_law_1249 (by decide) (fun c1 => ?_) (fun c1 => absurd ((lg_cmp_eq r r).mpr rfl) c1)
  refine W.widen (k := 48 + 17 * (j + 1)) (n := 16900 + 2606 * (j + 1)) (by omega) (by omega) ?_
  exact hnext a am ad uh ur' un us uo uv' fo wp wk0 wk1 pu u0 u1 n0 n1 hrel hpap hk0 hk1 H locs ls hG hl
set_option maxRecDepth 100000 in
set_option maxHeartbeats 4000000 in
theorem law_c31 (Rel : Nat → HS → NS → OS → HS → NS → HS → NS → MS → Prop) (hR : RS_tagged Rel) {p : Program} {l : Launch} {e : Env} {s : State} {m : MethodId} {below : List Frame} {meth : Method} {c : Code} {D : va_G} {κ : Nat → ClassId} {b L : Nat} {xs : Nat → Int32} (hL : L ≤ 2560) (C9 : lw_At p s m meth c b L xs) (hK : va_K D vwCl (xT κ) s) (j : Nat) (hj : 5 * j + 5 ≤ L) (hnext : LAt Rel D κ p l e s m below meth c b 1805 j (j + 1)) : LAt Rel D κ p l e s m below meth c b 1421 j j := by
  obtain ⟨hx, hb, hr, hml, hown, hts0, hX, hbl, hlocks, hgv⟩ := C9
  have hts : ∀ w ∈ wsLL, w.before #[Value.ref b] s = true := fun w h => hts0 w (xlw_LL w h)
  have hA : ∀ q : Nat, s.heap.size ≤ q → (fun q : Nat => s.heap.size ≤ q) q := fun _ h => h
  intro a am ad uh ur un us uo uv fo wp wk0 wk1 pu u0 u1 n0 n1 hrel hpap hk0 hk1 H locs ls hG hl
  have hcc : 48 + 17 * (j + 1) ≤ room_1.cells := by show _ ≤ 601024; omega
  have hss : 16900 + 2606 * (j + 1) ≤ room_1.slots := by show _ ≤ 7293034; omega
  refine lv_aload_n hx hb dL_law_1421 rfl (lv_at hl 1 rfl) ?_
  refine lv_aload_n hx hb dL_law_1422 rfl (lv_at hl 0 rfl) ?_
  refine lv_iload hx hb dL_law_1423 (lv_at hl 4 rfl) ?_
  refine lv_iconst (v := 1) hx hb dL_law_1425 (by decide) ?_
  refine lv_iadd hx hb dL_law_1426 ?_
  refine x_sld (kn := 1) (by decide) (by decide) hj hL hx hb hX hbl hG.2.2 dL_law_1427 (fun x5_1 ex5_1 => ?_)
  refine lv_aload_n hx hb dL_law_1428 rfl (lv_at hl 0 rfl) ?_
  refine lv_iload hx hb dL_law_1429 (lv_at hl 4 rfl) ?_
  refine lv_iconst (v := 2) hx hb dL_law_1431 (by decide) ?_
  refine lv_iadd hx hb dL_law_1432 ?_
  refine x_sld (kn := 2) (by decide) (by decide) hj hL hx hb hX hbl hG.2.2 dL_law_1433 (fun x10_2 ex10_2 => ?_)
  obtain ⟨r, uv', hf4, hf5, hrel⟩ := hR j x5_1 x10_2 uh ur un us uo u0 n0 u1 n1 uv (by omega) hrel
  refine x_callVi (pre := []) (wc := WH κ a uh ++ (WR κ a ur ++ (WN κ a un ++ (WS κ a us ++ WO κ a uo)))) (wc1 := WH κ a uh ++ (WR κ a ur ++ (WN κ a un ++ (WS κ a us ++ WO κ a uo)))) (post := WM κ am uv ++ ([(ad, .inl (κ 1, 1, .inr (.inl fo)))] ++ (wp ++ (wk0 ++ wk1)))) (As := [.int x5_1, .int x10_2]) (rest := []) (w1 := LW κ a am ad uh ur un us uo uv fo wp wk0 wk1) ⟨hx, hb, hml, hown, hts⟩ hK hG hA rfl rfl (c_X4_tagged l D κ a H.size x5_1 x10_2 uh ur un us uo r  hf4) (cwV 2 hts xG_X4_tagged rfl rfl rfl (by decide +kernel) ⟨Nat.le_of_ble_eq_true rfl, Nat.le_of_ble_eq_true rfl⟩) 25 4 rfl rfl rfl rfl hl.1 rfl (Nat.le_of_ble_eq_true rfl) dL_law_1434 ⟨by omega, by omega⟩ (fun H locs hG => ?_)
  refine lv_aload_n hx hb dL_law_1437 rfl (lv_at hl 2 rfl) ?_
  refine lv_aload_n hx hb dL_law_1438 rfl (lv_at hl 0 rfl) ?_
  refine lv_iload hx hb dL_law_1439 (lv_at hl 4 rfl) ?_
  refine lv_iconst (v := 1) hx hb dL_law_1441 (by decide) ?_
  refine lv_iadd hx hb dL_law_1442 ?_
  refine x_sld (kn := 1) (by decide) (by decide) hj hL hx hb hX hbl hG.2.2 dL_law_1443 (fun x18_1 ex18_1 => ?_)
  refine lv_aload_n hx hb dL_law_1444 rfl (lv_at hl 0 rfl) ?_
  refine lv_iload hx hb dL_law_1445 (lv_at hl 4 rfl) ?_
  refine lv_iconst (v := 2) hx hb dL_law_1447 (by decide) ?_
  refine lv_iadd hx hb dL_law_1448 ?_
  refine x_sld (kn := 2) (by decide) (by decide) hj hL hx hb hX hbl hG.2.2 dL_law_1449 (fun x23_2 ex23_2 => ?_)
  obtain rfl : x18_1 = x5_1 := ex18_1.trans ex5_1.symm
  obtain rfl : x23_2 = x10_2 := ex23_2.trans ex10_2.symm
  refine x_callVi (pre := WH κ a uh ++ (WR κ a ur ++ (WN κ a un ++ (WS κ a us ++ WO κ a uo)))) (wc := WM κ am uv) (wc1 := WM κ am uv') (post := ([(ad, .inl (κ 1, 1, .inr (.inl fo)))] ++ (wp ++ (wk0 ++ wk1)))) (As := [.int x5_1, .int x10_2]) (rest := [.int r]) (w1 := LW κ a am ad uh ur un us uo uv' fo wp wk0 wk1) ⟨hx, hb, hml, hown, hts⟩ hK hG hA rfl rfl (c_X5_tagged l D κ am H.size x5_1 x10_2 uv r uv' hf5) (cwV 2 hts xG_X5_tagged rfl rfl rfl (by decide +kernel) ⟨Nat.le_of_ble_eq_true rfl, Nat.le_of_ble_eq_true rfl⟩) 0 5 rfl rfl rfl rfl hl.1 rfl (Nat.le_of_ble_eq_true rfl) dL_law_1450 ⟨by omega, by omega⟩ (fun H locs hG => ?_)
  refine lv_icmp_eq (tgt := 1805) hx hb dL_law_1453 (by decide) (fun c1 => ?_) (fun c1 => absurd rfl c1)
  refine W.widen (k := 48 + 17 * (j + 1)) (n := 16900 + 2606 * (j + 1)) (by omega) (by omega) ?_
  exact hnext a am ad uh ur un us uo uv' fo wp wk0 wk1 pu u0 u1 n0 n1 hrel hpap hk0 hk1 H locs ls hG hl
set_option maxRecDepth 100000 in
set_option maxHeartbeats 4000000 in
theorem law_c32 (Rel : Nat → HS → NS → OS → HS → NS → HS → NS → MS → Prop) (hR : RS_log Rel) {p : Program} {l : Launch} {e : Env} {s : State} {m : MethodId} {below : List Frame} {meth : Method} {c : Code} {D : va_G} {κ : Nat → ClassId} {b L : Nat} {xs : Nat → Int32} (hL : L ≤ 2560) (C9 : lw_At p s m meth c b L xs) (hK : va_K D vwCl (xT κ) s) (j : Nat) (hj : 5 * j + 5 ≤ L) (hnext : LAt Rel D κ p l e s m below meth c b 1805 j (j + 1)) : LAt Rel D κ p l e s m below meth c b 1458 j j := by
  obtain ⟨hx, hb, hr, hml, hown, hts0, hX, hbl, hlocks, hgv⟩ := C9
  have hts : ∀ w ∈ wsLL, w.before #[Value.ref b] s = true := fun w h => hts0 w (xlw_LL w h)
  have hA : ∀ q : Nat, s.heap.size ≤ q → (fun q : Nat => s.heap.size ≤ q) q := fun _ h => h
  intro a am ad uh ur un us uo uv fo wp wk0 wk1 pu u0 u1 n0 n1 hrel hpap hk0 hk1 H locs ls hG hl
  have hcc : 48 + 17 * (j + 1) ≤ room_1.cells := by show _ ≤ 601024; omega
  have hss : 16900 + 2606 * (j + 1) ≤ room_1.slots := by show _ ≤ 7293034; omega
  refine lv_aload_n hx hb dL_law_1458 rfl (lv_at hl 1 rfl) ?_
  refine lv_aload_n hx hb dL_law_1459 rfl (lv_at hl 0 rfl) ?_
  refine lv_iload hx hb dL_law_1460 (lv_at hl 4 rfl) ?_
  refine lv_iconst (v := 1) hx hb dL_law_1462 (by decide) ?_
  refine lv_iadd hx hb dL_law_1463 ?_
  refine x_sld (kn := 1) (by decide) (by decide) hj hL hx hb hX hbl hG.2.2 dL_law_1464 (fun x5_1 ex5_1 => ?_)
  refine lv_aload_n hx hb dL_law_1465 rfl (lv_at hl 0 rfl) ?_
  refine lv_iload hx hb dL_law_1466 (lv_at hl 4 rfl) ?_
  refine lv_iconst (v := 2) hx hb dL_law_1468 (by decide) ?_
  refine lv_iadd hx hb dL_law_1469 ?_
  refine x_sld (kn := 2) (by decide) (by decide) hj hL hx hb hX hbl hG.2.2 dL_law_1470 (fun x10_2 ex10_2 => ?_)
  obtain ⟨r, uv', hf4, hf5, hrel⟩ := hR j x5_1 x10_2 uh ur un us uo u0 n0 u1 n1 uv (by omega) hrel
  refine x_callVl (pre := []) (wc := WH κ a uh ++ (WR κ a ur ++ (WN κ a un ++ (WS κ a us ++ WO κ a uo)))) (wc1 := WH κ a uh ++ (WR κ a ur ++ (WN κ a un ++ (WS κ a us ++ WO κ a uo)))) (post := WM κ am uv ++ ([(ad, .inl (κ 1, 1, .inr (.inl fo)))] ++ (wp ++ (wk0 ++ wk1)))) (As := [.int x5_1, .int x10_2]) (rest := []) (w1 := LW κ a am ad uh ur un us uo uv fo wp wk0 wk1) ⟨hx, hb, hml, hown, hts⟩ hK hG hA rfl rfl (c_X4_log l D κ a H.size x5_1 x10_2 uh ur un us uo r  hf4) (cwV 2 hts xG_X4_log rfl rfl rfl (by decide +kernel) ⟨Nat.le_of_ble_eq_true rfl, Nat.le_of_ble_eq_true rfl⟩) 25 4 rfl rfl rfl rfl hl.1 rfl (Nat.le_of_ble_eq_true rfl) dL_law_1471 ⟨by omega, by omega⟩ (fun H locs hG => ?_)
  refine lv_aload_n hx hb dL_law_1474 rfl (lv_at hl 2 rfl) ?_
  refine lv_aload_n hx hb dL_law_1475 rfl (lv_at hl 0 rfl) ?_
  refine lv_iload hx hb dL_law_1476 (lv_at hl 4 rfl) ?_
  refine lv_iconst (v := 1) hx hb dL_law_1478 (by decide) ?_
  refine lv_iadd hx hb dL_law_1479 ?_
  refine x_sld (kn := 1) (by decide) (by decide) hj hL hx hb hX hbl hG.2.2 dL_law_1480 (fun x18_1 ex18_1 => ?_)
  refine lv_aload_n hx hb dL_law_1481 rfl (lv_at hl 0 rfl) ?_
  refine lv_iload hx hb dL_law_1482 (lv_at hl 4 rfl) ?_
  refine lv_iconst (v := 2) hx hb dL_law_1484 (by decide) ?_
  refine lv_iadd hx hb dL_law_1485 ?_
  refine x_sld (kn := 2) (by decide) (by decide) hj hL hx hb hX hbl hG.2.2 dL_law_1486 (fun x23_2 ex23_2 => ?_)
  obtain rfl : x18_1 = x5_1 := ex18_1.trans ex5_1.symm
  obtain rfl : x23_2 = x10_2 := ex23_2.trans ex10_2.symm
  refine x_callVl (pre := WH κ a uh ++ (WR κ a ur ++ (WN κ a un ++ (WS κ a us ++ WO κ a uo)))) (wc := WM κ am uv) (wc1 := WM κ am uv') (post := ([(ad, .inl (κ 1, 1, .inr (.inl fo)))] ++ (wp ++ (wk0 ++ wk1)))) (As := [.int x5_1, .int x10_2]) (rest := [.long r]) (w1 := LW κ a am ad uh ur un us uo uv' fo wp wk0 wk1) ⟨hx, hb, hml, hown, hts⟩ hK hG hA rfl rfl (c_X5_log l D κ am H.size x5_1 x10_2 uv r uv' hf5) (cwV 2 hts xG_X5_log rfl rfl rfl (by decide +kernel) ⟨Nat.le_of_ble_eq_true rfl, Nat.le_of_ble_eq_true rfl⟩) 0 5 rfl rfl rfl rfl hl.1 rfl (Nat.le_of_ble_eq_true rfl) dL_law_1487 ⟨by omega, by omega⟩ (fun H locs hG => ?_)
  refine W.lcmp hx hb dL_law_1490 ?_
  refine lv_if_eq (tgt := 1805) hx hb dL_law_1491 (by decide) (fun c1 => ?_) (fun c1 => absurd ((lg_cmp_eq r r).mpr rfl) c1)
  refine W.widen (k := 48 + 17 * (j + 1)) (n := 16900 + 2606 * (j + 1)) (by omega) (by omega) ?_
  exact hnext a am ad uh ur un us uo uv' fo wp wk0 wk1 pu u0 u1 n0 n1 hrel hpap hk0 hk1 H locs ls hG hl
set_option maxRecDepth 100000 in
set_option maxHeartbeats 4000000 in
theorem law_c33 (Rel : Nat → HS → NS → OS → HS → NS → HS → NS → MS → Prop) (hR : RS_best Rel) {p : Program} {l : Launch} {e : Env} {s : State} {m : MethodId} {below : List Frame} {meth : Method} {c : Code} {D : va_G} {κ : Nat → ClassId} {b L : Nat} {xs : Nat → Int32} (hL : L ≤ 2560) (C9 : lw_At p s m meth c b L xs) (hK : va_K D vwCl (xT κ) s) (j : Nat) (hj : 5 * j + 5 ≤ L) (hnext : LAt Rel D κ p l e s m below meth c b 1805 j (j + 1)) : LAt Rel D κ p l e s m below meth c b 1496 j j := by
  obtain ⟨hx, hb, hr, hml, hown, hts0, hX, hbl, hlocks, hgv⟩ := C9
  have hts : ∀ w ∈ wsLL, w.before #[Value.ref b] s = true := fun w h => hts0 w (xlw_LL w h)
  have hA : ∀ q : Nat, s.heap.size ≤ q → (fun q : Nat => s.heap.size ≤ q) q := fun _ h => h
  intro a am ad uh ur un us uo uv fo wp wk0 wk1 pu u0 u1 n0 n1 hrel hpap hk0 hk1 H locs ls hG hl
  have hcc : 48 + 17 * (j + 1) ≤ room_1.cells := by show _ ≤ 601024; omega
  have hss : 16900 + 2606 * (j + 1) ≤ room_1.slots := by show _ ≤ 7293034; omega
  refine lv_aload_n hx hb dL_law_1496 rfl (lv_at hl 1 rfl) ?_
  refine lv_aload_n hx hb dL_law_1497 rfl (lv_at hl 0 rfl) ?_
  refine lv_iload hx hb dL_law_1498 (lv_at hl 4 rfl) ?_
  refine lv_iconst (v := 1) hx hb dL_law_1500 (by decide) ?_
  refine lv_iadd hx hb dL_law_1501 ?_
  refine x_sld (kn := 1) (by decide) (by decide) hj hL hx hb hX hbl hG.2.2 dL_law_1502 (fun x5_1 ex5_1 => ?_)
  refine lv_aload_n hx hb dL_law_1503 rfl (lv_at hl 0 rfl) ?_
  refine lv_iload hx hb dL_law_1504 (lv_at hl 4 rfl) ?_
  refine lv_iconst (v := 2) hx hb dL_law_1506 (by decide) ?_
  refine lv_iadd hx hb dL_law_1507 ?_
  refine x_sld (kn := 2) (by decide) (by decide) hj hL hx hb hX hbl hG.2.2 dL_law_1508 (fun x10_2 ex10_2 => ?_)
  obtain ⟨r, us', uv', hf4, hf5, hrel⟩ := hR j x5_1 x10_2 uh ur un us uo u0 n0 u1 n1 uv (by omega) hrel
  refine x_callVi (pre := []) (wc := WH κ a uh ++ (WR κ a ur ++ (WN κ a un ++ (WS κ a us ++ WO κ a uo)))) (wc1 := WH κ a uh ++ (WR κ a ur ++ (WN κ a un ++ (WS κ a us' ++ WO κ a uo)))) (post := WM κ am uv ++ ([(ad, .inl (κ 1, 1, .inr (.inl fo)))] ++ (wp ++ (wk0 ++ wk1)))) (As := [.int x5_1, .int x10_2]) (rest := []) (w1 := LW κ a am ad uh ur un us' uo uv fo wp wk0 wk1) ⟨hx, hb, hml, hown, hts⟩ hK hG hA rfl rfl (c_X4_best l D κ a H.size x5_1 x10_2 uh ur un us uo r us' hf4) (cwV 2 hts xG_X4_best rfl rfl rfl (by decide +kernel) ⟨Nat.le_of_ble_eq_true rfl, Nat.le_of_ble_eq_true rfl⟩) 25 4 rfl rfl rfl rfl hl.1 rfl (Nat.le_of_ble_eq_true rfl) dL_law_1509 ⟨by omega, by omega⟩ (fun H locs hG => ?_)
  refine lv_aload_n hx hb dL_law_1512 rfl (lv_at hl 2 rfl) ?_
  refine lv_aload_n hx hb dL_law_1513 rfl (lv_at hl 0 rfl) ?_
  refine lv_iload hx hb dL_law_1514 (lv_at hl 4 rfl) ?_
  refine lv_iconst (v := 1) hx hb dL_law_1516 (by decide) ?_
  refine lv_iadd hx hb dL_law_1517 ?_
  refine x_sld (kn := 1) (by decide) (by decide) hj hL hx hb hX hbl hG.2.2 dL_law_1518 (fun x18_1 ex18_1 => ?_)
  refine lv_aload_n hx hb dL_law_1519 rfl (lv_at hl 0 rfl) ?_
  refine lv_iload hx hb dL_law_1520 (lv_at hl 4 rfl) ?_
  refine lv_iconst (v := 2) hx hb dL_law_1522 (by decide) ?_
  refine lv_iadd hx hb dL_law_1523 ?_
  refine x_sld (kn := 2) (by decide) (by decide) hj hL hx hb hX hbl hG.2.2 dL_law_1524 (fun x23_2 ex23_2 => ?_)
  obtain rfl : x18_1 = x5_1 := ex18_1.trans ex5_1.symm
  obtain rfl : x23_2 = x10_2 := ex23_2.trans ex10_2.symm
  refine x_callVi (pre := WH κ a uh ++ (WR κ a ur ++ (WN κ a un ++ (WS κ a us' ++ WO κ a uo)))) (wc := WM κ am uv) (wc1 := WM κ am uv') (post := ([(ad, .inl (κ 1, 1, .inr (.inl fo)))] ++ (wp ++ (wk0 ++ wk1)))) (As := [.int x5_1, .int x10_2]) (rest := [.int r]) (w1 := LW κ a am ad uh ur un us' uo uv' fo wp wk0 wk1) ⟨hx, hb, hml, hown, hts⟩ hK hG hA rfl rfl (c_X5_best l D κ am H.size x5_1 x10_2 uv r uv' hf5) (cwV 2 hts xG_X5_best rfl rfl rfl (by decide +kernel) ⟨Nat.le_of_ble_eq_true rfl, Nat.le_of_ble_eq_true rfl⟩) 0 5 rfl rfl rfl rfl hl.1 rfl (Nat.le_of_ble_eq_true rfl) dL_law_1525 ⟨by omega, by omega⟩ (fun H locs hG => ?_)
  refine lv_icmp_eq (tgt := 1805) hx hb dL_law_1528 (by decide) (fun c1 => ?_) (fun c1 => absurd rfl c1)
  refine W.widen (k := 48 + 17 * (j + 1)) (n := 16900 + 2606 * (j + 1)) (by omega) (by omega) ?_
  exact hnext a am ad uh ur un us' uo uv' fo wp wk0 wk1 pu u0 u1 n0 n1 hrel hpap hk0 hk1 H locs ls hG hl
set_option maxRecDepth 100000 in
set_option maxHeartbeats 4000000 in
theorem law_c34 (Rel : Nat → HS → NS → OS → HS → NS → HS → NS → MS → Prop) (hR : RS_by Rel) {p : Program} {l : Launch} {e : Env} {s : State} {m : MethodId} {below : List Frame} {meth : Method} {c : Code} {D : va_G} {κ : Nat → ClassId} {b L : Nat} {xs : Nat → Int32} (hL : L ≤ 2560) (C9 : lw_At p s m meth c b L xs) (hK : va_K D vwCl (xT κ) s) (j : Nat) (hj : 5 * j + 5 ≤ L) (hnext : LAt Rel D κ p l e s m below meth c b 1805 j (j + 1)) : LAt Rel D κ p l e s m below meth c b 1533 j j := by
  obtain ⟨hx, hb, hr, hml, hown, hts0, hX, hbl, hlocks, hgv⟩ := C9
  have hts : ∀ w ∈ wsLL, w.before #[Value.ref b] s = true := fun w h => hts0 w (xlw_LL w h)
  have hA : ∀ q : Nat, s.heap.size ≤ q → (fun q : Nat => s.heap.size ≤ q) q := fun _ h => h
  intro a am ad uh ur un us uo uv fo wp wk0 wk1 pu u0 u1 n0 n1 hrel hpap hk0 hk1 H locs ls hG hl
  have hcc : 48 + 17 * (j + 1) ≤ room_1.cells := by show _ ≤ 601024; omega
  have hss : 16900 + 2606 * (j + 1) ≤ room_1.slots := by show _ ≤ 7293034; omega
  refine lv_aload_n hx hb dL_law_1533 rfl (lv_at hl 1 rfl) ?_
  refine lv_aload_n hx hb dL_law_1534 rfl (lv_at hl 0 rfl) ?_
  refine lv_iload hx hb dL_law_1535 (lv_at hl 4 rfl) ?_
  refine lv_iconst (v := 1) hx hb dL_law_1537 (by decide) ?_
  refine lv_iadd hx hb dL_law_1538 ?_
  refine x_sld (kn := 1) (by decide) (by decide) hj hL hx hb hX hbl hG.2.2 dL_law_1539 (fun x5_1 ex5_1 => ?_)
  refine lv_aload_n hx hb dL_law_1540 rfl (lv_at hl 0 rfl) ?_
  refine lv_iload hx hb dL_law_1541 (lv_at hl 4 rfl) ?_
  refine lv_iconst (v := 2) hx hb dL_law_1543 (by decide) ?_
  refine lv_iadd hx hb dL_law_1544 ?_
  refine x_sld (kn := 2) (by decide) (by decide) hj hL hx hb hX hbl hG.2.2 dL_law_1545 (fun x10_2 ex10_2 => ?_)
  obtain ⟨r, us', uv', hf4, hf5, hrel⟩ := hR j x5_1 x10_2 uh ur un us uo u0 n0 u1 n1 uv (by omega) hrel
  refine x_callVi (pre := []) (wc := WH κ a uh ++ (WR κ a ur ++ (WN κ a un ++ (WS κ a us ++ WO κ a uo)))) (wc1 := WH κ a uh ++ (WR κ a ur ++ (WN κ a un ++ (WS κ a us' ++ WO κ a uo)))) (post := WM κ am uv ++ ([(ad, .inl (κ 1, 1, .inr (.inl fo)))] ++ (wp ++ (wk0 ++ wk1)))) (As := [.int x5_1, .int x10_2]) (rest := []) (w1 := LW κ a am ad uh ur un us' uo uv fo wp wk0 wk1) ⟨hx, hb, hml, hown, hts⟩ hK hG hA rfl rfl (c_X4_by l D κ a H.size x5_1 x10_2 uh ur un us uo r us' hf4) (cwV 2 hts xG_X4_by rfl rfl rfl (by decide +kernel) ⟨Nat.le_of_ble_eq_true rfl, Nat.le_of_ble_eq_true rfl⟩) 25 4 rfl rfl rfl rfl hl.1 rfl (Nat.le_of_ble_eq_true rfl) dL_law_1546 ⟨by omega, by omega⟩ (fun H locs hG => ?_)
  refine lv_aload_n hx hb dL_law_1549 rfl (lv_at hl 2 rfl) ?_
  refine lv_aload_n hx hb dL_law_1550 rfl (lv_at hl 0 rfl) ?_
  refine lv_iload hx hb dL_law_1551 (lv_at hl 4 rfl) ?_
  refine lv_iconst (v := 1) hx hb dL_law_1553 (by decide) ?_
  refine lv_iadd hx hb dL_law_1554 ?_
  refine x_sld (kn := 1) (by decide) (by decide) hj hL hx hb hX hbl hG.2.2 dL_law_1555 (fun x18_1 ex18_1 => ?_)
  refine lv_aload_n hx hb dL_law_1556 rfl (lv_at hl 0 rfl) ?_
  refine lv_iload hx hb dL_law_1557 (lv_at hl 4 rfl) ?_
  refine lv_iconst (v := 2) hx hb dL_law_1559 (by decide) ?_
  refine lv_iadd hx hb dL_law_1560 ?_
  refine x_sld (kn := 2) (by decide) (by decide) hj hL hx hb hX hbl hG.2.2 dL_law_1561 (fun x23_2 ex23_2 => ?_)
  obtain rfl : x18_1 = x5_1 := ex18_1.trans ex5_1.symm
  obtain rfl : x23_2 = x10_2 := ex23_2.trans ex10_2.symm
  refine x_callVi (pre := WH κ a uh ++ (WR κ a ur ++ (WN κ a un ++ (WS κ a us' ++ WO κ a uo)))) (wc := WM κ am uv) (wc1 := WM κ am uv') (post := ([(ad, .inl (κ 1, 1, .inr (.inl fo)))] ++ (wp ++ (wk0 ++ wk1)))) (As := [.int x5_1, .int x10_2]) (rest := [.int r]) (w1 := LW κ a am ad uh ur un us' uo uv' fo wp wk0 wk1) ⟨hx, hb, hml, hown, hts⟩ hK hG hA rfl rfl (c_X5_by l D κ am H.size x5_1 x10_2 uv r uv' hf5) (cwV 2 hts xG_X5_by rfl rfl rfl (by decide +kernel) ⟨Nat.le_of_ble_eq_true rfl, Nat.le_of_ble_eq_true rfl⟩) 0 5 rfl rfl rfl rfl hl.1 rfl (Nat.le_of_ble_eq_true rfl) dL_law_1562 ⟨by omega, by omega⟩ (fun H locs hG => ?_)
  refine lv_icmp_eq (tgt := 1805) hx hb dL_law_1565 (by decide) (fun c1 => ?_) (fun c1 => absurd rfl c1)
  refine W.widen (k := 48 + 17 * (j + 1)) (n := 16900 + 2606 * (j + 1)) (by omega) (by omega) ?_
  exact hnext a am ad uh ur un us' uo uv' fo wp wk0 wk1 pu u0 u1 n0 n1 hrel hpap hk0 hk1 H locs ls hG hl
set_option maxRecDepth 100000 in
set_option maxHeartbeats 4000000 in
theorem law_c35 (Rel : Nat → HS → NS → OS → HS → NS → HS → NS → MS → Prop) (hR : RS_dearer Rel) {p : Program} {l : Launch} {e : Env} {s : State} {m : MethodId} {below : List Frame} {meth : Method} {c : Code} {D : va_G} {κ : Nat → ClassId} {b L : Nat} {xs : Nat → Int32} (hL : L ≤ 2560) (C9 : lw_At p s m meth c b L xs) (hK : va_K D vwCl (xT κ) s) (j : Nat) (hj : 5 * j + 5 ≤ L) (hnext : LAt Rel D κ p l e s m below meth c b 1805 j (j + 1)) : LAt Rel D κ p l e s m below meth c b 1570 j j := by
  obtain ⟨hx, hb, hr, hml, hown, hts0, hX, hbl, hlocks, hgv⟩ := C9
  have hts : ∀ w ∈ wsLL, w.before #[Value.ref b] s = true := fun w h => hts0 w (xlw_LL w h)
  have hA : ∀ q : Nat, s.heap.size ≤ q → (fun q : Nat => s.heap.size ≤ q) q := fun _ h => h
  intro a am ad uh ur un us uo uv fo wp wk0 wk1 pu u0 u1 n0 n1 hrel hpap hk0 hk1 H locs ls hG hl
  have hcc : 48 + 17 * (j + 1) ≤ room_1.cells := by show _ ≤ 601024; omega
  have hss : 16900 + 2606 * (j + 1) ≤ room_1.slots := by show _ ≤ 7293034; omega
  refine lv_aload_n hx hb dL_law_1570 rfl (lv_at hl 1 rfl) ?_
  refine lv_aload_n hx hb dL_law_1571 rfl (lv_at hl 0 rfl) ?_
  refine lv_iload hx hb dL_law_1572 (lv_at hl 4 rfl) ?_
  refine lv_iconst (v := 1) hx hb dL_law_1574 (by decide) ?_
  refine lv_iadd hx hb dL_law_1575 ?_
  refine x_sld (kn := 1) (by decide) (by decide) hj hL hx hb hX hbl hG.2.2 dL_law_1576 (fun x5_1 ex5_1 => ?_)
  refine lv_aload_n hx hb dL_law_1577 rfl (lv_at hl 0 rfl) ?_
  refine lv_iload hx hb dL_law_1578 (lv_at hl 4 rfl) ?_
  refine lv_iconst (v := 2) hx hb dL_law_1580 (by decide) ?_
  refine lv_iadd hx hb dL_law_1581 ?_
  refine x_sld (kn := 2) (by decide) (by decide) hj hL hx hb hX hbl hG.2.2 dL_law_1582 (fun x10_2 ex10_2 => ?_)
  obtain ⟨r, us', uv', hf4, hf5, hrel⟩ := hR j x5_1 x10_2 uh ur un us uo u0 n0 u1 n1 uv (by omega) hrel
  refine x_callVi (pre := []) (wc := WH κ a uh ++ (WR κ a ur ++ (WN κ a un ++ (WS κ a us ++ WO κ a uo)))) (wc1 := WH κ a uh ++ (WR κ a ur ++ (WN κ a un ++ (WS κ a us' ++ WO κ a uo)))) (post := WM κ am uv ++ ([(ad, .inl (κ 1, 1, .inr (.inl fo)))] ++ (wp ++ (wk0 ++ wk1)))) (As := [.int x5_1, .int x10_2]) (rest := []) (w1 := LW κ a am ad uh ur un us' uo uv fo wp wk0 wk1) ⟨hx, hb, hml, hown, hts⟩ hK hG hA rfl rfl (c_X4_dearer l D κ a H.size x5_1 x10_2 uh ur un us uo r us' hf4) (cwV 2 hts xG_X4_dearer rfl rfl rfl (by decide +kernel) ⟨Nat.le_of_ble_eq_true rfl, Nat.le_of_ble_eq_true rfl⟩) 25 4 rfl rfl rfl rfl hl.1 rfl (Nat.le_of_ble_eq_true rfl) dL_law_1583 ⟨by omega, by omega⟩ (fun H locs hG => ?_)
  refine lv_aload_n hx hb dL_law_1586 rfl (lv_at hl 2 rfl) ?_
  refine lv_aload_n hx hb dL_law_1587 rfl (lv_at hl 0 rfl) ?_
  refine lv_iload hx hb dL_law_1588 (lv_at hl 4 rfl) ?_
  refine lv_iconst (v := 1) hx hb dL_law_1590 (by decide) ?_
  refine lv_iadd hx hb dL_law_1591 ?_
  refine x_sld (kn := 1) (by decide) (by decide) hj hL hx hb hX hbl hG.2.2 dL_law_1592 (fun x18_1 ex18_1 => ?_)
  refine lv_aload_n hx hb dL_law_1593 rfl (lv_at hl 0 rfl) ?_
  refine lv_iload hx hb dL_law_1594 (lv_at hl 4 rfl) ?_
  refine lv_iconst (v := 2) hx hb dL_law_1596 (by decide) ?_
  refine lv_iadd hx hb dL_law_1597 ?_
  refine x_sld (kn := 2) (by decide) (by decide) hj hL hx hb hX hbl hG.2.2 dL_law_1598 (fun x23_2 ex23_2 => ?_)
  obtain rfl : x18_1 = x5_1 := ex18_1.trans ex5_1.symm
  obtain rfl : x23_2 = x10_2 := ex23_2.trans ex10_2.symm
  refine x_callVi (pre := WH κ a uh ++ (WR κ a ur ++ (WN κ a un ++ (WS κ a us' ++ WO κ a uo)))) (wc := WM κ am uv) (wc1 := WM κ am uv') (post := ([(ad, .inl (κ 1, 1, .inr (.inl fo)))] ++ (wp ++ (wk0 ++ wk1)))) (As := [.int x5_1, .int x10_2]) (rest := [.int r]) (w1 := LW κ a am ad uh ur un us' uo uv' fo wp wk0 wk1) ⟨hx, hb, hml, hown, hts⟩ hK hG hA rfl rfl (c_X5_dearer l D κ am H.size x5_1 x10_2 uv r uv' hf5) (cwV 2 hts xG_X5_dearer rfl rfl rfl (by decide +kernel) ⟨Nat.le_of_ble_eq_true rfl, Nat.le_of_ble_eq_true rfl⟩) 0 5 rfl rfl rfl rfl hl.1 rfl (Nat.le_of_ble_eq_true rfl) dL_law_1599 ⟨by omega, by omega⟩ (fun H locs hG => ?_)
  refine lv_icmp_eq (tgt := 1805) hx hb dL_law_1602 (by decide) (fun c1 => ?_) (fun c1 => absurd rfl c1)
  refine W.widen (k := 48 + 17 * (j + 1)) (n := 16900 + 2606 * (j + 1)) (by omega) (by omega) ?_
  exact hnext a am ad uh ur un us' uo uv' fo wp wk0 wk1 pu u0 u1 n0 n1 hrel hpap hk0 hk1 H locs ls hG hl
set_option maxRecDepth 100000 in
set_option maxHeartbeats 4000000 in
theorem law_c36 (Rel : Nat → HS → NS → OS → HS → NS → HS → NS → MS → Prop) (hR : RS_without Rel) {p : Program} {l : Launch} {e : Env} {s : State} {m : MethodId} {below : List Frame} {meth : Method} {c : Code} {D : va_G} {κ : Nat → ClassId} {b L : Nat} {xs : Nat → Int32} (hL : L ≤ 2560) (C9 : lw_At p s m meth c b L xs) (hK : va_K D vwCl (xT κ) s) (j : Nat) (hj : 5 * j + 5 ≤ L) (hnext : LAt Rel D κ p l e s m below meth c b 1805 j (j + 1)) : LAt Rel D κ p l e s m below meth c b 1607 j j := by
  obtain ⟨hx, hb, hr, hml, hown, hts0, hX, hbl, hlocks, hgv⟩ := C9
  have hts : ∀ w ∈ wsLL, w.before #[Value.ref b] s = true := fun w h => hts0 w (xlw_LL w h)
  have hA : ∀ q : Nat, s.heap.size ≤ q → (fun q : Nat => s.heap.size ≤ q) q := fun _ h => h
  intro a am ad uh ur un us uo uv fo wp wk0 wk1 pu u0 u1 n0 n1 hrel hpap hk0 hk1 H locs ls hG hl
  have hcc : 48 + 17 * (j + 1) ≤ room_1.cells := by show _ ≤ 601024; omega
  have hss : 16900 + 2606 * (j + 1) ≤ room_1.slots := by show _ ≤ 7293034; omega
  refine lv_aload_n hx hb dL_law_1607 rfl (lv_at hl 1 rfl) ?_
  refine lv_aload_n hx hb dL_law_1608 rfl (lv_at hl 0 rfl) ?_
  refine lv_iload hx hb dL_law_1609 (lv_at hl 4 rfl) ?_
  refine lv_iconst (v := 1) hx hb dL_law_1611 (by decide) ?_
  refine lv_iadd hx hb dL_law_1612 ?_
  refine x_sld (kn := 1) (by decide) (by decide) hj hL hx hb hX hbl hG.2.2 dL_law_1613 (fun x5_1 ex5_1 => ?_)
  refine lv_aload_n hx hb dL_law_1614 rfl (lv_at hl 0 rfl) ?_
  refine lv_iload hx hb dL_law_1615 (lv_at hl 4 rfl) ?_
  refine lv_iconst (v := 2) hx hb dL_law_1617 (by decide) ?_
  refine lv_iadd hx hb dL_law_1618 ?_
  refine x_sld (kn := 2) (by decide) (by decide) hj hL hx hb hX hbl hG.2.2 dL_law_1619 (fun x10_2 ex10_2 => ?_)
  obtain ⟨r, us', uv', hf4, hf5, hrel⟩ := hR j x5_1 x10_2 uh ur un us uo u0 n0 u1 n1 uv (by omega) hrel
  refine x_callVi (pre := []) (wc := WH κ a uh ++ (WR κ a ur ++ (WN κ a un ++ (WS κ a us ++ WO κ a uo)))) (wc1 := WH κ a uh ++ (WR κ a ur ++ (WN κ a un ++ (WS κ a us' ++ WO κ a uo)))) (post := WM κ am uv ++ ([(ad, .inl (κ 1, 1, .inr (.inl fo)))] ++ (wp ++ (wk0 ++ wk1)))) (As := [.int x5_1, .int x10_2]) (rest := []) (w1 := LW κ a am ad uh ur un us' uo uv fo wp wk0 wk1) ⟨hx, hb, hml, hown, hts⟩ hK hG hA rfl rfl (c_X4_without l D κ a H.size x5_1 x10_2 uh ur un us uo r us' hf4) (cwV 2 hts xG_X4_without rfl rfl rfl (by decide +kernel) ⟨Nat.le_of_ble_eq_true rfl, Nat.le_of_ble_eq_true rfl⟩) 25 4 rfl rfl rfl rfl hl.1 rfl (Nat.le_of_ble_eq_true rfl) dL_law_1620 ⟨by omega, by omega⟩ (fun H locs hG => ?_)
  refine lv_aload_n hx hb dL_law_1623 rfl (lv_at hl 2 rfl) ?_
  refine lv_aload_n hx hb dL_law_1624 rfl (lv_at hl 0 rfl) ?_
  refine lv_iload hx hb dL_law_1625 (lv_at hl 4 rfl) ?_
  refine lv_iconst (v := 1) hx hb dL_law_1627 (by decide) ?_
  refine lv_iadd hx hb dL_law_1628 ?_
  refine x_sld (kn := 1) (by decide) (by decide) hj hL hx hb hX hbl hG.2.2 dL_law_1629 (fun x18_1 ex18_1 => ?_)
  refine lv_aload_n hx hb dL_law_1630 rfl (lv_at hl 0 rfl) ?_
  refine lv_iload hx hb dL_law_1631 (lv_at hl 4 rfl) ?_
  refine lv_iconst (v := 2) hx hb dL_law_1633 (by decide) ?_
  refine lv_iadd hx hb dL_law_1634 ?_
  refine x_sld (kn := 2) (by decide) (by decide) hj hL hx hb hX hbl hG.2.2 dL_law_1635 (fun x23_2 ex23_2 => ?_)
  obtain rfl : x18_1 = x5_1 := ex18_1.trans ex5_1.symm
  obtain rfl : x23_2 = x10_2 := ex23_2.trans ex10_2.symm
  refine x_callVi (pre := WH κ a uh ++ (WR κ a ur ++ (WN κ a un ++ (WS κ a us' ++ WO κ a uo)))) (wc := WM κ am uv) (wc1 := WM κ am uv') (post := ([(ad, .inl (κ 1, 1, .inr (.inl fo)))] ++ (wp ++ (wk0 ++ wk1)))) (As := [.int x5_1, .int x10_2]) (rest := [.int r]) (w1 := LW κ a am ad uh ur un us' uo uv' fo wp wk0 wk1) ⟨hx, hb, hml, hown, hts⟩ hK hG hA rfl rfl (c_X5_without l D κ am H.size x5_1 x10_2 uv r uv' hf5) (cwV 2 hts xG_X5_without rfl rfl rfl (by decide +kernel) ⟨Nat.le_of_ble_eq_true rfl, Nat.le_of_ble_eq_true rfl⟩) 0 5 rfl rfl rfl rfl hl.1 rfl (Nat.le_of_ble_eq_true rfl) dL_law_1636 ⟨by omega, by omega⟩ (fun H locs hG => ?_)
  refine lv_icmp_eq (tgt := 1805) hx hb dL_law_1639 (by decide) (fun c1 => ?_) (fun c1 => absurd rfl c1)
  refine W.widen (k := 48 + 17 * (j + 1)) (n := 16900 + 2606 * (j + 1)) (by omega) (by omega) ?_
  exact hnext a am ad uh ur un us' uo uv' fo wp wk0 wk1 pu u0 u1 n0 n1 hrel hpap hk0 hk1 H locs ls hG hl
set_option maxRecDepth 100000 in
set_option maxHeartbeats 4000000 in
theorem law_c37 (Rel : Nat → HS → NS → OS → HS → NS → HS → NS → MS → Prop) (hR : RS_cheaper Rel) {p : Program} {l : Launch} {e : Env} {s : State} {m : MethodId} {below : List Frame} {meth : Method} {c : Code} {D : va_G} {κ : Nat → ClassId} {b L : Nat} {xs : Nat → Int32} (hL : L ≤ 2560) (C9 : lw_At p s m meth c b L xs) (hK : va_K D vwCl (xT κ) s) (j : Nat) (hj : 5 * j + 5 ≤ L) (hnext : LAt Rel D κ p l e s m below meth c b 1805 j (j + 1)) : LAt Rel D κ p l e s m below meth c b 1644 j j := by
  obtain ⟨hx, hb, hr, hml, hown, hts0, hX, hbl, hlocks, hgv⟩ := C9
  have hts : ∀ w ∈ wsLL, w.before #[Value.ref b] s = true := fun w h => hts0 w (xlw_LL w h)
  have hA : ∀ q : Nat, s.heap.size ≤ q → (fun q : Nat => s.heap.size ≤ q) q := fun _ h => h
  intro a am ad uh ur un us uo uv fo wp wk0 wk1 pu u0 u1 n0 n1 hrel hpap hk0 hk1 H locs ls hG hl
  have hcc : 48 + 17 * (j + 1) ≤ room_1.cells := by show _ ≤ 601024; omega
  have hss : 16900 + 2606 * (j + 1) ≤ room_1.slots := by show _ ≤ 7293034; omega
  refine lv_aload_n hx hb dL_law_1644 rfl (lv_at hl 1 rfl) ?_
  refine lv_aload_n hx hb dL_law_1645 rfl (lv_at hl 0 rfl) ?_
  refine lv_iload hx hb dL_law_1646 (lv_at hl 4 rfl) ?_
  refine lv_iconst (v := 1) hx hb dL_law_1648 (by decide) ?_
  refine lv_iadd hx hb dL_law_1649 ?_
  refine x_sld (kn := 1) (by decide) (by decide) hj hL hx hb hX hbl hG.2.2 dL_law_1650 (fun x5_1 ex5_1 => ?_)
  refine lv_aload_n hx hb dL_law_1651 rfl (lv_at hl 0 rfl) ?_
  refine lv_iload hx hb dL_law_1652 (lv_at hl 4 rfl) ?_
  refine lv_iconst (v := 2) hx hb dL_law_1654 (by decide) ?_
  refine lv_iadd hx hb dL_law_1655 ?_
  refine x_sld (kn := 2) (by decide) (by decide) hj hL hx hb hX hbl hG.2.2 dL_law_1656 (fun x10_2 ex10_2 => ?_)
  obtain ⟨r, us', uv', hf4, hf5, hrel⟩ := hR j x5_1 x10_2 uh ur un us uo u0 n0 u1 n1 uv (by omega) hrel
  refine x_callVi (pre := []) (wc := WH κ a uh ++ (WR κ a ur ++ (WN κ a un ++ (WS κ a us ++ WO κ a uo)))) (wc1 := WH κ a uh ++ (WR κ a ur ++ (WN κ a un ++ (WS κ a us' ++ WO κ a uo)))) (post := WM κ am uv ++ ([(ad, .inl (κ 1, 1, .inr (.inl fo)))] ++ (wp ++ (wk0 ++ wk1)))) (As := [.int x5_1, .int x10_2]) (rest := []) (w1 := LW κ a am ad uh ur un us' uo uv fo wp wk0 wk1) ⟨hx, hb, hml, hown, hts⟩ hK hG hA rfl rfl (c_X4_cheaper l D κ a H.size x5_1 x10_2 uh ur un us uo r us' hf4) (cwV 2 hts xG_X4_cheaper rfl rfl rfl (by decide +kernel) ⟨Nat.le_of_ble_eq_true rfl, Nat.le_of_ble_eq_true rfl⟩) 25 4 rfl rfl rfl rfl hl.1 rfl (Nat.le_of_ble_eq_true rfl) dL_law_1657 ⟨by omega, by omega⟩ (fun H locs hG => ?_)
  refine lv_aload_n hx hb dL_law_1660 rfl (lv_at hl 2 rfl) ?_
  refine lv_aload_n hx hb dL_law_1661 rfl (lv_at hl 0 rfl) ?_
  refine lv_iload hx hb dL_law_1662 (lv_at hl 4 rfl) ?_
  refine lv_iconst (v := 1) hx hb dL_law_1664 (by decide) ?_
  refine lv_iadd hx hb dL_law_1665 ?_
  refine x_sld (kn := 1) (by decide) (by decide) hj hL hx hb hX hbl hG.2.2 dL_law_1666 (fun x18_1 ex18_1 => ?_)
  refine lv_aload_n hx hb dL_law_1667 rfl (lv_at hl 0 rfl) ?_
  refine lv_iload hx hb dL_law_1668 (lv_at hl 4 rfl) ?_
  refine lv_iconst (v := 2) hx hb dL_law_1670 (by decide) ?_
  refine lv_iadd hx hb dL_law_1671 ?_
  refine x_sld (kn := 2) (by decide) (by decide) hj hL hx hb hX hbl hG.2.2 dL_law_1672 (fun x23_2 ex23_2 => ?_)
  obtain rfl : x18_1 = x5_1 := ex18_1.trans ex5_1.symm
  obtain rfl : x23_2 = x10_2 := ex23_2.trans ex10_2.symm
  refine x_callVi (pre := WH κ a uh ++ (WR κ a ur ++ (WN κ a un ++ (WS κ a us' ++ WO κ a uo)))) (wc := WM κ am uv) (wc1 := WM κ am uv') (post := ([(ad, .inl (κ 1, 1, .inr (.inl fo)))] ++ (wp ++ (wk0 ++ wk1)))) (As := [.int x5_1, .int x10_2]) (rest := [.int r]) (w1 := LW κ a am ad uh ur un us' uo uv' fo wp wk0 wk1) ⟨hx, hb, hml, hown, hts⟩ hK hG hA rfl rfl (c_X5_cheaper l D κ am H.size x5_1 x10_2 uv r uv' hf5) (cwV 2 hts xG_X5_cheaper rfl rfl rfl (by decide +kernel) ⟨Nat.le_of_ble_eq_true rfl, Nat.le_of_ble_eq_true rfl⟩) 0 5 rfl rfl rfl rfl hl.1 rfl (Nat.le_of_ble_eq_true rfl) dL_law_1673 ⟨by omega, by omega⟩ (fun H locs hG => ?_)
  refine lv_icmp_eq (tgt := 1805) hx hb dL_law_1676 (by decide) (fun c1 => ?_) (fun c1 => absurd rfl c1)
  refine W.widen (k := 48 + 17 * (j + 1)) (n := 16900 + 2606 * (j + 1)) (by omega) (by omega) ?_
  exact hnext a am ad uh ur un us' uo uv' fo wp wk0 wk1 pu u0 u1 n0 n1 hrel hpap hk0 hk1 H locs ls hG hl
set_option maxRecDepth 100000 in
set_option maxHeartbeats 4000000 in
theorem law_c38 (Rel : Nat → HS → NS → OS → HS → NS → HS → NS → MS → Prop) (hR : RS_second Rel) {p : Program} {l : Launch} {e : Env} {s : State} {m : MethodId} {below : List Frame} {meth : Method} {c : Code} {D : va_G} {κ : Nat → ClassId} {b L : Nat} {xs : Nat → Int32} (hL : L ≤ 2560) (C9 : lw_At p s m meth c b L xs) (hK : va_K D vwCl (xT κ) s) (j : Nat) (hj : 5 * j + 5 ≤ L) (hnext : LAt Rel D κ p l e s m below meth c b 1805 j (j + 1)) : LAt Rel D κ p l e s m below meth c b 1681 j j := by
  obtain ⟨hx, hb, hr, hml, hown, hts0, hX, hbl, hlocks, hgv⟩ := C9
  have hts : ∀ w ∈ wsLL, w.before #[Value.ref b] s = true := fun w h => hts0 w (xlw_LL w h)
  have hA : ∀ q : Nat, s.heap.size ≤ q → (fun q : Nat => s.heap.size ≤ q) q := fun _ h => h
  intro a am ad uh ur un us uo uv fo wp wk0 wk1 pu u0 u1 n0 n1 hrel hpap hk0 hk1 H locs ls hG hl
  have hcc : 48 + 17 * (j + 1) ≤ room_1.cells := by show _ ≤ 601024; omega
  have hss : 16900 + 2606 * (j + 1) ≤ room_1.slots := by show _ ≤ 7293034; omega
  refine lv_aload_n hx hb dL_law_1681 rfl (lv_at hl 1 rfl) ?_
  refine lv_aload_n hx hb dL_law_1682 rfl (lv_at hl 0 rfl) ?_
  refine lv_iload hx hb dL_law_1683 (lv_at hl 4 rfl) ?_
  refine lv_iconst (v := 1) hx hb dL_law_1685 (by decide) ?_
  refine lv_iadd hx hb dL_law_1686 ?_
  refine x_sld (kn := 1) (by decide) (by decide) hj hL hx hb hX hbl hG.2.2 dL_law_1687 (fun x5_1 ex5_1 => ?_)
  refine lv_aload_n hx hb dL_law_1688 rfl (lv_at hl 0 rfl) ?_
  refine lv_iload hx hb dL_law_1689 (lv_at hl 4 rfl) ?_
  refine lv_iconst (v := 2) hx hb dL_law_1691 (by decide) ?_
  refine lv_iadd hx hb dL_law_1692 ?_
  refine x_sld (kn := 2) (by decide) (by decide) hj hL hx hb hX hbl hG.2.2 dL_law_1693 (fun x10_2 ex10_2 => ?_)
  obtain ⟨r, us', uv', hf4, hf5, hrel⟩ := hR j x5_1 x10_2 uh ur un us uo u0 n0 u1 n1 uv (by omega) hrel
  refine x_callVi (pre := []) (wc := WH κ a uh ++ (WR κ a ur ++ (WN κ a un ++ (WS κ a us ++ WO κ a uo)))) (wc1 := WH κ a uh ++ (WR κ a ur ++ (WN κ a un ++ (WS κ a us' ++ WO κ a uo)))) (post := WM κ am uv ++ ([(ad, .inl (κ 1, 1, .inr (.inl fo)))] ++ (wp ++ (wk0 ++ wk1)))) (As := [.int x5_1, .int x10_2]) (rest := []) (w1 := LW κ a am ad uh ur un us' uo uv fo wp wk0 wk1) ⟨hx, hb, hml, hown, hts⟩ hK hG hA rfl rfl (c_X4_second l D κ a H.size x5_1 x10_2 uh ur un us uo r us' hf4) (cwV 2 hts xG_X4_second rfl rfl rfl (by decide +kernel) ⟨Nat.le_of_ble_eq_true rfl, Nat.le_of_ble_eq_true rfl⟩) 25 4 rfl rfl rfl rfl hl.1 rfl (Nat.le_of_ble_eq_true rfl) dL_law_1694 ⟨by omega, by omega⟩ (fun H locs hG => ?_)
  refine lv_aload_n hx hb dL_law_1697 rfl (lv_at hl 2 rfl) ?_
  refine lv_aload_n hx hb dL_law_1698 rfl (lv_at hl 0 rfl) ?_
  refine lv_iload hx hb dL_law_1699 (lv_at hl 4 rfl) ?_
  refine lv_iconst (v := 1) hx hb dL_law_1701 (by decide) ?_
  refine lv_iadd hx hb dL_law_1702 ?_
  refine x_sld (kn := 1) (by decide) (by decide) hj hL hx hb hX hbl hG.2.2 dL_law_1703 (fun x18_1 ex18_1 => ?_)
  refine lv_aload_n hx hb dL_law_1704 rfl (lv_at hl 0 rfl) ?_
  refine lv_iload hx hb dL_law_1705 (lv_at hl 4 rfl) ?_
  refine lv_iconst (v := 2) hx hb dL_law_1707 (by decide) ?_
  refine lv_iadd hx hb dL_law_1708 ?_
  refine x_sld (kn := 2) (by decide) (by decide) hj hL hx hb hX hbl hG.2.2 dL_law_1709 (fun x23_2 ex23_2 => ?_)
  obtain rfl : x18_1 = x5_1 := ex18_1.trans ex5_1.symm
  obtain rfl : x23_2 = x10_2 := ex23_2.trans ex10_2.symm
  refine x_callVi (pre := WH κ a uh ++ (WR κ a ur ++ (WN κ a un ++ (WS κ a us' ++ WO κ a uo)))) (wc := WM κ am uv) (wc1 := WM κ am uv') (post := ([(ad, .inl (κ 1, 1, .inr (.inl fo)))] ++ (wp ++ (wk0 ++ wk1)))) (As := [.int x5_1, .int x10_2]) (rest := [.int r]) (w1 := LW κ a am ad uh ur un us' uo uv' fo wp wk0 wk1) ⟨hx, hb, hml, hown, hts⟩ hK hG hA rfl rfl (c_X5_second l D κ am H.size x5_1 x10_2 uv r uv' hf5) (cwV 2 hts xG_X5_second rfl rfl rfl (by decide +kernel) ⟨Nat.le_of_ble_eq_true rfl, Nat.le_of_ble_eq_true rfl⟩) 0 5 rfl rfl rfl rfl hl.1 rfl (Nat.le_of_ble_eq_true rfl) dL_law_1710 ⟨by omega, by omega⟩ (fun H locs hG => ?_)
  refine lv_icmp_eq (tgt := 1805) hx hb dL_law_1713 (by decide) (fun c1 => ?_) (fun c1 => absurd rfl c1)
  refine W.widen (k := 48 + 17 * (j + 1)) (n := 16900 + 2606 * (j + 1)) (by omega) (by omega) ?_
  exact hnext a am ad uh ur un us' uo uv' fo wp wk0 wk1 pu u0 u1 n0 n1 hrel hpap hk0 hk1 H locs ls hG hl
set_option maxRecDepth 100000 in
set_option maxHeartbeats 4000000 in
theorem law_c39 (Rel : Nat → HS → NS → OS → HS → NS → HS → NS → MS → Prop) (hR : RS_center Rel) {p : Program} {l : Launch} {e : Env} {s : State} {m : MethodId} {below : List Frame} {meth : Method} {c : Code} {D : va_G} {κ : Nat → ClassId} {b L : Nat} {xs : Nat → Int32} (hL : L ≤ 2560) (C9 : lw_At p s m meth c b L xs) (hK : va_K D vwCl (xT κ) s) (j : Nat) (hj : 5 * j + 5 ≤ L) (hnext : LAt Rel D κ p l e s m below meth c b 1805 j (j + 1)) : LAt Rel D κ p l e s m below meth c b 1718 j j := by
  obtain ⟨hx, hb, hr, hml, hown, hts0, hX, hbl, hlocks, hgv⟩ := C9
  have hts : ∀ w ∈ wsLL, w.before #[Value.ref b] s = true := fun w h => hts0 w (xlw_LL w h)
  have hA : ∀ q : Nat, s.heap.size ≤ q → (fun q : Nat => s.heap.size ≤ q) q := fun _ h => h
  intro a am ad uh ur un us uo uv fo wp wk0 wk1 pu u0 u1 n0 n1 hrel hpap hk0 hk1 H locs ls hG hl
  have hcc : 48 + 17 * (j + 1) ≤ room_1.cells := by show _ ≤ 601024; omega
  have hss : 16900 + 2606 * (j + 1) ≤ room_1.slots := by show _ ≤ 7293034; omega
  refine lv_aload_n hx hb dL_law_1718 rfl (lv_at hl 1 rfl) ?_
  refine lv_aload_n hx hb dL_law_1719 rfl (lv_at hl 0 rfl) ?_
  refine lv_iload hx hb dL_law_1720 (lv_at hl 4 rfl) ?_
  refine lv_iconst (v := 1) hx hb dL_law_1722 (by decide) ?_
  refine lv_iadd hx hb dL_law_1723 ?_
  refine x_sld (kn := 1) (by decide) (by decide) hj hL hx hb hX hbl hG.2.2 dL_law_1724 (fun x5_1 ex5_1 => ?_)
  obtain ⟨r, us', uv', hf4, hf5, hrel⟩ := hR j x5_1 uh ur un us uo u0 n0 u1 n1 uv (by omega) hrel
  refine x_callVi (pre := []) (wc := WH κ a uh ++ (WR κ a ur ++ (WN κ a un ++ (WS κ a us ++ WO κ a uo)))) (wc1 := WH κ a uh ++ (WR κ a ur ++ (WN κ a un ++ (WS κ a us' ++ WO κ a uo)))) (post := WM κ am uv ++ ([(ad, .inl (κ 1, 1, .inr (.inl fo)))] ++ (wp ++ (wk0 ++ wk1)))) (As := [.int x5_1]) (rest := []) (w1 := LW κ a am ad uh ur un us' uo uv fo wp wk0 wk1) ⟨hx, hb, hml, hown, hts⟩ hK hG hA rfl rfl (c_X4_center l D κ a H.size x5_1 uh ur un us uo r us' hf4) (cwV 1 hts xG_X4_center rfl rfl rfl (by decide +kernel) ⟨Nat.le_of_ble_eq_true rfl, Nat.le_of_ble_eq_true rfl⟩) 25 4 rfl rfl rfl rfl hl.1 rfl (Nat.le_of_ble_eq_true rfl) dL_law_1725 ⟨by omega, by omega⟩ (fun H locs hG => ?_)
  refine lv_aload_n hx hb dL_law_1728 rfl (lv_at hl 2 rfl) ?_
  refine lv_aload_n hx hb dL_law_1729 rfl (lv_at hl 0 rfl) ?_
  refine lv_iload hx hb dL_law_1730 (lv_at hl 4 rfl) ?_
  refine lv_iconst (v := 1) hx hb dL_law_1732 (by decide) ?_
  refine lv_iadd hx hb dL_law_1733 ?_
  refine x_sld (kn := 1) (by decide) (by decide) hj hL hx hb hX hbl hG.2.2 dL_law_1734 (fun x13_1 ex13_1 => ?_)
  obtain rfl : x13_1 = x5_1 := ex13_1.trans ex5_1.symm
  refine x_callVi (pre := WH κ a uh ++ (WR κ a ur ++ (WN κ a un ++ (WS κ a us' ++ WO κ a uo)))) (wc := WM κ am uv) (wc1 := WM κ am uv') (post := ([(ad, .inl (κ 1, 1, .inr (.inl fo)))] ++ (wp ++ (wk0 ++ wk1)))) (As := [.int x5_1]) (rest := [.int r]) (w1 := LW κ a am ad uh ur un us' uo uv' fo wp wk0 wk1) ⟨hx, hb, hml, hown, hts⟩ hK hG hA rfl rfl (c_X5_center l D κ am H.size x5_1 uv r uv' hf5) (cwV 1 hts xG_X5_center rfl rfl rfl (by decide +kernel) ⟨Nat.le_of_ble_eq_true rfl, Nat.le_of_ble_eq_true rfl⟩) 0 5 rfl rfl rfl rfl hl.1 rfl (Nat.le_of_ble_eq_true rfl) dL_law_1735 ⟨by omega, by omega⟩ (fun H locs hG => ?_)
  refine lv_icmp_eq (tgt := 1805) hx hb dL_law_1738 (by decide) (fun c1 => ?_) (fun c1 => absurd rfl c1)
  refine W.widen (k := 48 + 17 * (j + 1)) (n := 16900 + 2606 * (j + 1)) (by omega) (by omega) ?_
  exact hnext a am ad uh ur un us' uo uv' fo wp wk0 wk1 pu u0 u1 n0 n1 hrel hpap hk0 hk1 H locs ls hG hl
set_option maxRecDepth 100000 in
set_option maxHeartbeats 4000000 in
theorem law_c40 (Rel : Nat → HS → NS → OS → HS → NS → HS → NS → MS → Prop) (hR : RS_arcs Rel) {p : Program} {l : Launch} {e : Env} {s : State} {m : MethodId} {below : List Frame} {meth : Method} {c : Code} {D : va_G} {κ : Nat → ClassId} {b L : Nat} {xs : Nat → Int32} (hL : L ≤ 2560) (C9 : lw_At p s m meth c b L xs) (hK : va_K D vwCl (xT κ) s) (j : Nat) (hj : 5 * j + 5 ≤ L) (hnext : LAt Rel D κ p l e s m below meth c b 1805 j (j + 1)) : LAt Rel D κ p l e s m below meth c b 1743 j j := by
  obtain ⟨hx, hb, hr, hml, hown, hts0, hX, hbl, hlocks, hgv⟩ := C9
  have hts : ∀ w ∈ wsLL, w.before #[Value.ref b] s = true := fun w h => hts0 w (xlw_LL w h)
  have hA : ∀ q : Nat, s.heap.size ≤ q → (fun q : Nat => s.heap.size ≤ q) q := fun _ h => h
  intro a am ad uh ur un us uo uv fo wp wk0 wk1 pu u0 u1 n0 n1 hrel hpap hk0 hk1 H locs ls hG hl
  have hcc : 48 + 17 * (j + 1) ≤ room_1.cells := by show _ ≤ 601024; omega
  have hss : 16900 + 2606 * (j + 1) ≤ room_1.slots := by show _ ≤ 7293034; omega
  refine lv_aload_n hx hb dL_law_1743 rfl (lv_at hl 1 rfl) ?_
  refine lv_aload_n hx hb dL_law_1744 rfl (lv_at hl 0 rfl) ?_
  refine lv_iload hx hb dL_law_1745 (lv_at hl 4 rfl) ?_
  refine lv_iconst (v := 1) hx hb dL_law_1747 (by decide) ?_
  refine lv_iadd hx hb dL_law_1748 ?_
  refine x_sld (kn := 1) (by decide) (by decide) hj hL hx hb hX hbl hG.2.2 dL_law_1749 (fun x5_1 ex5_1 => ?_)
  refine lv_aload_n hx hb dL_law_1750 rfl (lv_at hl 0 rfl) ?_
  refine lv_iload hx hb dL_law_1751 (lv_at hl 4 rfl) ?_
  refine lv_iconst (v := 2) hx hb dL_law_1753 (by decide) ?_
  refine lv_iadd hx hb dL_law_1754 ?_
  refine x_sld (kn := 2) (by decide) (by decide) hj hL hx hb hX hbl hG.2.2 dL_law_1755 (fun x10_2 ex10_2 => ?_)
  obtain ⟨r, uv', hf4, hf5, hrel⟩ := hR j x5_1 x10_2 uh ur un us uo u0 n0 u1 n1 uv (by omega) hrel
  refine x_callVi (pre := []) (wc := WH κ a uh ++ (WR κ a ur ++ (WN κ a un ++ (WS κ a us ++ WO κ a uo)))) (wc1 := WH κ a uh ++ (WR κ a ur ++ (WN κ a un ++ (WS κ a us ++ WO κ a uo)))) (post := WM κ am uv ++ ([(ad, .inl (κ 1, 1, .inr (.inl fo)))] ++ (wp ++ (wk0 ++ wk1)))) (As := [.int x5_1, .int x10_2]) (rest := []) (w1 := LW κ a am ad uh ur un us uo uv fo wp wk0 wk1) ⟨hx, hb, hml, hown, hts⟩ hK hG hA rfl rfl (c_X4_arcs l D κ a H.size x5_1 x10_2 uh ur un us uo r  hf4) (cwV 2 hts xG_X4_arcs rfl rfl rfl (by decide +kernel) ⟨Nat.le_of_ble_eq_true rfl, Nat.le_of_ble_eq_true rfl⟩) 25 4 rfl rfl rfl rfl hl.1 rfl (Nat.le_of_ble_eq_true rfl) dL_law_1756 ⟨by omega, by omega⟩ (fun H locs hG => ?_)
  refine lv_aload_n hx hb dL_law_1759 rfl (lv_at hl 2 rfl) ?_
  refine lv_aload_n hx hb dL_law_1760 rfl (lv_at hl 0 rfl) ?_
  refine lv_iload hx hb dL_law_1761 (lv_at hl 4 rfl) ?_
  refine lv_iconst (v := 1) hx hb dL_law_1763 (by decide) ?_
  refine lv_iadd hx hb dL_law_1764 ?_
  refine x_sld (kn := 1) (by decide) (by decide) hj hL hx hb hX hbl hG.2.2 dL_law_1765 (fun x18_1 ex18_1 => ?_)
  refine lv_aload_n hx hb dL_law_1766 rfl (lv_at hl 0 rfl) ?_
  refine lv_iload hx hb dL_law_1767 (lv_at hl 4 rfl) ?_
  refine lv_iconst (v := 2) hx hb dL_law_1769 (by decide) ?_
  refine lv_iadd hx hb dL_law_1770 ?_
  refine x_sld (kn := 2) (by decide) (by decide) hj hL hx hb hX hbl hG.2.2 dL_law_1771 (fun x23_2 ex23_2 => ?_)
  obtain rfl : x18_1 = x5_1 := ex18_1.trans ex5_1.symm
  obtain rfl : x23_2 = x10_2 := ex23_2.trans ex10_2.symm
  refine x_callVi (pre := WH κ a uh ++ (WR κ a ur ++ (WN κ a un ++ (WS κ a us ++ WO κ a uo)))) (wc := WM κ am uv) (wc1 := WM κ am uv') (post := ([(ad, .inl (κ 1, 1, .inr (.inl fo)))] ++ (wp ++ (wk0 ++ wk1)))) (As := [.int x5_1, .int x10_2]) (rest := [.int r]) (w1 := LW κ a am ad uh ur un us uo uv' fo wp wk0 wk1) ⟨hx, hb, hml, hown, hts⟩ hK hG hA rfl rfl (c_X5_arcs l D κ am H.size x5_1 x10_2 uv r uv' hf5) (cwV 2 hts xG_X5_arcs rfl rfl rfl (by decide +kernel) ⟨Nat.le_of_ble_eq_true rfl, Nat.le_of_ble_eq_true rfl⟩) 0 5 rfl rfl rfl rfl hl.1 rfl (Nat.le_of_ble_eq_true rfl) dL_law_1772 ⟨by omega, by omega⟩ (fun H locs hG => ?_)
  refine lv_icmp_eq (tgt := 1805) hx hb dL_law_1775 (by decide) (fun c1 => ?_) (fun c1 => absurd rfl c1)
  refine W.widen (k := 48 + 17 * (j + 1)) (n := 16900 + 2606 * (j + 1)) (by omega) (by omega) ?_
  exact hnext a am ad uh ur un us uo uv' fo wp wk0 wk1 pu u0 u1 n0 n1 hrel hpap hk0 hk1 H locs ls hG hl
set_option maxRecDepth 100000 in
set_option maxHeartbeats 4000000 in
theorem law_c41 (Rel : Nat → HS → NS → OS → HS → NS → HS → NS → MS → Prop) (hR : RS_count Rel) {p : Program} {l : Launch} {e : Env} {s : State} {m : MethodId} {below : List Frame} {meth : Method} {c : Code} {D : va_G} {κ : Nat → ClassId} {b L : Nat} {xs : Nat → Int32} (hL : L ≤ 2560) (C9 : lw_At p s m meth c b L xs) (hK : va_K D vwCl (xT κ) s) (j : Nat) (hj : 5 * j + 5 ≤ L) (hnext : LAt Rel D κ p l e s m below meth c b 1805 j (j + 1)) : LAt Rel D κ p l e s m below meth c b 1780 j j := by
  obtain ⟨hx, hb, hr, hml, hown, hts0, hX, hbl, hlocks, hgv⟩ := C9
  have hts : ∀ w ∈ wsLL, w.before #[Value.ref b] s = true := fun w h => hts0 w (xlw_LL w h)
  have hA : ∀ q : Nat, s.heap.size ≤ q → (fun q : Nat => s.heap.size ≤ q) q := fun _ h => h
  intro a am ad uh ur un us uo uv fo wp wk0 wk1 pu u0 u1 n0 n1 hrel hpap hk0 hk1 H locs ls hG hl
  have hcc : 48 + 17 * (j + 1) ≤ room_1.cells := by show _ ≤ 601024; omega
  have hss : 16900 + 2606 * (j + 1) ≤ room_1.slots := by show _ ≤ 7293034; omega
  refine lv_aload_n hx hb dL_law_1780 rfl (lv_at hl 1 rfl) ?_
  refine lv_aload_n hx hb dL_law_1781 rfl (lv_at hl 0 rfl) ?_
  refine lv_iload hx hb dL_law_1782 (lv_at hl 4 rfl) ?_
  refine lv_iconst (v := 1) hx hb dL_law_1784 (by decide) ?_
  refine lv_iadd hx hb dL_law_1785 ?_
  refine x_sld (kn := 1) (by decide) (by decide) hj hL hx hb hX hbl hG.2.2 dL_law_1786 (fun x5_1 ex5_1 => ?_)
  obtain ⟨r, uv', hf4, hf5, hrel⟩ := hR j x5_1 uh ur un us uo u0 n0 u1 n1 uv (by omega) hrel
  refine x_callVi (pre := []) (wc := WH κ a uh ++ (WR κ a ur ++ (WN κ a un ++ (WS κ a us ++ WO κ a uo)))) (wc1 := WH κ a uh ++ (WR κ a ur ++ (WN κ a un ++ (WS κ a us ++ WO κ a uo)))) (post := WM κ am uv ++ ([(ad, .inl (κ 1, 1, .inr (.inl fo)))] ++ (wp ++ (wk0 ++ wk1)))) (As := [.int x5_1]) (rest := []) (w1 := LW κ a am ad uh ur un us uo uv fo wp wk0 wk1) ⟨hx, hb, hml, hown, hts⟩ hK hG hA rfl rfl (c_X4_count l D κ a H.size x5_1 uh ur un us uo r  hf4) (cwV 1 hts xG_X4_count rfl rfl rfl (by decide +kernel) ⟨Nat.le_of_ble_eq_true rfl, Nat.le_of_ble_eq_true rfl⟩) 25 4 rfl rfl rfl rfl hl.1 rfl (Nat.le_of_ble_eq_true rfl) dL_law_1787 ⟨by omega, by omega⟩ (fun H locs hG => ?_)
  refine lv_aload_n hx hb dL_law_1790 rfl (lv_at hl 2 rfl) ?_
  refine lv_aload_n hx hb dL_law_1791 rfl (lv_at hl 0 rfl) ?_
  refine lv_iload hx hb dL_law_1792 (lv_at hl 4 rfl) ?_
  refine lv_iconst (v := 1) hx hb dL_law_1794 (by decide) ?_
  refine lv_iadd hx hb dL_law_1795 ?_
  refine x_sld (kn := 1) (by decide) (by decide) hj hL hx hb hX hbl hG.2.2 dL_law_1796 (fun x13_1 ex13_1 => ?_)
  obtain rfl : x13_1 = x5_1 := ex13_1.trans ex5_1.symm
  refine x_callVi (pre := WH κ a uh ++ (WR κ a ur ++ (WN κ a un ++ (WS κ a us ++ WO κ a uo)))) (wc := WM κ am uv) (wc1 := WM κ am uv') (post := ([(ad, .inl (κ 1, 1, .inr (.inl fo)))] ++ (wp ++ (wk0 ++ wk1)))) (As := [.int x5_1]) (rest := [.int r]) (w1 := LW κ a am ad uh ur un us uo uv' fo wp wk0 wk1) ⟨hx, hb, hml, hown, hts⟩ hK hG hA rfl rfl (c_X5_count l D κ am H.size x5_1 uv r uv' hf5) (cwV 1 hts xG_X5_count rfl rfl rfl (by decide +kernel) ⟨Nat.le_of_ble_eq_true rfl, Nat.le_of_ble_eq_true rfl⟩) 0 5 rfl rfl rfl rfl hl.1 rfl (Nat.le_of_ble_eq_true rfl) dL_law_1797 ⟨by omega, by omega⟩ (fun H locs hG => ?_)
  refine lv_icmp_eq (tgt := 1805) hx hb dL_law_1800 (by decide) (fun c1 => ?_) (fun c1 => absurd rfl c1)
  refine W.widen (k := 48 + 17 * (j + 1)) (n := 16900 + 2606 * (j + 1)) (by omega) (by omega) ?_
  exact hnext a am ad uh ur un us uo uv' fo wp wk0 wk1 pu u0 u1 n0 n1 hrel hpap hk0 hk1 H locs ls hG hl
