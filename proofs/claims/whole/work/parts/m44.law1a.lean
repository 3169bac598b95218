set_option maxRecDepth 100000 in
set_option maxHeartbeats 4000000 in
theorem law_c0 (Rel : Nat → HS → NS → OS → HS → NS → HS → NS → MS → Prop) (hR : RS_enter Rel) {p : Program} {l : Launch} {e : Env} {s : State} {m : MethodId} {below : List Frame} {meth : Method} {c : Code} {D : va_G} {κ : Nat → ClassId} {b L : Nat} {xs : Nat → Int32} (hL : L ≤ 2560) (C9 : lw_At p s m meth c b L xs) (hK : va_K D vwCl (xT κ) s) (j : Nat) (hj : 5 * j + 5 ≤ L) (hnext : LAt Rel D κ p l e s m below meth c b 1805 j (j + 1)) : LAt Rel D κ p l e s m below meth c b 220 j j := by
  obtain ⟨hx, hb, hr, hml, hown, hts0, hX, hbl, hlocks, hgv⟩ := C9
  have hts : ∀ w ∈ wsLL, w.before #[Value.ref b] s = true := fun w h => hts0 w (xlw_LL w h)
  have hA : ∀ q : Nat, s.heap.size ≤ q → (fun q : Nat => s.heap.size ≤ q) q := fun _ h => h
  intro a am ad uh ur un us uo uv fo wp wk0 wk1 pu u0 u1 n0 n1 hrel hpap hk0 hk1 H locs ls hG hl
  have hcc : 48 + 17 * (j + 1) ≤ room_1.cells := by show _ ≤ 601024; omega
  have hss : 16900 + 2606 * (j + 1) ≤ room_1.slots := by show _ ≤ 7293034; omega
  refine lv_aload_n hx hb dL_law_220 rfl (lv_at hl 1 rfl) ?_
  refine lv_aload_n hx hb dL_law_221 rfl (lv_at hl 0 rfl) ?_
  refine lv_iload hx hb dL_law_222 (lv_at hl 4 rfl) ?_
  refine lv_iconst (v := 1) hx hb dL_law_224 (by decide) ?_
  refine lv_iadd hx hb dL_law_225 ?_
  refine x_sld (kn := 1) (by decide) (by decide) hj hL hx hb hX hbl hG.2.2 dL_law_226 (fun x5_1 ex5_1 => ?_)
  refine lv_aload_n hx hb dL_law_227 rfl (lv_at hl 0 rfl) ?_
  refine lv_iload hx hb dL_law_228 (lv_at hl 4 rfl) ?_
  refine lv_iconst (v := 2) hx hb dL_law_230 (by decide) ?_
  refine lv_iadd hx hb dL_law_231 ?_
  refine x_sld (kn := 2) (by decide) (by decide) hj hL hx hb hX hbl hG.2.2 dL_law_232 (fun x10_2 ex10_2 => ?_)
  refine lv_aload_n hx hb dL_law_233 rfl (lv_at hl 0 rfl) ?_
  refine lv_iload hx hb dL_law_234 (lv_at hl 4 rfl) ?_
  refine lv_iconst (v := 3) hx hb dL_law_236 (by decide) ?_
  refine lv_iadd hx hb dL_law_237 ?_
  refine x_sld (kn := 3) (by decide) (by decide) hj hL hx hb hX hbl hG.2.2 dL_law_238 (fun x15_3 ex15_3 => ?_)
  obtain ⟨r, uh', uo', uv', hf4, hf5, hrel, hkh, hkn, hpp⟩ := hR j x5_1 x10_2 x15_3 uh ur un us uo u0 n0 u1 n1 uv (by omega) hrel
  refine x_callVi (pre := []) (wc := WH κ a uh ++ (WR κ a ur ++ (WN κ a un ++ (WS κ a us ++ WO κ a uo)))) (wc1 := WH κ a uh' ++ (WR κ a ur ++ (WN κ a un ++ (WS κ a us ++ WO κ a uo')))) (post := WM κ am uv ++ ([(ad, .inl (κ 1, 1, .inr (.inl fo)))] ++ (wp ++ (wk0 ++ wk1)))) (As := [.int x5_1, .int x10_2, .int x15_3]) (rest := []) (w1 := LW κ a am ad uh' ur un us uo' uv fo wp wk0 wk1) ⟨hx, hb, hml, hown, hts⟩ hK hG hA rfl rfl (c_X4_enter l D κ a H.size x5_1 x10_2 x15_3 uh ur un us uo r uh' uo' hf4) (cwV 3 hts xG_X4_enter rfl rfl rfl (by decide +kernel) ⟨Nat.le_of_ble_eq_true rfl, Nat.le_of_ble_eq_true rfl⟩) 25 4 rfl rfl rfl rfl hl.1 rfl (Nat.le_of_ble_eq_true rfl) dL_law_239 ⟨by omega, by omega⟩ (fun H locs hG => ?_)
  refine lv_aload_n hx hb dL_law_242 rfl (lv_at hl 2 rfl) ?_
  refine lv_aload_n hx hb dL_law_243 rfl (lv_at hl 0 rfl) ?_
  refine lv_iload hx hb dL_law_244 (lv_at hl 4 rfl) ?_
  refine lv_iconst (v := 1) hx hb dL_law_246 (by decide) ?_
  refine lv_iadd hx hb dL_law_247 ?_
  refine x_sld (kn := 1) (by decide) (by decide) hj hL hx hb hX hbl hG.2.2 dL_law_248 (fun x23_1 ex23_1 => ?_)
  refine lv_aload_n hx hb dL_law_249 rfl (lv_at hl 0 rfl) ?_
  refine lv_iload hx hb dL_law_250 (lv_at hl 4 rfl) ?_
  refine lv_iconst (v := 2) hx hb dL_law_252 (by decide) ?_
  refine lv_iadd hx hb dL_law_253 ?_
  refine x_sld (kn := 2) (by decide) (by decide) hj hL hx hb hX hbl hG.2.2 dL_law_254 (fun x28_2 ex28_2 => ?_)
  refine lv_aload_n hx hb dL_law_255 rfl (lv_at hl 0 rfl) ?_
  refine lv_iload hx hb dL_law_256 (lv_at hl 4 rfl) ?_
  refine lv_iconst (v := 3) hx hb dL_law_258 (by decide) ?_
  refine lv_iadd hx hb dL_law_259 ?_
  refine x_sld (kn := 3) (by decide) (by decide) hj hL hx hb hX hbl hG.2.2 dL_law_260 (fun x33_3 ex33_3 => ?_)
  obtain rfl : x5_1 = x23_1 := ex5_1.trans ex23_1.symm
  obtain rfl : x10_2 = x28_2 := ex10_2.trans ex28_2.symm
  obtain rfl : x15_3 = x33_3 := ex15_3.trans ex33_3.symm
  refine x_callVi (pre := WH κ a uh' ++ (WR κ a ur ++ (WN κ a un ++ (WS κ a us ++ WO κ a uo')))) (wc := WM κ am uv) (wc1 := WM κ am uv') (post := ([(ad, .inl (κ 1, 1, .inr (.inl fo)))] ++ (wp ++ (wk0 ++ wk1)))) (As := [.int x5_1, .int x10_2, .int x15_3]) (rest := [.int r]) (w1 := LW κ a am ad uh' ur un us uo' uv' fo wp wk0 wk1) ⟨hx, hb, hml, hown, hts⟩ hK hG hA rfl rfl (c_X5_enter l D κ am H.size x5_1 x10_2 x15_3 uv r uv' hf5) (cwV 3 hts xG_X5_enter rfl rfl rfl (by decide +kernel) ⟨Nat.le_of_ble_eq_true rfl, Nat.le_of_ble_eq_true rfl⟩) 0 5 rfl rfl rfl rfl hl.1 rfl (Nat.le_of_ble_eq_true rfl) dL_law_261 ⟨by omega, by omega⟩ (fun H locs hG => ?_)
  refine lv_icmp_eq (tgt := 1805) hx hb dL_law_264 (by decide) (fun c1 => ?_) (fun c1 => absurd rfl c1)
  refine W.widen (k := 48 + 17 * (j + 1)) (n := 16900 + 2606 * (j + 1)) (by omega) (by omega) ?_
  exact hnext a am ad uh' ur un us uo' uv' fo wp wk0 wk1 pu u0 u1 n0 n1 hrel (by rw [hpp]; exact hpap) (by rw [hkh, hkn]; exact hk0) (by rw [hkh, hkn]; exact hk1) H locs ls hG hl
set_option maxRecDepth 100000 in
set_option maxHeartbeats 4000000 in
theorem law_c1 (Rel : Nat → HS → NS → OS → HS → NS → HS → NS → MS → Prop) (hR : RS_take Rel) {p : Program} {l : Launch} {e : Env} {s : State} {m : MethodId} {below : List Frame} {meth : Method} {c : Code} {D : va_G} {κ : Nat → ClassId} {b L : Nat} {xs : Nat → Int32} (hL : L ≤ 2560) (C9 : lw_At p s m meth c b L xs) (hK : va_K D vwCl (xT κ) s) (j : Nat) (hj : 5 * j + 5 ≤ L) (hnext : LAt Rel D κ p l e s m below meth c b 1805 j (j + 1)) : LAt Rel D κ p l e s m below meth c b 269 j j := by
  obtain ⟨hx, hb, hr, hml, hown, hts0, hX, hbl, hlocks, hgv⟩ := C9
  have hts : ∀ w ∈ wsLL, w.before #[Value.ref b] s = true := fun w h => hts0 w (xlw_LL w h)
  have hA : ∀ q : Nat, s.heap.size ≤ q → (fun q : Nat => s.heap.size ≤ q) q := fun _ h => h
  intro a am ad uh ur un us uo uv fo wp wk0 wk1 pu u0 u1 n0 n1 hrel hpap hk0 hk1 H locs ls hG hl
  have hcc : 48 + 17 * (j + 1) ≤ room_1.cells := by show _ ≤ 601024; omega
  have hss : 16900 + 2606 * (j + 1) ≤ room_1.slots := by show _ ≤ 7293034; omega
  refine lv_aload_n hx hb dL_law_269 rfl (lv_at hl 1 rfl) ?_
  refine lv_aload_n hx hb dL_law_270 rfl (lv_at hl 0 rfl) ?_
  refine lv_iload hx hb dL_law_271 (lv_at hl 4 rfl) ?_
  refine lv_iconst (v := 1) hx hb dL_law_273 (by decide) ?_
  refine lv_iadd hx hb dL_law_274 ?_
  refine x_sld (kn := 1) (by decide) (by decide) hj hL hx hb hX hbl hG.2.2 dL_law_275 (fun x5_1 ex5_1 => ?_)
  obtain ⟨r, uh', uo', uv', hf4, hf5, hrel, hkh, hkn, hpp⟩ := hR j x5_1 uh ur un us uo u0 n0 u1 n1 uv (by omega) hrel
  refine x_callVi (pre := []) (wc := WH κ a uh ++ (WR κ a ur ++ (WN κ a un ++ (WS κ a us ++ WO κ a uo)))) (wc1 := WH κ a uh' ++ (WR κ a ur ++ (WN κ a un ++ (WS κ a us ++ WO κ a uo')))) (post := WM κ am uv ++ ([(ad, .inl (κ 1, 1, .inr (.inl fo)))] ++ (wp ++ (wk0 ++ wk1)))) (As := [.int x5_1]) (rest := []) (w1 := LW κ a am ad uh' ur un us uo' uv fo wp wk0 wk1) ⟨hx, hb, hml, hown, hts⟩ hK hG hA rfl rfl (c_X4_take l D κ a H.size x5_1 uh ur un us uo r uh' uo' hf4) (cwV 1 hts xG_X4_take rfl rfl rfl (by decide +kernel) ⟨Nat.le_of_ble_eq_true rfl, Nat.le_of_ble_eq_true rfl⟩) 25 4 rfl rfl rfl rfl hl.1 rfl (Nat.le_of_ble_eq_true rfl) dL_law_276 ⟨by omega, by omega⟩ (fun H locs hG => ?_)
  refine lv_aload_n hx hb dL_law_279 rfl (lv_at hl 2 rfl) ?_
  refine lv_aload_n hx hb dL_law_280 rfl (lv_at hl 0 rfl) ?_
  refine lv_iload hx hb dL_law_281 (lv_at hl 4 rfl) ?_
  refine lv_iconst (v := 1) hx hb dL_law_283 (by decide) ?_
  refine lv_iadd hx hb dL_law_284 ?_
  refine x_sld (kn := 1) (by decide) (by decide) hj hL hx hb hX hbl hG.2.2 dL_law_285 (fun x13_1 ex13_1 => ?_)
  obtain rfl : x5_1 = x13_1 := ex5_1.trans ex13_1.symm
  refine x_callVi (pre := WH κ a uh' ++ (WR κ a ur ++ (WN κ a un ++ (WS κ a us ++ WO κ a uo')))) (wc := WM κ am uv) (wc1 := WM κ am uv') (post := ([(ad, .inl (κ 1, 1, .inr (.inl fo)))] ++ (wp ++ (wk0 ++ wk1)))) (As := [.int x5_1]) (rest := [.int r]) (w1 := LW κ a am ad uh' ur un us uo' uv' fo wp wk0 wk1) ⟨hx, hb, hml, hown, hts⟩ hK hG hA rfl rfl (c_X5_take l D κ am H.size x5_1 uv r uv' hf5) (cwV 1 hts xG_X5_take rfl rfl rfl (by decide +kernel) ⟨Nat.le_of_ble_eq_true rfl, Nat.le_of_ble_eq_true rfl⟩) 0 5 rfl rfl rfl rfl hl.1 rfl (Nat.le_of_ble_eq_true rfl) dL_law_286 ⟨by omega, by omega⟩ (fun H locs hG => ?_)
  refine lv_icmp_eq (tgt := 1805) hx hb dL_law_289 (by decide) (fun c1 => ?_) (fun c1 => absurd rfl c1)
  refine W.widen (k := 48 + 17 * (j + 1)) (n := 16900 + 2606 * (j + 1)) (by omega) (by omega) ?_
  exact hnext a am ad uh' ur un us uo' uv' fo wp wk0 wk1 pu u0 u1 n0 n1 hrel (by rw [hpp]; exact hpap) (by rw [hkh, hkn]; exact hk0) (by rw [hkh, hkn]; exact hk1) H locs ls hG hl
set_option maxRecDepth 100000 in
set_option maxHeartbeats 4000000 in
theorem law_c2 (Rel : Nat → HS → NS → OS → HS → NS → HS → NS → MS → Prop) (hR : RS_round Rel) {p : Program} {l : Launch} {e : Env} {s : State} {m : MethodId} {below : List Frame} {meth : Method} {c : Code} {D : va_G} {κ : Nat → ClassId} {b L : Nat} {xs : Nat → Int32} (hL : L ≤ 2560) (C9 : lw_At p s m meth c b L xs) (hK : va_K D vwCl (xT κ) s) (j : Nat) (hj : 5 * j + 5 ≤ L) (hnext : LAt Rel D κ p l e s m below meth c b 1805 j (j + 1)) : LAt Rel D κ p l e s m below meth c b 294 j j := by
  obtain ⟨hx, hb, hr, hml, hown, hts0, hX, hbl, hlocks, hgv⟩ := C9
  have hts : ∀ w ∈ wsLL, w.before #[Value.ref b] s = true := fun w h => hts0 w (xlw_LL w h)
  have hA : ∀ q : Nat, s.heap.size ≤ q → (fun q : Nat => s.heap.size ≤ q) q := fun _ h => h
  intro a am ad uh ur un us uo uv fo wp wk0 wk1 pu u0 u1 n0 n1 hrel hpap hk0 hk1 H locs ls hG hl
  have hcc : 48 + 17 * (j + 1) ≤ room_1.cells := by show _ ≤ 601024; omega
  have hss : 16900 + 2606 * (j + 1) ≤ room_1.slots := by show _ ≤ 7293034; omega
  refine lv_aload_n hx hb dL_law_294 rfl (lv_at hl 1 rfl) ?_
  refine lv_aload_n hx hb dL_law_295 rfl (lv_at hl 0 rfl) ?_
  refine lv_iload hx hb dL_law_296 (lv_at hl 4 rfl) ?_
  refine lv_iconst (v := 1) hx hb dL_law_298 (by decide) ?_
  refine lv_iadd hx hb dL_law_299 ?_
  refine x_sld (kn := 1) (by decide) (by decide) hj hL hx hb hX hbl hG.2.2 dL_law_300 (fun x5_1 ex5_1 => ?_)
  obtain ⟨r, uh', uo', uv', hf4, hf5, hrel, hkh, hkn, hpp⟩ := hR j x5_1 uh ur un us uo u0 n0 u1 n1 uv (by omega) hrel
  refine x_callVi (pre := []) (wc := WH κ a uh ++ (WR κ a ur ++ (WN κ a un ++ (WS κ a us ++ WO κ a uo)))) (wc1 := WH κ a uh' ++ (WR κ a ur ++ (WN κ a un ++ (WS κ a us ++ WO κ a uo')))) (post := WM κ am uv ++ ([(ad, .inl (κ 1, 1, .inr (.inl fo)))] ++ (wp ++ (wk0 ++ wk1)))) (As := [.int x5_1]) (rest := []) (w1 := LW κ a am ad uh' ur un us uo' uv fo wp wk0 wk1) ⟨hx, hb, hml, hown, hts⟩ hK hG hA rfl rfl (c_X4_round l D κ a H.size x5_1 uh ur un us uo r uh' uo' hf4) (cwV 1 hts xG_X4_round rfl rfl rfl (by decide +kernel) ⟨Nat.le_of_ble_eq_true rfl, Nat.le_of_ble_eq_true rfl⟩) 25 4 rfl rfl rfl rfl hl.1 rfl (Nat.le_of_ble_eq_true rfl) dL_law_301 ⟨by omega, by omega⟩ (fun H locs hG => ?_)
  refine lv_aload_n hx hb dL_law_304 rfl (lv_at hl 2 rfl) ?_
  refine lv_aload_n hx hb dL_law_305 rfl (lv_at hl 0 rfl) ?_
  refine lv_iload hx hb dL_law_306 (lv_at hl 4 rfl) ?_
  refine lv_iconst (v := 1) hx hb dL_law_308 (by decide) ?_
  refine lv_iadd hx hb dL_law_309 ?_
  refine x_sld (kn := 1) (by decide) (by decide) hj hL hx hb hX hbl hG.2.2 dL_law_310 (fun x13_1 ex13_1 => ?_)
  obtain rfl : x5_1 = x13_1 := ex5_1.trans ex13_1.symm
  refine x_callVi (pre := WH κ a uh' ++ (WR κ a ur ++ (WN κ a un ++ (WS κ a us ++ WO κ a uo')))) (wc := WM κ am uv) (wc1 := WM κ am uv') (post := ([(ad, .inl (κ 1, 1, .inr (.inl fo)))] ++ (wp ++ (wk0 ++ wk1)))) (As := [.int x5_1]) (rest := [.int r]) (w1 := LW κ a am ad uh' ur un us uo' uv' fo wp wk0 wk1) ⟨hx, hb, hml, hown, hts⟩ hK hG hA rfl rfl (c_X5_round l D κ am H.size x5_1 uv r uv' hf5) (cwV 1 hts xG_X5_round rfl rfl rfl (by decide +kernel) ⟨Nat.le_of_ble_eq_true rfl, Nat.le_of_ble_eq_true rfl⟩) 0 5 rfl rfl rfl rfl hl.1 rfl (Nat.le_of_ble_eq_true rfl) dL_law_311 ⟨by omega, by omega⟩ (fun H locs hG => ?_)
  refine lv_icmp_eq (tgt := 1805) hx hb dL_law_314 (by decide) (fun c1 => ?_) (fun c1 => absurd rfl c1)
  refine W.widen (k := 48 + 17 * (j + 1)) (n := 16900 + 2606 * (j + 1)) (by omega) (by omega) ?_
  exact hnext a am ad uh' ur un us uo' uv' fo wp wk0 wk1 pu u0 u1 n0 n1 hrel (by rw [hpp]; exact hpap) (by rw [hkh, hkn]; exact hk0) (by rw [hkh, hkn]; exact hk1) H locs ls hG hl
set_option maxRecDepth 100000 in
set_option maxHeartbeats 4000000 in
theorem law_c3 (Rel : Nat → HS → NS → OS → HS → NS → HS → NS → MS → Prop) (hR : RS_cross Rel) {p : Program} {l : Launch} {e : Env} {s : State} {m : MethodId} {below : List Frame} {meth : Method} {c : Code} {D : va_G} {κ : Nat → ClassId} {b L : Nat} {xs : Nat → Int32} (hL : L ≤ 2560) (C9 : lw_At p s m meth c b L xs) (hK : va_K D vwCl (xT κ) s) (j : Nat) (hj : 5 * j + 5 ≤ L) (hnext : LAt Rel D κ p l e s m below meth c b 1805 j (j + 1)) : LAt Rel D κ p l e s m below meth c b 319 j j := by
  obtain ⟨hx, hb, hr, hml, hown, hts0, hX, hbl, hlocks, hgv⟩ := C9
  have hts : ∀ w ∈ wsLL, w.before #[Value.ref b] s = true := fun w h => hts0 w (xlw_LL w h)
  have hA : ∀ q : Nat, s.heap.size ≤ q → (fun q : Nat => s.heap.size ≤ q) q := fun _ h => h
  intro a am ad uh ur un us uo uv fo wp wk0 wk1 pu u0 u1 n0 n1 hrel hpap hk0 hk1 H locs ls hG hl
  have hcc : 48 + 17 * (j + 1) ≤ room_1.cells := by show _ ≤ 601024; omega
  have hss : 16900 + 2606 * (j + 1) ≤ room_1.slots := by show _ ≤ 7293034; omega
  refine lv_aload_n hx hb dL_law_319 rfl (lv_at hl 1 rfl) ?_
  refine lv_aload_n hx hb dL_law_320 rfl (lv_at hl 0 rfl) ?_
  refine lv_iload hx hb dL_law_321 (lv_at hl 4 rfl) ?_
  refine lv_iconst (v := 1) hx hb dL_law_323 (by decide) ?_
  refine lv_iadd hx hb dL_law_324 ?_
  refine x_sld (kn := 1) (by decide) (by decide) hj hL hx hb hX hbl hG.2.2 dL_law_325 (fun x5_1 ex5_1 => ?_)
  obtain ⟨r, uh', uo', uv', hf4, hf5, hrel, hkh, hkn, hpp⟩ := hR j x5_1 uh ur un us uo u0 n0 u1 n1 uv (by omega) hrel
  refine x_callVi (pre := []) (wc := WH κ a uh ++ (WR κ a ur ++ (WN κ a un ++ (WS κ a us ++ WO κ a uo)))) (wc1 := WH κ a uh' ++ (WR κ a ur ++ (WN κ a un ++ (WS κ a us ++ WO κ a uo')))) (post := WM κ am uv ++ ([(ad, .inl (κ 1, 1, .inr (.inl fo)))] ++ (wp ++ (wk0 ++ wk1)))) (As := [.int x5_1]) (rest := []) (w1 := LW κ a am ad uh' ur un us uo' uv fo wp wk0 wk1) ⟨hx, hb, hml, hown, hts⟩ hK hG hA rfl rfl (c_X4_cross l D κ a H.size x5_1 uh ur un us uo r uh' uo' hf4) (cwV 1 hts xG_X4_cross rfl rfl rfl (by decide +kernel) ⟨Nat.le_of_ble_eq_true rfl, Nat.le_of_ble_eq_true rfl⟩) 25 4 rfl rfl rfl rfl hl.1 rfl (Nat.le_of_ble_eq_true rfl) dL_law_326 ⟨by omega, by omega⟩ (fun H locs hG => ?_)
  refine lv_aload_n hx hb dL_law_329 rfl (lv_at hl 2 rfl) ?_
  refine lv_aload_n hx hb dL_law_330 rfl (lv_at hl 0 rfl) ?_
  refine lv_iload hx hb dL_law_331 (lv_at hl 4 rfl) ?_
  refine lv_iconst (v := 1) hx hb dL_law_333 (by decide) ?_
  refine lv_iadd hx hb dL_law_334 ?_
  refine x_sld (kn := 1) (by decide) (by decide) hj hL hx hb hX hbl hG.2.2 dL_law_335 (fun x13_1 ex13_1 => ?_)
  obtain rfl : x5_1 = x13_1 := ex5_1.trans ex13_1.symm
  refine x_callVi (pre := WH κ a uh' ++ (WR κ a ur ++ (WN κ a un ++ (WS κ a us ++ WO κ a uo')))) (wc := WM κ am uv) (wc1 := WM κ am uv') (post := ([(ad, .inl (κ 1, 1, .inr (.inl fo)))] ++ (wp ++ (wk0 ++ wk1)))) (As := [.int x5_1]) (rest := [.int r]) (w1 := LW κ a am ad uh' ur un us uo' uv' fo wp wk0 wk1) ⟨hx, hb, hml, hown, hts⟩ hK hG hA rfl rfl (c_X5_cross l D κ am H.size x5_1 uv r uv' hf5) (cwV 1 hts xG_X5_cross rfl rfl rfl (by decide +kernel) ⟨Nat.le_of_ble_eq_true rfl, Nat.le_of_ble_eq_true rfl⟩) 0 5 rfl rfl rfl rfl hl.1 rfl (Nat.le_of_ble_eq_true rfl) dL_law_336 ⟨by omega, by omega⟩ (fun H locs hG => ?_)
  refine lv_icmp_eq (tgt := 1805) hx hb dL_law_339 (by decide) (fun c1 => ?_) (fun c1 => absurd rfl c1)
  refine W.widen (k := 48 + 17 * (j + 1)) (n := 16900 + 2606 * (j + 1)) (by omega) (by omega) ?_
  exact hnext a am ad uh' ur un us uo' uv' fo wp wk0 wk1 pu u0 u1 n0 n1 hrel (by rw [hpp]; exact hpap) (by rw [hkh, hkn]; exact hk0) (by rw [hkh, hkn]; exact hk1) H locs ls hG hl
set_option maxRecDepth 100000 in
set_option maxHeartbeats 4000000 in
theorem law_c4 (Rel : Nat → HS → NS → OS → HS → NS → HS → NS → MS → Prop) (hR : RS_uncross Rel) {p : Program} {l : Launch} {e : Env} {s : State} {m : MethodId} {below : List Frame} {meth : Method} {c : Code} {D : va_G} {κ : Nat → ClassId} {b L : Nat} {xs : Nat → Int32} (hL : L ≤ 2560) (C9 : lw_At p s m meth c b L xs) (hK : va_K D vwCl (xT κ) s) (j : Nat) (hj : 5 * j + 5 ≤ L) (hnext : LAt Rel D κ p l e s m below meth c b 1805 j (j + 1)) : LAt Rel D κ p l e s m below meth c b 344 j j := by
  obtain ⟨hx, hb, hr, hml, hown, hts0, hX, hbl, hlocks, hgv⟩ := C9
  have hts : ∀ w ∈ wsLL, w.before #[Value.ref b] s = true := fun w h => hts0 w (xlw_LL w h)
  have hA : ∀ q : Nat, s.heap.size ≤ q → (fun q : Nat => s.heap.size ≤ q) q := fun _ h => h
  intro a am ad uh ur un us uo uv fo wp wk0 wk1 pu u0 u1 n0 n1 hrel hpap hk0 hk1 H locs ls hG hl
  have hcc : 48 + 17 * (j + 1) ≤ room_1.cells := by show _ ≤ 601024; omega
  have hss : 16900 + 2606 * (j + 1) ≤ room_1.slots := by show _ ≤ 7293034; omega
  refine lv_aload_n hx hb dL_law_344 rfl (lv_at hl 1 rfl) ?_
  refine lv_aload_n hx hb dL_law_345 rfl (lv_at hl 0 rfl) ?_
  refine lv_iload hx hb dL_law_346 (lv_at hl 4 rfl) ?_
  refine lv_iconst (v := 1) hx hb dL_law_348 (by decide) ?_
  refine lv_iadd hx hb dL_law_349 ?_
  refine x_sld (kn := 1) (by decide) (by decide) hj hL hx hb hX hbl hG.2.2 dL_law_350 (fun x5_1 ex5_1 => ?_)
  obtain ⟨r, uh', uo', uv', hf4, hf5, hrel, hkh, hkn, hpp⟩ := hR j x5_1 uh ur un us uo u0 n0 u1 n1 uv (by omega) hrel
  refine x_callVi (pre := []) (wc := WH κ a uh ++ (WR κ a ur ++ (WN κ a un ++ (WS κ a us ++ WO κ a uo)))) (wc1 := WH κ a uh' ++ (WR κ a ur ++ (WN κ a un ++ (WS κ a us ++ WO κ a uo')))) (post := WM κ am uv ++ ([(ad, .inl (κ 1, 1, .inr (.inl fo)))] ++ (wp ++ (wk0 ++ wk1)))) (As := [.int x5_1]) (rest := []) (w1 := LW κ a am ad uh' ur un us uo' uv fo wp wk0 wk1) ⟨hx, hb, hml, hown, hts⟩ hK hG hA rfl rfl (c_X4_uncross l D κ a H.size x5_1 uh ur un us uo r uh' uo' hf4) (cwV 1 hts xG_X4_uncross rfl rfl rfl (by decide +kernel) ⟨Nat.le_of_ble_eq_true rfl, Nat.le_of_ble_eq_true rfl⟩) 25 4 rfl rfl rfl rfl hl.1 rfl (Nat.le_of_ble_eq_true rfl) dL_law_351 ⟨by omega, by omega⟩ (fun H locs hG => ?_)
  refine lv_aload_n hx hb dL_law_354 rfl (lv_at hl 2 rfl) ?_
  refine lv_aload_n hx hb dL_law_355 rfl (lv_at hl 0 rfl) ?_
  refine lv_iload hx hb dL_law_356 (lv_at hl 4 rfl) ?_
  refine lv_iconst (v := 1) hx hb dL_law_358 (by decide) ?_
  refine lv_iadd hx hb dL_law_359 ?_
  refine x_sld (kn := 1) (by decide) (by decide) hj hL hx hb hX hbl hG.2.2 dL_law_360 (fun x13_1 ex13_1 => ?_)
  obtain rfl : x5_1 = x13_1 := ex5_1.trans ex13_1.symm
  refine x_callVi (pre := WH κ a uh' ++ (WR κ a ur ++ (WN κ a un ++ (WS κ a us ++ WO κ a uo')))) (wc := WM κ am uv) (wc1 := WM κ am uv') (post := ([(ad, .inl (κ 1, 1, .inr (.inl fo)))] ++ (wp ++ (wk0 ++ wk1)))) (As := [.int x5_1]) (rest := [.int r]) (w1 := LW κ a am ad uh' ur un us uo' uv' fo wp wk0 wk1) ⟨hx, hb, hml, hown, hts⟩ hK hG hA rfl rfl (c_X5_uncross l D κ am H.size x5_1 uv r uv' hf5) (cwV 1 hts xG_X5_uncross rfl rfl rfl (by decide +kernel) ⟨Nat.le_of_ble_eq_true rfl, Nat.le_of_ble_eq_true rfl⟩) 0 5 rfl rfl rfl rfl hl.1 rfl (Nat.le_of_ble_eq_true rfl) dL_law_361 ⟨by omega, by omega⟩ (fun H locs hG => ?_)
  refine lv_icmp_eq (tgt := 1805) hx hb dL_law_364 (by decide) (fun c1 => ?_) (fun c1 => absurd rfl c1)
  refine W.widen (k := 48 + 17 * (j + 1)) (n := 16900 + 2606 * (j + 1)) (by omega) (by omega) ?_
  exact hnext a am ad uh' ur un us uo' uv' fo wp wk0 wk1 pu u0 u1 n0 n1 hrel (by rw [hpp]; exact hpap) (by rw [hkh, hkn]; exact hk0) (by rw [hkh, hkn]; exact hk1) H locs ls hG hl
set_option maxRecDepth 100000 in
set_option maxHeartbeats 4000000 in
theorem law_c5 (Rel : Nat → HS → NS → OS → HS → NS → HS → NS → MS → Prop) (hR : RS_cut Rel) {p : Program} {l : Launch} {e : Env} {s : State} {m : MethodId} {below : List Frame} {meth : Method} {c : Code} {D : va_G} {κ : Nat → ClassId} {b L : Nat} {xs : Nat → Int32} (hL : L ≤ 2560) (C9 : lw_At p s m meth c b L xs) (hK : va_K D vwCl (xT κ) s) (j : Nat) (hj : 5 * j + 5 ≤ L) (hnext : LAt Rel D κ p l e s m below meth c b 1805 j (j + 1)) : LAt Rel D κ p l e s m below meth c b 369 j j := by
  obtain ⟨hx, hb, hr, hml, hown, hts0, hX, hbl, hlocks, hgv⟩ := C9
  have hts : ∀ w ∈ wsLL, w.before #[Value.ref b] s = true := fun w h => hts0 w (xlw_LL w h)
  have hA : ∀ q : Nat, s.heap.size ≤ q → (fun q : Nat => s.heap.size ≤ q) q := fun _ h => h
  intro a am ad uh ur un us uo uv fo wp wk0 wk1 pu u0 u1 n0 n1 hrel hpap hk0 hk1 H locs ls hG hl
  have hcc : 48 + 17 * (j + 1) ≤ room_1.cells := by show _ ≤ 601024; omega
  have hss : 16900 + 2606 * (j + 1) ≤ room_1.slots := by show _ ≤ 7293034; omega
  refine lv_aload_n hx hb dL_law_369 rfl (lv_at hl 1 rfl) ?_
  refine lv_aload_n hx hb dL_law_370 rfl (lv_at hl 0 rfl) ?_
  refine lv_iload hx hb dL_law_371 (lv_at hl 4 rfl) ?_
  refine lv_iconst (v := 1) hx hb dL_law_373 (by decide) ?_
  refine lv_iadd hx hb dL_law_374 ?_
  refine x_sld (kn := 1) (by decide) (by decide) hj hL hx hb hX hbl hG.2.2 dL_law_375 (fun x5_1 ex5_1 => ?_)
  obtain ⟨r, uh', uo', uv', hf4, hf5, hrel, hkh, hkn, hpp⟩ := hR j x5_1 uh ur un us uo u0 n0 u1 n1 uv (by omega) hrel
  refine x_callVi (pre := []) (wc := WH κ a uh ++ (WR κ a ur ++ (WN κ a un ++ (WS κ a us ++ WO κ a uo)))) (wc1 := WH κ a uh' ++ (WR κ a ur ++ (WN κ a un ++ (WS κ a us ++ WO κ a uo')))) (post := WM κ am uv ++ ([(ad, .inl (κ 1, 1, .inr (.inl fo)))] ++ (wp ++ (wk0 ++ wk1)))) (As := [.int x5_1]) (rest := []) (w1 := LW κ a am ad uh' ur un us uo' uv fo wp wk0 wk1) ⟨hx, hb, hml, hown, hts⟩ hK hG hA rfl rfl (c_X4_cut l D κ a H.size x5_1 uh ur un us uo r uh' uo' hf4) (cwV 1 hts xG_X4_cut rfl rfl rfl (by decide +kernel) ⟨Nat.le_of_ble_eq_true rfl, Nat.le_of_ble_eq_true rfl⟩) 25 4 rfl rfl rfl rfl hl.1 rfl (Nat.le_of_ble_eq_true rfl) dL_law_376 ⟨by omega, by omega⟩ (fun H locs hG => ?_)
  refine lv_aload_n hx hb dL_law_379 rfl (lv_at hl 2 rfl) ?_
  refine lv_aload_n hx hb dL_law_380 rfl (lv_at hl 0 rfl) ?_
  refine lv_iload hx hb dL_law_381 (lv_at hl 4 rfl) ?_
  refine lv_iconst (v := 1) hx hb dL_law_383 (by decide) ?_
  refine lv_iadd hx hb dL_law_384 ?_
  refine x_sld (kn := 1) (by decide) (by decide) hj hL hx hb hX hbl hG.2.2 dL_law_385 (fun x13_1 ex13_1 => ?_)
  obtain rfl : x5_1 = x13_1 := ex5_1.trans ex13_1.symm
  refine x_callVi (pre := WH κ a uh' ++ (WR κ a ur ++ (WN κ a un ++ (WS κ a us ++ WO κ a uo')))) (wc := WM κ am uv) (wc1 := WM κ am uv') (post := ([(ad, .inl (κ 1, 1, .inr (.inl fo)))] ++ (wp ++ (wk0 ++ wk1)))) (As := [.int x5_1]) (rest := [.int r]) (w1 := LW κ a am ad uh' ur un us uo' uv' fo wp wk0 wk1) ⟨hx, hb, hml, hown, hts⟩ hK hG hA rfl rfl (c_X5_cut l D κ am H.size x5_1 uv r uv' hf5) (cwV 1 hts xG_X5_cut rfl rfl rfl (by decide +kernel) ⟨Nat.le_of_ble_eq_true rfl, Nat.le_of_ble_eq_true rfl⟩) 0 5 rfl rfl rfl rfl hl.1 rfl (Nat.le_of_ble_eq_true rfl) dL_law_386 ⟨by omega, by omega⟩ (fun H locs hG => ?_)
  refine lv_icmp_eq (tgt := 1805) hx hb dL_law_389 (by decide) (fun c1 => ?_) (fun c1 => absurd rfl c1)
  refine W.widen (k := 48 + 17 * (j + 1)) (n := 16900 + 2606 * (j + 1)) (by omega) (by omega) ?_
  exact hnext a am ad uh' ur un us uo' uv' fo wp wk0 wk1 pu u0 u1 n0 n1 hrel (by rw [hpp]; exact hpap) (by rw [hkh, hkn]; exact hk0) (by rw [hkh, hkn]; exact hk1) H locs ls hG hl
set_option maxRecDepth 100000 in
set_option maxHeartbeats 4000000 in
theorem law_c6 (Rel : Nat → HS → NS → OS → HS → NS → HS → NS → MS → Prop) (hR : RS_rekey Rel) {p : Program} {l : Launch} {e : Env} {s : State} {m : MethodId} {below : List Frame} {meth : Method} {c : Code} {D : va_G} {κ : Nat → ClassId} {b L : Nat} {xs : Nat → Int32} (hL : L ≤ 2560) (C9 : lw_At p s m meth c b L xs) (hK : va_K D vwCl (xT κ) s) (j : Nat) (hj : 5 * j + 5 ≤ L) (hnext : LAt Rel D κ p l e s m below meth c b 1805 j (j + 1)) : LAt Rel D κ p l e s m below meth c b 394 j j := by
  obtain ⟨hx, hb, hr, hml, hown, hts0, hX, hbl, hlocks, hgv⟩ := C9
  have hts : ∀ w ∈ wsLL, w.before #[Value.ref b] s = true := fun w h => hts0 w (xlw_LL w h)
  have hA : ∀ q : Nat, s.heap.size ≤ q → (fun q : Nat => s.heap.size ≤ q) q := fun _ h => h
  intro a am ad uh ur un us uo uv fo wp wk0 wk1 pu u0 u1 n0 n1 hrel hpap hk0 hk1 H locs ls hG hl
  have hcc : 48 + 17 * (j + 1) ≤ room_1.cells := by show _ ≤ 601024; omega
  have hss : 16900 + 2606 * (j + 1) ≤ room_1.slots := by show _ ≤ 7293034; omega
  refine lv_aload_n hx hb dL_law_394 rfl (lv_at hl 1 rfl) ?_
  refine lv_aload_n hx hb dL_law_395 rfl (lv_at hl 0 rfl) ?_
  refine lv_iload hx hb dL_law_396 (lv_at hl 4 rfl) ?_
  refine lv_iconst (v := 1) hx hb dL_law_398 (by decide) ?_
  refine lv_iadd hx hb dL_law_399 ?_
  refine x_sld (kn := 1) (by decide) (by decide) hj hL hx hb hX hbl hG.2.2 dL_law_400 (fun x5_1 ex5_1 => ?_)
  refine lv_aload_n hx hb dL_law_401 rfl (lv_at hl 0 rfl) ?_
  refine lv_iload hx hb dL_law_402 (lv_at hl 4 rfl) ?_
  refine lv_iconst (v := 2) hx hb dL_law_404 (by decide) ?_
  refine lv_iadd hx hb dL_law_405 ?_
  refine x_sld (kn := 2) (by decide) (by decide) hj hL hx hb hX hbl hG.2.2 dL_law_406 (fun x10_2 ex10_2 => ?_)
  obtain ⟨r, uh', uo', uv', hf4, hf5, hrel, hkh, hkn, hpp⟩ := hR j x5_1 x10_2 uh ur un us uo u0 n0 u1 n1 uv (by omega) hrel
  refine x_callVi (pre := []) (wc := WH κ a uh ++ (WR κ a ur ++ (WN κ a un ++ (WS κ a us ++ WO κ a uo)))) (wc1 := WH κ a uh' ++ (WR κ a ur ++ (WN κ a un ++ (WS κ a us ++ WO κ a uo')))) (post := WM κ am uv ++ ([(ad, .inl (κ 1, 1, .inr (.inl fo)))] ++ (wp ++ (wk0 ++ wk1)))) (As := [.int x5_1, .int x10_2]) (rest := []) (w1 := LW κ a am ad uh' ur un us uo' uv fo wp wk0 wk1) ⟨hx, hb, hml, hown, hts⟩ hK hG hA rfl rfl (c_X4_rekey l D κ a H.size x5_1 x10_2 uh ur un us uo r uh' uo' hf4) (cwV 2 hts xG_X4_rekey rfl rfl rfl (by decide +kernel) ⟨Nat.le_of_ble_eq_true rfl, Nat.le_of_ble_eq_true rfl⟩) 25 4 rfl rfl rfl rfl hl.1 rfl (Nat.le_of_ble_eq_true rfl) dL_law_407 ⟨by omega, by omega⟩ (fun H locs hG => ?_)
  refine lv_aload_n hx hb dL_law_410 rfl (lv_at hl 2 rfl) ?_
  refine lv_aload_n hx hb dL_law_411 rfl (lv_at hl 0 rfl) ?_
  refine lv_iload hx hb dL_law_412 (lv_at hl 4 rfl) ?_
  refine lv_iconst (v := 1) hx hb dL_law_414 (by decide) ?_
  refine lv_iadd hx hb dL_law_415 ?_
  refine x_sld (kn := 1) (by decide) (by decide) hj hL hx hb hX hbl hG.2.2 dL_law_416 (fun x18_1 ex18_1 => ?_)
  refine lv_aload_n hx hb dL_law_417 rfl (lv_at hl 0 rfl) ?_
  refine lv_iload hx hb dL_law_418 (lv_at hl 4 rfl) ?_
  refine lv_iconst (v := 2) hx hb dL_law_420 (by decide) ?_
  refine lv_iadd hx hb dL_law_421 ?_
  refine x_sld (kn := 2) (by decide) (by decide) hj hL hx hb hX hbl hG.2.2 dL_law_422 (fun x23_2 ex23_2 => ?_)
  obtain rfl : x5_1 = x18_1 := ex5_1.trans ex18_1.symm
  obtain rfl : x10_2 = x23_2 := ex10_2.trans ex23_2.symm
  refine x_callVi (pre := WH κ a uh' ++ (WR κ a ur ++ (WN κ a un ++ (WS κ a us ++ WO κ a uo')))) (wc := WM κ am uv) (wc1 := WM κ am uv') (post := ([(ad, .inl (κ 1, 1, .inr (.inl fo)))] ++ (wp ++ (wk0 ++ wk1)))) (As := [.int x5_1, .int x10_2]) (rest := [.int r]) (w1 := LW κ a am ad uh' ur un us uo' uv' fo wp wk0 wk1) ⟨hx, hb, hml, hown, hts⟩ hK hG hA rfl rfl (c_X5_rekey l D κ am H.size x5_1 x10_2 uv r uv' hf5) (cwV 2 hts xG_X5_rekey rfl rfl rfl (by decide +kernel) ⟨Nat.le_of_ble_eq_true rfl, Nat.le_of_ble_eq_true rfl⟩) 0 5 rfl rfl rfl rfl hl.1 rfl (Nat.le_of_ble_eq_true rfl) dL_law_423 ⟨by omega, by omega⟩ (fun H locs hG => ?_)
  refine lv_icmp_eq (tgt := 1805) hx hb dL_law_426 (by decide) (fun c1 => ?_) (fun c1 => absurd rfl c1)
  refine W.widen (k := 48 + 17 * (j + 1)) (n := 16900 + 2606 * (j + 1)) (by omega) (by omega) ?_
  exact hnext a am ad uh' ur un us uo' uv' fo wp wk0 wk1 pu u0 u1 n0 n1 hrel (by rw [hpp]; exact hpap) (by rw [hkh, hkn]; exact hk0) (by rw [hkh, hkn]; exact hk1) H locs ls hG hl
set_option maxRecDepth 100000 in
set_option maxHeartbeats 4000000 in
theorem law_c7 (Rel : Nat → HS → NS → OS → HS → NS → HS → NS → MS → Prop) (hR : RS_raise Rel) {p : Program} {l : Launch} {e : Env} {s : State} {m : MethodId} {below : List Frame} {meth : Method} {c : Code} {D : va_G} {κ : Nat → ClassId} {b L : Nat} {xs : Nat → Int32} (hL : L ≤ 2560) (C9 : lw_At p s m meth c b L xs) (hK : va_K D vwCl (xT κ) s) (j : Nat) (hj : 5 * j + 5 ≤ L) (hnext : LAt Rel D κ p l e s m below meth c b 1805 j (j + 1)) : LAt Rel D κ p l e s m below meth c b 431 j j := by
  obtain ⟨hx, hb, hr, hml, hown, hts0, hX, hbl, hlocks, hgv⟩ := C9
  have hts : ∀ w ∈ wsLL, w.before #[Value.ref b] s = true := fun w h => hts0 w (xlw_LL w h)
  have hA : ∀ q : Nat, s.heap.size ≤ q → (fun q : Nat => s.heap.size ≤ q) q := fun _ h => h
  intro a am ad uh ur un us uo uv fo wp wk0 wk1 pu u0 u1 n0 n1 hrel hpap hk0 hk1 H locs ls hG hl
  have hcc : 48 + 17 * (j + 1) ≤ room_1.cells := by show _ ≤ 601024; omega
  have hss : 16900 + 2606 * (j + 1) ≤ room_1.slots := by show _ ≤ 7293034; omega
  refine lv_aload_n hx hb dL_law_431 rfl (lv_at hl 1 rfl) ?_
  refine lv_aload_n hx hb dL_law_432 rfl (lv_at hl 0 rfl) ?_
  refine lv_iload hx hb dL_law_433 (lv_at hl 4 rfl) ?_
  refine lv_iconst (v := 1) hx hb dL_law_435 (by decide) ?_
  refine lv_iadd hx hb dL_law_436 ?_
  refine x_sld (kn := 1) (by decide) (by decide) hj hL hx hb hX hbl hG.2.2 dL_law_437 (fun x5_1 ex5_1 => ?_)
  refine lv_aload_n hx hb dL_law_438 rfl (lv_at hl 0 rfl) ?_
  refine lv_iload hx hb dL_law_439 (lv_at hl 4 rfl) ?_
  refine lv_iconst (v := 2) hx hb dL_law_441 (by decide) ?_
  refine lv_iadd hx hb dL_law_442 ?_
  refine x_sld (kn := 2) (by decide) (by decide) hj hL hx hb hX hbl hG.2.2 dL_law_443 (fun x10_2 ex10_2 => ?_)
  obtain ⟨r, uh', uo', uv', hf4, hf5, hrel, hkh, hkn, hpp⟩ := hR j x5_1 x10_2 uh ur un us uo u0 n0 u1 n1 uv (by omega) hrel
  refine x_callVi (pre := []) (wc := WH κ a uh ++ (WR κ a ur ++ (WN κ a un ++ (WS κ a us ++ WO κ a uo)))) (wc1 := WH κ a uh' ++ (WR κ a ur ++ (WN κ a un ++ (WS κ a us ++ WO κ a uo')))) (post := WM κ am uv ++ ([(ad, .inl (κ 1, 1, .inr (.inl fo)))] ++ (wp ++ (wk0 ++ wk1)))) (As := [.int x5_1, .int x10_2]) (rest := []) (w1 := LW κ a am ad uh' ur un us uo' uv fo wp wk0 wk1) ⟨hx, hb, hml, hown, hts⟩ hK hG hA rfl rfl (c_X4_raise l D κ a H.size x5_1 x10_2 uh ur un us uo r uh' uo' hf4) (cwV 2 hts xG_X4_raise rfl rfl rfl (by decide +kernel) ⟨Nat.le_of_ble_eq_true rfl, Nat.le_of_ble_eq_true rfl⟩) 25 4 rfl rfl rfl rfl hl.1 rfl (Nat.le_of_ble_eq_true rfl) dL_law_444 ⟨by omega, by omega⟩ (fun H locs hG => ?_)
  refine lv_aload_n hx hb dL_law_447 rfl (lv_at hl 2 rfl) ?_
  refine lv_aload_n hx hb dL_law_448 rfl (lv_at hl 0 rfl) ?_
  refine lv_iload hx hb dL_law_449 (lv_at hl 4 rfl) ?_
  refine lv_iconst (v := 1) hx hb dL_law_451 (by decide) ?_
  refine lv_iadd hx hb dL_law_452 ?_
  refine x_sld (kn := 1) (by decide) (by decide) hj hL hx hb hX hbl hG.2.2 dL_law_453 (fun x18_1 ex18_1 => ?_)
  refine lv_aload_n hx hb dL_law_454 rfl (lv_at hl 0 rfl) ?_
  refine lv_iload hx hb dL_law_455 (lv_at hl 4 rfl) ?_
  refine lv_iconst (v := 2) hx hb dL_law_457 (by decide) ?_
  refine lv_iadd hx hb dL_law_458 ?_
  refine x_sld (kn := 2) (by decide) (by decide) hj hL hx hb hX hbl hG.2.2 dL_law_459 (fun x23_2 ex23_2 => ?_)
  obtain rfl : x5_1 = x18_1 := ex5_1.trans ex18_1.symm
  obtain rfl : x10_2 = x23_2 := ex10_2.trans ex23_2.symm
  refine x_callVi (pre := WH κ a uh' ++ (WR κ a ur ++ (WN κ a un ++ (WS κ a us ++ WO κ a uo')))) (wc := WM κ am uv) (wc1 := WM κ am uv') (post := ([(ad, .inl (κ 1, 1, .inr (.inl fo)))] ++ (wp ++ (wk0 ++ wk1)))) (As := [.int x5_1, .int x10_2]) (rest := [.int r]) (w1 := LW κ a am ad uh' ur un us uo' uv' fo wp wk0 wk1) ⟨hx, hb, hml, hown, hts⟩ hK hG hA rfl rfl (c_X5_raise l D κ am H.size x5_1 x10_2 uv r uv' hf5) (cwV 2 hts xG_X5_raise rfl rfl rfl (by decide +kernel) ⟨Nat.le_of_ble_eq_true rfl, Nat.le_of_ble_eq_true rfl⟩) 0 5 rfl rfl rfl rfl hl.1 rfl (Nat.le_of_ble_eq_true rfl) dL_law_460 ⟨by omega, by omega⟩ (fun H locs hG => ?_)
  refine lv_icmp_eq (tgt := 1805) hx hb dL_law_463 (by decide) (fun c1 => ?_) (fun c1 => absurd rfl c1)
  refine W.widen (k := 48 + 17 * (j + 1)) (n := 16900 + 2606 * (j + 1)) (by omega) (by omega) ?_
  exact hnext a am ad uh' ur un us uo' uv' fo wp wk0 wk1 pu u0 u1 n0 n1 hrel (by rw [hpp]; exact hpap) (by rw [hkh, hkn]; exact hk0) (by rw [hkh, hkn]; exact hk1) H locs ls hG hl
set_option maxRecDepth 100000 in
set_option maxHeartbeats 4000000 in
theorem law_c8 (Rel : Nat → HS → NS → OS → HS → NS → HS → NS → MS → Prop) (hR : RS_meld Rel) {p : Program} {l : Launch} {e : Env} {s : State} {m : MethodId} {below : List Frame} {meth : Method} {c : Code} {D : va_G} {κ : Nat → ClassId} {b L : Nat} {xs : Nat → Int32} (hL : L ≤ 2560) (C9 : lw_At p s m meth c b L xs) (hK : va_K D vwCl (xT κ) s) (j : Nat) (hj : 5 * j + 5 ≤ L) (hnext : LAt Rel D κ p l e s m below meth c b 1805 j (j + 1)) : LAt Rel D κ p l e s m below meth c b 468 j j := by
  obtain ⟨hx, hb, hr, hml, hown, hts0, hX, hbl, hlocks, hgv⟩ := C9
  have hts : ∀ w ∈ wsLL, w.before #[Value.ref b] s = true := fun w h => hts0 w (xlw_LL w h)
  have hA : ∀ q : Nat, s.heap.size ≤ q → (fun q : Nat => s.heap.size ≤ q) q := fun _ h => h
  intro a am ad uh ur un us uo uv fo wp wk0 wk1 pu u0 u1 n0 n1 hrel hpap hk0 hk1 H locs ls hG hl
  have hcc : 48 + 17 * (j + 1) ≤ room_1.cells := by show _ ≤ 601024; omega
  have hss : 16900 + 2606 * (j + 1) ≤ room_1.slots := by show _ ≤ 7293034; omega
  refine lv_aload_n hx hb dL_law_468 rfl (lv_at hl 1 rfl) ?_
  refine lv_aload_n hx hb dL_law_469 rfl (lv_at hl 0 rfl) ?_
  refine lv_iload hx hb dL_law_470 (lv_at hl 4 rfl) ?_
  refine lv_iconst (v := 1) hx hb dL_law_472 (by decide) ?_
  refine lv_iadd hx hb dL_law_473 ?_
  refine x_sld (kn := 1) (by decide) (by decide) hj hL hx hb hX hbl hG.2.2 dL_law_474 (fun x5_1 ex5_1 => ?_)
  refine lv_aload_n hx hb dL_law_475 rfl (lv_at hl 0 rfl) ?_
  refine lv_iload hx hb dL_law_476 (lv_at hl 4 rfl) ?_
  refine lv_iconst (v := 2) hx hb dL_law_478 (by decide) ?_
  refine lv_iadd hx hb dL_law_479 ?_
  refine x_sld (kn := 2) (by decide) (by decide) hj hL hx hb hX hbl hG.2.2 dL_law_480 (fun x10_2 ex10_2 => ?_)
  obtain ⟨r, uh', uo', uv', hf4, hf5, hrel, hkh, hkn, hpp⟩ := hR j x5_1 x10_2 uh ur un us uo u0 n0 u1 n1 uv (by omega) hrel
  refine x_callVi (pre := []) (wc := WH κ a uh ++ (WR κ a ur ++ (WN κ a un ++ (WS κ a us ++ WO κ a uo)))) (wc1 := WH κ a uh' ++ (WR κ a ur ++ (WN κ a un ++ (WS κ a us ++ WO κ a uo')))) (post := WM κ am uv ++ ([(ad, .inl (κ 1, 1, .inr (.inl fo)))] ++ (wp ++ (wk0 ++ wk1)))) (As := [.int x5_1, .int x10_2]) (rest := []) (w1 := LW κ a am ad uh' ur un us uo' uv fo wp wk0 wk1) ⟨hx, hb, hml, hown, hts⟩ hK hG hA rfl rfl (c_X4_meld l D κ a H.size x5_1 x10_2 uh ur un us uo r uh' uo' hf4) (cwV 2 hts xG_X4_meld rfl rfl rfl (by decide +kernel) ⟨Nat.le_of_ble_eq_true rfl, Nat.le_of_ble_eq_true rfl⟩) 25 4 rfl rfl rfl rfl hl.1 rfl (Nat.le_of_ble_eq_true rfl) dL_law_481 ⟨by omega, by omega⟩ (fun H locs hG => ?_)
  refine lv_aload_n hx hb dL_law_484 rfl (lv_at hl 2 rfl) ?_
  refine lv_aload_n hx hb dL_law_485 rfl (lv_at hl 0 rfl) ?_
  refine lv_iload hx hb dL_law_486 (lv_at hl 4 rfl) ?_
  refine lv_iconst (v := 1) hx hb dL_law_488 (by decide) ?_
  refine lv_iadd hx hb dL_law_489 ?_
  refine x_sld (kn := 1) (by decide) (by decide) hj hL hx hb hX hbl hG.2.2 dL_law_490 (fun x18_1 ex18_1 => ?_)
  refine lv_aload_n hx hb dL_law_491 rfl (lv_at hl 0 rfl) ?_
  refine lv_iload hx hb dL_law_492 (lv_at hl 4 rfl) ?_
  refine lv_iconst (v := 2) hx hb dL_law_494 (by decide) ?_
  refine lv_iadd hx hb dL_law_495 ?_
  refine x_sld (kn := 2) (by decide) (by decide) hj hL hx hb hX hbl hG.2.2 dL_law_496 (fun x23_2 ex23_2 => ?_)
  obtain rfl : x5_1 = x18_1 := ex5_1.trans ex18_1.symm
  obtain rfl : x10_2 = x23_2 := ex10_2.trans ex23_2.symm
  refine x_callVi (pre := WH κ a uh' ++ (WR κ a ur ++ (WN κ a un ++ (WS κ a us ++ WO κ a uo')))) (wc := WM κ am uv) (wc1 := WM κ am uv') (post := ([(ad, .inl (κ 1, 1, .inr (.inl fo)))] ++ (wp ++ (wk0 ++ wk1)))) (As := [.int x5_1, .int x10_2]) (rest := [.int r]) (w1 := LW κ a am ad uh' ur un us uo' uv' fo wp wk0 wk1) ⟨hx, hb, hml, hown, hts⟩ hK hG hA rfl rfl (c_X5_meld l D κ am H.size x5_1 x10_2 uv r uv' hf5) (cwV 2 hts xG_X5_meld rfl rfl rfl (by decide +kernel) ⟨Nat.le_of_ble_eq_true rfl, Nat.le_of_ble_eq_true rfl⟩) 0 5 rfl rfl rfl rfl hl.1 rfl (Nat.le_of_ble_eq_true rfl) dL_law_497 ⟨by omega, by omega⟩ (fun H locs hG => ?_)
  refine lv_icmp_eq (tgt := 1805) hx hb dL_law_500 (by decide) (fun c1 => ?_) (fun c1 => absurd rfl c1)
  refine W.widen (k := 48 + 17 * (j + 1)) (n := 16900 + 2606 * (j + 1)) (by omega) (by omega) ?_
  exact hnext a am ad uh' ur un us uo' uv' fo wp wk0 wk1 pu u0 u1 n0 n1 hrel (by rw [hpp]; exact hpap) (by rw [hkh, hkn]; exact hk0) (by rw [hkh, hkn]; exact hk1) H locs ls hG hl
