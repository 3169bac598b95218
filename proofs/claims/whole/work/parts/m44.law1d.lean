set_option maxRecDepth 100000 in
set_option maxHeartbeats 4000000 in
theorem law_c35 (Rel : Nat → HS → NS → OS → HS → NS → HS → NS → MS → Prop) (hR : RS_dearer Rel) {p : Program} {l : Launch} {e : Env} {s : State} {m : MethodId} {below : List Frame} {meth : Method} {c : Code} {D : va_G} {κ : Nat → ClassId} {b L : Nat} {xs : Nat → Int32} (hL : L ≤ 2560) (C9 : lw_At p s m meth c b L xs) (hK : va_K D vwCl (xT κ) s) (j : Nat) (hj : 5 * j + 5 ≤ L) (hnext : LAt Rel D κ p l e s m below meth c b 1805 j (j + 1)) : LAt Rel D κ p l e s m below meth c b 1570 j j := by
  obtain ⟨hx, hb, hr, hml, hown, hts0, hX, hbl, hlocks, hgv⟩ := C9
  have hts : ∀ w ∈ wsLL, w.before #[Value.ref b] s = true := fun w h => hts0 w (xlw_LL w h)
  have hA : ∀ q : Nat, s.heap.size ≤ q → (fun q : Nat => s.heap.size ≤ q) q := fun _ h => h
  intro a am ad uh ur un us uo uv fo wp wk0 wk1 pu u0 u1 n0 n1 hrel hpap hk0 hk1 H locs ls hG hl
  have hcc : 48 + 17 * (j + 1) ≤ room_1.cells := by show _ ≤ 601024; omega
  have hss : 16900 + 2606 * (j + 1) ≤ room_1.slots := by show _ ≤ 7293034; omega
  refine lv_aload_n hx hb dL_law_1570 rfl (lv_at hl 1 rfl) ?_
  refine lv_aload_n hx hb dL_law_1571 rfl (lv_at hl 0 rfl) ?_
  refine lv_iload hx hb dL_law_1572 (lv_at hl 4 rfl) ?_
  refine lv_iconst (v := 1) hx hb dL_law_1574 (by decide) ?_
  refine lv_iadd hx hb dL_law_1575 ?_
  refine x_sld (kn := 1) (by decide) (by decide) hj hL hx hb hX hbl hG.2.2 dL_law_1576 (fun x5_1 ex5_1 => ?_)
  refine lv_aload_n hx hb dL_law_1577 rfl (lv_at hl 0 rfl) ?_
  refine lv_iload hx hb dL_law_1578 (lv_at hl 4 rfl) ?_
  refine lv_iconst (v := 2) hx hb dL_law_1580 (by decide) ?_
  refine lv_iadd hx hb dL_law_1581 ?_
  refine x_sld (kn := 2) (by decide) (by decide) hj hL hx hb hX hbl hG.2.2 dL_law_1582 (fun x10_2 ex10_2 => ?_)
  obtain ⟨r, us', uv', hf4, hf5, hrel⟩ := hR j x5_1 x10_2 uh ur un us uo u0 n0 u1 n1 uv (by omega) hrel
  refine x_callVi (pre := []) (wc := WH κ a uh ++ (WR κ a ur ++ (WN κ a un ++ (WS κ a us ++ WO κ a uo)))) (wc1 := WH κ a uh ++ (WR κ a ur ++ (WN κ a un ++ (WS κ a us' ++ WO κ a uo)))) (post := WM κ am uv ++ ([(ad, .inl (κ 1, 1, .inr (.inl fo)))] ++ (wp ++ (wk0 ++ wk1)))) (As := [.int x5_1, .int x10_2]) (rest := []) (w1 := LW κ a am ad uh ur un us' uo uv fo wp wk0 wk1) ⟨hx, hb, hml, hown, hts⟩ hK hG hA rfl rfl (c_X4_dearer l D κ a H.size x5_1 x10_2 uh ur un us uo r us' hf4) (cwV 2 hts xG_X4_dearer rfl rfl rfl (by decide +kernel) ⟨Nat.le_of_ble_eq_true rfl, Nat.le_of_ble_eq_true rfl⟩) 25 4 rfl rfl rfl rfl hl.1 rfl (Nat.le_of_ble_eq_true rfl) dL_law_1583 ⟨by omega, by omega⟩ (fun H locs hG => ?_)
  refine lv_aload_n hx hb dL_law_1586 rfl (lv_at hl 2 rfl) ?_
  refine lv_aload_n hx hb dL_law_1587 rfl (lv_at hl 0 rfl) ?_
  refine lv_iload hx hb dL_law_1588 (lv_at hl 4 rfl) ?_
  refine lv_iconst (v := 1) hx hb dL_law_1590 (by decide) ?_
  refine lv_iadd hx hb dL_law_1591 ?_
  refine x_sld (kn := 1) (by decide) (by decide) hj hL hx hb hX hbl hG.2.2 dL_law_1592 (fun x18_1 ex18_1 => ?_)
  refine lv_aload_n hx hb dL_law_1593 rfl (lv_at hl 0 rfl) ?_
  refine lv_iload hx hb dL_law_1594 (lv_at hl 4 rfl) ?_
  refine lv_iconst (v := 2) hx hb dL_law_1596 (by decide) ?_
  refine lv_iadd hx hb dL_law_1597 ?_
  refine x_sld (kn := 2) (by decide) (by decide) hj hL hx hb hX hbl hG.2.2 dL_law_1598 (fun x23_2 ex23_2 => ?_)
  obtain rfl : x5_1 = x18_1 := ex5_1.trans ex18_1.symm
  obtain rfl : x10_2 = x23_2 := ex10_2.trans ex23_2.symm
  refine x_callVi (pre := WH κ a uh ++ (WR κ a ur ++ (WN κ a un ++ (WS κ a us' ++ WO κ a uo)))) (wc := WM κ am uv) (wc1 := WM κ am uv') (post := ([(ad, .inl (κ 1, 1, .inr (.inl fo)))] ++ (wp ++ (wk0 ++ wk1)))) (As := [.int x5_1, .int x10_2]) (rest := [.int r]) (w1 := LW κ a am ad uh ur un us' uo uv' fo wp wk0 wk1) ⟨hx, hb, hml, hown, hts⟩ hK hG hA rfl rfl (c_X5_dearer l D κ am H.size x5_1 x10_2 uv r uv' hf5) (cwV 2 hts xG_X5_dearer rfl rfl rfl (by decide +kernel) ⟨Nat.le_of_ble_eq_true rfl, Nat.le_of_ble_eq_true rfl⟩) 0 5 rfl rfl rfl rfl hl.1 rfl (Nat.le_of_ble_eq_true rfl) dL_law_1599 ⟨by omega, by omega⟩ (fun H locs hG => ?_)
  refine lv_icmp_eq (tgt := 1805) hx hb dL_law_1602 (by decide) (fun c1 => ?_) (fun c1 => absurd rfl c1)
  refine W.widen (k := 48 + 17 * (j + 1)) (n := 16900 + 2606 * (j + 1)) (by omega) (by omega) ?_
  exact hnext a am ad uh ur un us' uo uv' fo wp wk0 wk1 pu u0 u1 n0 n1 hrel hpap hk0 hk1 H locs ls hG hl
set_option maxRecDepth 100000 in
set_option maxHeartbeats 4000000 in
theorem law_c36 (Rel : Nat → HS → NS → OS → HS → NS → HS → NS → MS → Prop) (hR : RS_without Rel) {p : Program} {l : Launch} {e : Env} {s : State} {m : MethodId} {below : List Frame} {meth : Method} {c : Code} {D : va_G} {κ : Nat → ClassId} {b L : Nat} {xs : Nat → Int32} (hL : L ≤ 2560) (C9 : lw_At p s m meth c b L xs) (hK : va_K D vwCl (xT κ) s) (j : Nat) (hj : 5 * j + 5 ≤ L) (hnext : LAt Rel D κ p l e s m below meth c b 1805 j (j + 1)) : LAt Rel D κ p l e s m below meth c b 1607 j j := by
  obtain ⟨hx, hb, hr, hml, hown, hts0, hX, hbl, hlocks, hgv⟩ := C9
  have hts : ∀ w ∈ wsLL, w.before #[Value.ref b] s = true := fun w h => hts0 w (xlw_LL w h)
  have hA : ∀ q : Nat, s.heap.size ≤ q → (fun q : Nat => s.heap.size ≤ q) q := fun _ h => h
  intro a am ad uh ur un us uo uv fo wp wk0 wk1 pu u0 u1 n0 n1 hrel hpap hk0 hk1 H locs ls hG hl
  have hcc : 48 + 17 * (j + 1) ≤ room_1.cells := by show _ ≤ 601024; omega
  have hss : 16900 + 2606 * (j + 1) ≤ room_1.slots := by show _ ≤ 7293034; omega
  refine lv_aload_n hx hb dL_law_1607 rfl (lv_at hl 1 rfl) ?_
  refine lv_aload_n hx hb dL_law_1608 rfl (lv_at hl 0 rfl) ?_
  refine lv_iload hx hb dL_law_1609 (lv_at hl 4 rfl) ?_
  refine lv_iconst (v := 1) hx hb dL_law_1611 (by decide) ?_
  refine lv_iadd hx hb dL_law_1612 ?_
  refine x_sld (kn := 1) (by decide) (by decide) hj hL hx hb hX hbl hG.2.2 dL_law_1613 (fun x5_1 ex5_1 => ?_)
  refine lv_aload_n hx hb dL_law_1614 rfl (lv_at hl 0 rfl) ?_
  refine lv_iload hx hb dL_law_1615 (lv_at hl 4 rfl) ?_
  refine lv_iconst (v := 2) hx hb dL_law_1617 (by decide) ?_
  refine lv_iadd hx hb dL_law_1618 ?_
  refine x_sld (kn := 2) (by decide) (by decide) hj hL hx hb hX hbl hG.2.2 dL_law_1619 (fun x10_2 ex10_2 => ?_)
  obtain ⟨r, us', uv', hf4, hf5, hrel⟩ := hR j x5_1 x10_2 uh ur un us uo u0 n0 u1 n1 uv (by omega) hrel
  refine x_callVi (pre := []) (wc := WH κ a uh ++ (WR κ a ur ++ (WN κ a un ++ (WS κ a us ++ WO κ a uo)))) (wc1 := WH κ a uh ++ (WR κ a ur ++ (WN κ a un ++ (WS κ a us' ++ WO κ a uo)))) (post := WM κ am uv ++ ([(ad, .inl (κ 1, 1, .inr (.inl fo)))] ++ (wp ++ (wk0 ++ wk1)))) (As := [.int x5_1, .int x10_2]) (rest := []) (w1 := LW κ a am ad uh ur un us' uo uv fo wp wk0 wk1) ⟨hx, hb, hml, hown, hts⟩ hK hG hA rfl rfl (c_X4_without l D κ a H.size x5_1 x10_2 uh ur un us uo r us' hf4) (cwV 2 hts xG_X4_without rfl rfl rfl (by decide +kernel) ⟨Nat.le_of_ble_eq_true rfl, Nat.le_of_ble_eq_true rfl⟩) 25 4 rfl rfl rfl rfl hl.1 rfl (Nat.le_of_ble_eq_true rfl) dL_law_1620 ⟨by omega, by omega⟩ (fun H locs hG => ?_)
  refine lv_aload_n hx hb dL_law_1623 rfl (lv_at hl 2 rfl) ?_
  refine lv_aload_n hx hb dL_law_1624 rfl (lv_at hl 0 rfl) ?_
  refine lv_iload hx hb dL_law_1625 (lv_at hl 4 rfl) ?_
  refine lv_iconst (v := 1) hx hb dL_law_1627 (by decide) ?_
  refine lv_iadd hx hb dL_law_1628 ?_
  refine x_sld (kn := 1) (by decide) (by decide) hj hL hx hb hX hbl hG.2.2 dL_law_1629 (fun x18_1 ex18_1 => ?_)
  refine lv_aload_n hx hb dL_law_1630 rfl (lv_at hl 0 rfl) ?_
  refine lv_iload hx hb dL_law_1631 (lv_at hl 4 rfl) ?_
  refine lv_iconst (v := 2) hx hb dL_law_1633 (by decide) ?_
  refine lv_iadd hx hb dL_law_1634 ?_
  refine x_sld (kn := 2) (by decide) (by decide) hj hL hx hb hX hbl hG.2.2 dL_law_1635 (fun x23_2 ex23_2 => ?_)
  obtain rfl : x5_1 = x18_1 := ex5_1.trans ex18_1.symm
  obtain rfl : x10_2 = x23_2 := ex10_2.trans ex23_2.symm
  refine x_callVi (pre := WH κ a uh ++ (WR κ a ur ++ (WN κ a un ++ (WS κ a us' ++ WO κ a uo)))) (wc := WM κ am uv) (wc1 := WM κ am uv') (post := ([(ad, .inl (κ 1, 1, .inr (.inl fo)))] ++ (wp ++ (wk0 ++ wk1)))) (As := [.int x5_1, .int x10_2]) (rest := [.int r]) (w1 := LW κ a am ad uh ur un us' uo uv' fo wp wk0 wk1) ⟨hx, hb, hml, hown, hts⟩ hK hG hA rfl rfl (c_X5_without l D κ am H.size x5_1 x10_2 uv r uv' hf5) (cwV 2 hts xG_X5_without rfl rfl rfl (by decide +kernel) ⟨Nat.le_of_ble_eq_true rfl, Nat.le_of_ble_eq_true rfl⟩) 0 5 rfl rfl rfl rfl hl.1 rfl (Nat.le_of_ble_eq_true rfl) dL_law_1636 ⟨by omega, by omega⟩ (fun H locs hG => ?_)
  refine lv_icmp_eq (tgt := 1805) hx hb dL_law_1639 (by decide) (fun c1 => ?_) (fun c1 => absurd rfl c1)
  refine W.widen (k := 48 + 17 * (j + 1)) (n := 16900 + 2606 * (j + 1)) (by omega) (by omega) ?_
  exact hnext a am ad uh ur un us' uo uv' fo wp wk0 wk1 pu u0 u1 n0 n1 hrel hpap hk0 hk1 H locs ls hG hl
set_option maxRecDepth 100000 in
set_option maxHeartbeats 4000000 in
theorem law_c37 (Rel : Nat → HS → NS → OS → HS → NS → HS → NS → MS → Prop) (hR : RS_cheaper Rel) {p : Program} {l : Launch} {e : Env} {s : State} {m : MethodId} {below : List Frame} {meth : Method} {c : Code} {D : va_G} {κ : Nat → ClassId} {b L : Nat} {xs : Nat → Int32} (hL : L ≤ 2560) (C9 : lw_At p s m meth c b L xs) (hK : va_K D vwCl (xT κ) s) (j : Nat) (hj : 5 * j + 5 ≤ L) (hnext : LAt Rel D κ p l e s m below meth c b 1805 j (j + 1)) : LAt Rel D κ p l e s m below meth c b 1644 j j := by
  obtain ⟨hx, hb, hr, hml, hown, hts0, hX, hbl, hlocks, hgv⟩ := C9
  have hts : ∀ w ∈ wsLL, w.before #[Value.ref b] s = true := fun w h => hts0 w (xlw_LL w h)
  have hA : ∀ q : Nat, s.heap.size ≤ q → (fun q : Nat => s.heap.size ≤ q) q := fun _ h => h
  intro a am ad uh ur un us uo uv fo wp wk0 wk1 pu u0 u1 n0 n1 hrel hpap hk0 hk1 H locs ls hG hl
  have hcc : 48 + 17 * (j + 1) ≤ room_1.cells := by show _ ≤ 601024; omega
  have hss : 16900 + 2606 * (j + 1) ≤ room_1.slots := by show _ ≤ 7293034; omega
  refine lv_aload_n hx hb dL_law_1644 rfl (lv_at hl 1 rfl) ?_
  refine lv_aload_n hx hb dL_law_1645 rfl (lv_at hl 0 rfl) ?_
  refine lv_iload hx hb dL_law_1646 (lv_at hl 4 rfl) ?_
  refine lv_iconst (v := 1) hx hb dL_law_1648 (by decide) ?_
  refine lv_iadd hx hb dL_law_1649 ?_
  refine x_sld (kn := 1) (by decide) (by decide) hj hL hx hb hX hbl hG.2.2 dL_law_1650 (fun x5_1 ex5_1 => ?_)
  refine lv_aload_n hx hb dL_law_1651 rfl (lv_at hl 0 rfl) ?_
  refine lv_iload hx hb dL_law_1652 (lv_at hl 4 rfl) ?_
  refine lv_iconst (v := 2) hx hb dL_law_1654 (by decide) ?_
  refine lv_iadd hx hb dL_law_1655 ?_
  refine x_sld (kn := 2) (by decide) (by decide) hj hL hx hb hX hbl hG.2.2 dL_law_1656 (fun x10_2 ex10_2 => ?_)
  obtain ⟨r, us', uv', hf4, hf5, hrel⟩ := hR j x5_1 x10_2 uh ur un us uo u0 n0 u1 n1 uv (by omega) hrel
  refine x_callVi (pre := []) (wc := WH κ a uh ++ (WR κ a ur ++ (WN κ a un ++ (WS κ a us ++ WO κ a uo)))) (wc1 := WH κ a uh ++ (WR κ a ur ++ (WN κ a un ++ (WS κ a us' ++ WO κ a uo)))) (post := WM κ am uv ++ ([(ad, .inl (κ 1, 1, .inr (.inl fo)))] ++ (wp ++ (wk0 ++ wk1)))) (As := [.int x5_1, .int x10_2]) (rest := []) (w1 := LW κ a am ad uh ur un us' uo uv fo wp wk0 wk1) ⟨hx, hb, hml, hown, hts⟩ hK hG hA rfl rfl (c_X4_cheaper l D κ a H.size x5_1 x10_2 uh ur un us uo r us' hf4) (cwV 2 hts xG_X4_cheaper rfl rfl rfl (by decide +kernel) ⟨Nat.le_of_ble_eq_true rfl, Nat.le_of_ble_eq_true rfl⟩) 25 4 rfl rfl rfl rfl hl.1 rfl (Nat.le_of_ble_eq_true rfl) dL_law_1657 ⟨by omega, by omega⟩ (fun H locs hG => ?_)
  refine lv_aload_n hx hb dL_law_1660 rfl (lv_at hl 2 rfl) ?_
  refine lv_aload_n hx hb dL_law_1661 rfl (lv_at hl 0 rfl) ?_
  refine lv_iload hx hb dL_law_1662 (lv_at hl 4 rfl) ?_
  refine lv_iconst (v := 1) hx hb dL_law_1664 (by decide) ?_
  refine lv_iadd hx hb dL_law_1665 ?_
  refine x_sld (kn := 1) (by decide) (by decide) hj hL hx hb hX hbl hG.2.2 dL_law_1666 (fun x18_1 ex18_1 => ?_)
  refine lv_aload_n hx hb dL_law_1667 rfl (lv_at hl 0 rfl) ?_
  refine lv_iload hx hb dL_law_1668 (lv_at hl 4 rfl) ?_
  refine lv_iconst (v := 2) hx hb dL_law_1670 (by decide) ?_
  refine lv_iadd hx hb dL_law_1671 ?_
  refine x_sld (kn := 2) (by decide) (by decide) hj hL hx hb hX hbl hG.2.2 dL_law_1672 (fun x23_2 ex23_2 => ?_)
  obtain rfl : x5_1 = x18_1 := ex5_1.trans ex18_1.symm
  obtain rfl : x10_2 = x23_2 := ex10_2.trans ex23_2.symm
  refine x_callVi (pre := WH κ a uh ++ (WR κ a ur ++ (WN κ a un ++ (WS κ a us' ++ WO κ a uo)))) (wc := WM κ am uv) (wc1 := WM κ am uv') (post := ([(ad, .inl (κ 1, 1, .inr (.inl fo)))] ++ (wp ++ (wk0 ++ wk1)))) (As := [.int x5_1, .int x10_2]) (rest := [.int r]) (w1 := LW κ a am ad uh ur un us' uo uv' fo wp wk0 wk1) ⟨hx, hb, hml, hown, hts⟩ hK hG hA rfl rfl (c_X5_cheaper l D κ am H.size x5_1 x10_2 uv r uv' hf5) (cwV 2 hts xG_X5_cheaper rfl rfl rfl (by decide +kernel) ⟨Nat.le_of_ble_eq_true rfl, Nat.le_of_ble_eq_true rfl⟩) 0 5 rfl rfl rfl rfl hl.1 rfl (Nat.le_of_ble_eq_true rfl) dL_law_1673 ⟨by omega, by omega⟩ (fun H locs hG => ?_)
  refine lv_icmp_eq (tgt := 1805) hx hb dL_law_1676 (by decide) (fun c1 => ?_) (fun c1 => absurd rfl c1)
  refine W.widen (k := 48 + 17 * (j + 1)) (n := 16900 + 2606 * (j + 1)) (by omega) (by omega) ?_
  exact hnext a am ad uh ur un us' uo uv' fo wp wk0 wk1 pu u0 u1 n0 n1 hrel hpap hk0 hk1 H locs ls hG hl
set_option maxRecDepth 100000 in
set_option maxHeartbeats 4000000 in
theorem law_c38 (Rel : Nat → HS → NS → OS → HS → NS → HS → NS → MS → Prop) (hR : RS_second Rel) {p : Program} {l : Launch} {e : Env} {s : State} {m : MethodId} {below : List Frame} {meth : Method} {c : Code} {D : va_G} {κ : Nat → ClassId} {b L : Nat} {xs : Nat → Int32} (hL : L ≤ 2560) (C9 : lw_At p s m meth c b L xs) (hK : va_K D vwCl (xT κ) s) (j : Nat) (hj : 5 * j + 5 ≤ L) (hnext : LAt Rel D κ p l e s m below meth c b 1805 j (j + 1)) : LAt Rel D κ p l e s m below meth c b 1681 j j := by
  obtain ⟨hx, hb, hr, hml, hown, hts0, hX, hbl, hlocks, hgv⟩ := C9
  have hts : ∀ w ∈ wsLL, w.before #[Value.ref b] s = true := fun w h => hts0 w (xlw_LL w h)
  have hA : ∀ q : Nat, s.heap.size ≤ q → (fun q : Nat => s.heap.size ≤ q) q := fun _ h => h
  intro a am ad uh ur un us uo uv fo wp wk0 wk1 pu u0 u1 n0 n1 hrel hpap hk0 hk1 H locs ls hG hl
  have hcc : 48 + 17 * (j + 1) ≤ room_1.cells := by show _ ≤ 601024; omega
  have hss : 16900 + 2606 * (j + 1) ≤ room_1.slots := by show _ ≤ 7293034; omega
  refine lv_aload_n hx hb dL_law_1681 rfl (lv_at hl 1 rfl) ?_
  refine lv_aload_n hx hb dL_law_1682 rfl (lv_at hl 0 rfl) ?_
  refine lv_iload hx hb dL_law_1683 (lv_at hl 4 rfl) ?_
  refine lv_iconst (v := 1) hx hb dL_law_1685 (by decide) ?_
  refine lv_iadd hx hb dL_law_1686 ?_
  refine x_sld (kn := 1) (by decide) (by decide) hj hL hx hb hX hbl hG.2.2 dL_law_1687 (fun x5_1 ex5_1 => ?_)
  refine lv_aload_n hx hb dL_law_1688 rfl (lv_at hl 0 rfl) ?_
  refine lv_iload hx hb dL_law_1689 (lv_at hl 4 rfl) ?_
  refine lv_iconst (v := 2) hx hb dL_law_1691 (by decide) ?_
  refine lv_iadd hx hb dL_law_1692 ?_
  refine x_sld (kn := 2) (by decide) (by decide) hj hL hx hb hX hbl hG.2.2 dL_law_1693 (fun x10_2 ex10_2 => ?_)
  obtain ⟨r, us', uv', hf4, hf5, hrel⟩ := hR j x5_1 x10_2 uh ur un us uo u0 n0 u1 n1 uv (by omega) hrel
  refine x_callVi (pre := []) (wc := WH κ a uh ++ (WR κ a ur ++ (WN κ a un ++ (WS κ a us ++ WO κ a uo)))) (wc1 := WH κ a uh ++ (WR κ a ur ++ (WN κ a un ++ (WS κ a us' ++ WO κ a uo)))) (post := WM κ am uv ++ ([(ad, .inl (κ 1, 1, .inr (.inl fo)))] ++ (wp ++ (wk0 ++ wk1)))) (As := [.int x5_1, .int x10_2]) (rest := []) (w1 := LW κ a am ad uh ur un us' uo uv fo wp wk0 wk1) ⟨hx, hb, hml, hown, hts⟩ hK hG hA rfl rfl (c_X4_second l D κ a H.size x5_1 x10_2 uh ur un us uo r us' hf4) (cwV 2 hts xG_X4_second rfl rfl rfl (by decide +kernel) ⟨Nat.le_of_ble_eq_true rfl, Nat.le_of_ble_eq_true rfl⟩) 25 4 rfl rfl rfl rfl hl.1 rfl (Nat.le_of_ble_eq_true rfl) dL_law_1694 ⟨by omega, by omega⟩ (fun H locs hG => ?_)
  refine lv_aload_n hx hb dL_law_1697 rfl (lv_at hl 2 rfl) ?_
  refine lv_aload_n hx hb dL_law_1698 rfl (lv_at hl 0 rfl) ?_
  refine lv_iload hx hb dL_law_1699 (lv_at hl 4 rfl) ?_
  refine lv_iconst (v := 1) hx hb dL_law_1701 (by decide) ?_
  refine lv_iadd hx hb dL_law_1702 ?_
  refine x_sld (kn := 1) (by decide) (by decide) hj hL hx hb hX hbl hG.2.2 dL_law_1703 (fun x18_1 ex18_1 => ?_)
  refine lv_aload_n hx hb dL_law_1704 rfl (lv_at hl 0 rfl) ?_
  refine lv_iload hx hb dL_law_1705 (lv_at hl 4 rfl) ?_
  refine lv_iconst (v := 2) hx hb dL_law_1707 (by decide) ?_
  refine lv_iadd hx hb dL_law_1708 ?_
  refine x_sld (kn := 2) (by decide) (by decide) hj hL hx hb hX hbl hG.2.2 dL_law_1709 (fun x23_2 ex23_2 => ?_)
  obtain rfl : x5_1 = x18_1 := ex5_1.trans ex18_1.symm
  obtain rfl : x10_2 = x23_2 := ex10_2.trans ex23_2.symm
  refine x_callVi (pre := WH κ a uh ++ (WR κ a ur ++ (WN κ a un ++ (WS κ a us' ++ WO κ a uo)))) (wc := WM κ am uv) (wc1 := WM κ am uv') (post := ([(ad, .inl (κ 1, 1, .inr (.inl fo)))] ++ (wp ++ (wk0 ++ wk1)))) (As := [.int x5_1, .int x10_2]) (rest := [.int r]) (w1 := LW κ a am ad uh ur un us' uo uv' fo wp wk0 wk1) ⟨hx, hb, hml, hown, hts⟩ hK hG hA rfl rfl (c_X5_second l D κ am H.size x5_1 x10_2 uv r uv' hf5) (cwV 2 hts xG_X5_second rfl rfl rfl (by decide +kernel) ⟨Nat.le_of_ble_eq_true rfl, Nat.le_of_ble_eq_true rfl⟩) 0 5 rfl rfl rfl rfl hl.1 rfl (Nat.le_of_ble_eq_true rfl) dL_law_1710 ⟨by omega, by omega⟩ (fun H locs hG => ?_)
  refine lv_icmp_eq (tgt := 1805) hx hb dL_law_1713 (by decide) (fun c1 => ?_) (fun c1 => absurd rfl c1)
  refine W.widen (k := 48 + 17 * (j + 1)) (n := 16900 + 2606 * (j + 1)) (by omega) (by omega) ?_
  exact hnext a am ad uh ur un us' uo uv' fo wp wk0 wk1 pu u0 u1 n0 n1 hrel hpap hk0 hk1 H locs ls hG hl
set_option maxRecDepth 100000 in
set_option maxHeartbeats 4000000 in
theorem law_c39 (Rel : Nat → HS → NS → OS → HS → NS → HS → NS → MS → Prop) (hR : RS_center Rel) {p : Program} {l : Launch} {e : Env} {s : State} {m : MethodId} {below : List Frame} {meth : Method} {c : Code} {D : va_G} {κ : Nat → ClassId} {b L : Nat} {xs : Nat → Int32} (hL : L ≤ 2560) (C9 : lw_At p s m meth c b L xs) (hK : va_K D vwCl (xT κ) s) (j : Nat) (hj : 5 * j + 5 ≤ L) (hnext : LAt Rel D κ p l e s m below meth c b 1805 j (j + 1)) : LAt Rel D κ p l e s m below meth c b 1718 j j := by
  obtain ⟨hx, hb, hr, hml, hown, hts0, hX, hbl, hlocks, hgv⟩ := C9
  have hts : ∀ w ∈ wsLL, w.before #[Value.ref b] s = true := fun w h => hts0 w (xlw_LL w h)
  have hA : ∀ q : Nat, s.heap.size ≤ q → (fun q : Nat => s.heap.size ≤ q) q := fun _ h => h
  intro a am ad uh ur un us uo uv fo wp wk0 wk1 pu u0 u1 n0 n1 hrel hpap hk0 hk1 H locs ls hG hl
  have hcc : 48 + 17 * (j + 1) ≤ room_1.cells := by show _ ≤ 601024; omega
  have hss : 16900 + 2606 * (j + 1) ≤ room_1.slots := by show _ ≤ 7293034; omega
  refine lv_aload_n hx hb dL_law_1718 rfl (lv_at hl 1 rfl) ?_
  refine lv_aload_n hx hb dL_law_1719 rfl (lv_at hl 0 rfl) ?_
  refine lv_iload hx hb dL_law_1720 (lv_at hl 4 rfl) ?_
  refine lv_iconst (v := 1) hx hb dL_law_1722 (by decide) ?_
  refine lv_iadd hx hb dL_law_1723 ?_
  refine x_sld (kn := 1) (by decide) (by decide) hj hL hx hb hX hbl hG.2.2 dL_law_1724 (fun x5_1 ex5_1 => ?_)
  obtain ⟨r, us', uv', hf4, hf5, hrel⟩ := hR j x5_1 uh ur un us uo u0 n0 u1 n1 uv (by omega) hrel
  refine x_callVi (pre := []) (wc := WH κ a uh ++ (WR κ a ur ++ (WN κ a un ++ (WS κ a us ++ WO κ a uo)))) (wc1 := WH κ a uh ++ (WR κ a ur ++ (WN κ a un ++ (WS κ a us' ++ WO κ a uo)))) (post := WM κ am uv ++ ([(ad, .inl (κ 1, 1, .inr (.inl fo)))] ++ (wp ++ (wk0 ++ wk1)))) (As := [.int x5_1]) (rest := []) (w1 := LW κ a am ad uh ur un us' uo uv fo wp wk0 wk1) ⟨hx, hb, hml, hown, hts⟩ hK hG hA rfl rfl (c_X4_center l D κ a H.size x5_1 uh ur un us uo r us' hf4) (cwV 1 hts xG_X4_center rfl rfl rfl (by decide +kernel) ⟨Nat.le_of_ble_eq_true rfl, Nat.le_of_ble_eq_true rfl⟩) 25 4 rfl rfl rfl rfl hl.1 rfl (Nat.le_of_ble_eq_true rfl) dL_law_1725 ⟨by omega, by omega⟩ (fun H locs hG => ?_)
  refine lv_aload_n hx hb dL_law_1728 rfl (lv_at hl 2 rfl) ?_
  refine lv_aload_n hx hb dL_law_1729 rfl (lv_at hl 0 rfl) ?_
  refine lv_iload hx hb dL_law_1730 (lv_at hl 4 rfl) ?_
  refine lv_iconst (v := 1) hx hb dL_law_1732 (by decide) ?_
  refine lv_iadd hx hb dL_law_1733 ?_
  refine x_sld (kn := 1) (by decide) (by decide) hj hL hx hb hX hbl hG.2.2 dL_law_1734 (fun x13_1 ex13_1 => ?_)
  obtain rfl : x5_1 = x13_1 := ex5_1.trans ex13_1.symm
  refine x_callVi (pre := WH κ a uh ++ (WR κ a ur ++ (WN κ a un ++ (WS κ a us' ++ WO κ a uo)))) (wc := WM κ am uv) (wc1 := WM κ am uv') (post := ([(ad, .inl (κ 1, 1, .inr (.inl fo)))] ++ (wp ++ (wk0 ++ wk1)))) (As := [.int x5_1]) (rest := [.int r]) (w1 := LW κ a am ad uh ur un us' uo uv' fo wp wk0 wk1) ⟨hx, hb, hml, hown, hts⟩ hK hG hA rfl rfl (c_X5_center l D κ am H.size x5_1 uv r uv' hf5) (cwV 1 hts xG_X5_center rfl rfl rfl (by decide +kernel) ⟨Nat.le_of_ble_eq_true rfl, Nat.le_of_ble_eq_true rfl⟩) 0 5 rfl rfl rfl rfl hl.1 rfl (Nat.le_of_ble_eq_true rfl) dL_law_1735 ⟨by omega, by omega⟩ (fun H locs hG => ?_)
  refine lv_icmp_eq (tgt := 1805) hx hb dL_law_1738 (by decide) (fun c1 => ?_) (fun c1 => absurd rfl c1)
  refine W.widen (k := 48 + 17 * (j + 1)) (n := 16900 + 2606 * (j + 1)) (by omega) (by omega) ?_
  exact hnext a am ad uh ur un us' uo uv' fo wp wk0 wk1 pu u0 u1 n0 n1 hrel hpap hk0 hk1 H locs ls hG hl
set_option maxRecDepth 100000 in
set_option maxHeartbeats 4000000 in
theorem law_c40 (Rel : Nat → HS → NS → OS → HS → NS → HS → NS → MS → Prop) (hR : RS_arcs Rel) {p : Program} {l : Launch} {e : Env} {s : State} {m : MethodId} {below : List Frame} {meth : Method} {c : Code} {D : va_G} {κ : Nat → ClassId} {b L : Nat} {xs : Nat → Int32} (hL : L ≤ 2560) (C9 : lw_At p s m meth c b L xs) (hK : va_K D vwCl (xT κ) s) (j : Nat) (hj : 5 * j + 5 ≤ L) (hnext : LAt Rel D κ p l e s m below meth c b 1805 j (j + 1)) : LAt Rel D κ p l e s m below meth c b 1743 j j := by
  obtain ⟨hx, hb, hr, hml, hown, hts0, hX, hbl, hlocks, hgv⟩ := C9
  have hts : ∀ w ∈ wsLL, w.before #[Value.ref b] s = true := fun w h => hts0 w (xlw_LL w h)
  have hA : ∀ q : Nat, s.heap.size ≤ q → (fun q : Nat => s.heap.size ≤ q) q := fun _ h => h
  intro a am ad uh ur un us uo uv fo wp wk0 wk1 pu u0 u1 n0 n1 hrel hpap hk0 hk1 H locs ls hG hl
  have hcc : 48 + 17 * (j + 1) ≤ room_1.cells := by show _ ≤ 601024; omega
  have hss : 16900 + 2606 * (j + 1) ≤ room_1.slots := by show _ ≤ 7293034; omega
  refine lv_aload_n hx hb dL_law_1743 rfl (lv_at hl 1 rfl) ?_
  refine lv_aload_n hx hb dL_law_1744 rfl (lv_at hl 0 rfl) ?_
  refine lv_iload hx hb dL_law_1745 (lv_at hl 4 rfl) ?_
  refine lv_iconst (v := 1) hx hb dL_law_1747 (by decide) ?_
  refine lv_iadd hx hb dL_law_1748 ?_
  refine x_sld (kn := 1) (by decide) (by decide) hj hL hx hb hX hbl hG.2.2 dL_law_1749 (fun x5_1 ex5_1 => ?_)
  refine lv_aload_n hx hb dL_law_1750 rfl (lv_at hl 0 rfl) ?_
  refine lv_iload hx hb dL_law_1751 (lv_at hl 4 rfl) ?_
  refine lv_iconst (v := 2) hx hb dL_law_1753 (by decide) ?_
  refine lv_iadd hx hb dL_law_1754 ?_
  refine x_sld (kn := 2) (by decide) (by decide) hj hL hx hb hX hbl hG.2.2 dL_law_1755 (fun x10_2 ex10_2 => ?_)
  obtain ⟨r, uv', hf4, hf5, hrel⟩ := hR j x5_1 x10_2 uh ur un us uo u0 n0 u1 n1 uv (by omega) hrel
  refine x_callVi (pre := []) (wc := WH κ a uh ++ (WR κ a ur ++ (WN κ a un ++ (WS κ a us ++ WO κ a uo)))) (wc1 := WH κ a uh ++ (WR κ a ur ++ (WN κ a un ++ (WS κ a us ++ WO κ a uo)))) (post := WM κ am uv ++ ([(ad, .inl (κ 1, 1, .inr (.inl fo)))] ++ (wp ++ (wk0 ++ wk1)))) (As := [.int x5_1, .int x10_2]) (rest := []) (w1 := LW κ a am ad uh ur un us uo uv fo wp wk0 wk1) ⟨hx, hb, hml, hown, hts⟩ hK hG hA rfl rfl (c_X4_arcs l D κ a H.size x5_1 x10_2 uh ur un us uo r  hf4) (cwV 2 hts xG_X4_arcs rfl rfl rfl (by decide +kernel) ⟨Nat.le_of_ble_eq_true rfl, Nat.le_of_ble_eq_true rfl⟩) 25 4 rfl rfl rfl rfl hl.1 rfl (Nat.le_of_ble_eq_true rfl) dL_law_1756 ⟨by omega, by omega⟩ (fun H locs hG => ?_)
  refine lv_aload_n hx hb dL_law_1759 rfl (lv_at hl 2 rfl) ?_
  refine lv_aload_n hx hb dL_law_1760 rfl (lv_at hl 0 rfl) ?_
  refine lv_iload hx hb dL_law_1761 (lv_at hl 4 rfl) ?_
  refine lv_iconst (v := 1) hx hb dL_law_1763 (by decide) ?_
  refine lv_iadd hx hb dL_law_1764 ?_
  refine x_sld (kn := 1) (by decide) (by decide) hj hL hx hb hX hbl hG.2.2 dL_law_1765 (fun x18_1 ex18_1 => ?_)
  refine lv_aload_n hx hb dL_law_1766 rfl (lv_at hl 0 rfl) ?_
  refine lv_iload hx hb dL_law_1767 (lv_at hl 4 rfl) ?_
  refine lv_iconst (v := 2) hx hb dL_law_1769 (by decide) ?_
  refine lv_iadd hx hb dL_law_1770 ?_
  refine x_sld (kn := 2) (by decide) (by decide) hj hL hx hb hX hbl hG.2.2 dL_law_1771 (fun x23_2 ex23_2 => ?_)
  obtain rfl : x5_1 = x18_1 := ex5_1.trans ex18_1.symm
  obtain rfl : x10_2 = x23_2 := ex10_2.trans ex23_2.symm
  refine x_callVi (pre := WH κ a uh ++ (WR κ a ur ++ (WN κ a un ++ (WS κ a us ++ WO κ a uo)))) (wc := WM κ am uv) (wc1 := WM κ am uv') (post := ([(ad, .inl (κ 1, 1, .inr (.inl fo)))] ++ (wp ++ (wk0 ++ wk1)))) (As := [.int x5_1, .int x10_2]) (rest := [.int r]) (w1 := LW κ a am ad uh ur un us uo uv' fo wp wk0 wk1) ⟨hx, hb, hml, hown, hts⟩ hK hG hA rfl rfl (c_X5_arcs l D κ am H.size x5_1 x10_2 uv r uv' hf5) (cwV 2 hts xG_X5_arcs rfl rfl rfl (by decide +kernel) ⟨Nat.le_of_ble_eq_true rfl, Nat.le_of_ble_eq_true rfl⟩) 0 5 rfl rfl rfl rfl hl.1 rfl (Nat.le_of_ble_eq_true rfl) dL_law_1772 ⟨by omega, by omega⟩ (fun H locs hG => ?_)
  refine lv_icmp_eq (tgt := 1805) hx hb dL_law_1775 (by decide) (fun c1 => ?_) (fun c1 => absurd rfl c1)
  refine W.widen (k := 48 + 17 * (j + 1)) (n := 16900 + 2606 * (j + 1)) (by omega) (by omega) ?_
  exact hnext a am ad uh ur un us uo uv' fo wp wk0 wk1 pu u0 u1 n0 n1 hrel hpap hk0 hk1 H locs ls hG hl
set_option maxRecDepth 100000 in
set_option maxHeartbeats 4000000 in
theorem law_c41 (Rel : Nat → HS → NS → OS → HS → NS → HS → NS → MS → Prop) (hR : RS_count Rel) {p : Program} {l : Launch} {e : Env} {s : State} {m : MethodId} {below : List Frame} {meth : Method} {c : Code} {D : va_G} {κ : Nat → ClassId} {b L : Nat} {xs : Nat → Int32} (hL : L ≤ 2560) (C9 : lw_At p s m meth c b L xs) (hK : va_K D vwCl (xT κ) s) (j : Nat) (hj : 5 * j + 5 ≤ L) (hnext : LAt Rel D κ p l e s m below meth c b 1805 j (j + 1)) : LAt Rel D κ p l e s m below meth c b 1780 j j := by
  obtain ⟨hx, hb, hr, hml, hown, hts0, hX, hbl, hlocks, hgv⟩ := C9
  have hts : ∀ w ∈ wsLL, w.before #[Value.ref b] s = true := fun w h => hts0 w (xlw_LL w h)
  have hA : ∀ q : Nat, s.heap.size ≤ q → (fun q : Nat => s.heap.size ≤ q) q := fun _ h => h
  intro a am ad uh ur un us uo uv fo wp wk0 wk1 pu u0 u1 n0 n1 hrel hpap hk0 hk1 H locs ls hG hl
  have hcc : 48 + 17 * (j + 1) ≤ room_1.cells := by show _ ≤ 601024; omega
  have hss : 16900 + 2606 * (j + 1) ≤ room_1.slots := by show _ ≤ 7293034; omega
  refine lv_aload_n hx hb dL_law_1780 rfl (lv_at hl 1 rfl) ?_
  refine lv_aload_n hx hb dL_law_1781 rfl (lv_at hl 0 rfl) ?_
  refine lv_iload hx hb dL_law_1782 (lv_at hl 4 rfl) ?_
  refine lv_iconst (v := 1) hx hb dL_law_1784 (by decide) ?_
  refine lv_iadd hx hb dL_law_1785 ?_
  refine x_sld (kn := 1) (by decide) (by decide) hj hL hx hb hX hbl hG.2.2 dL_law_1786 (fun x5_1 ex5_1 => ?_)
  obtain ⟨r, uv', hf4, hf5, hrel⟩ := hR j x5_1 uh ur un us uo u0 n0 u1 n1 uv (by omega) hrel
  refine x_callVi (pre := []) (wc := WH κ a uh ++ (WR κ a ur ++ (WN κ a un ++ (WS κ a us ++ WO κ a uo)))) (wc1 := WH κ a uh ++ (WR κ a ur ++ (WN κ a un ++ (WS κ a us ++ WO κ a uo)))) (post := WM κ am uv ++ ([(ad, .inl (κ 1, 1, .inr (.inl fo)))] ++ (wp ++ (wk0 ++ wk1)))) (As := [.int x5_1]) (rest := []) (w1 := LW κ a am ad uh ur un us uo uv fo wp wk0 wk1) ⟨hx, hb, hml, hown, hts⟩ hK hG hA rfl rfl (c_X4_count l D κ a H.size x5_1 uh ur un us uo r  hf4) (cwV 1 hts xG_X4_count rfl rfl rfl (by decide +kernel) ⟨Nat.le_of_ble_eq_true rfl, Nat.le_of_ble_eq_true rfl⟩) 25 4 rfl rfl rfl rfl hl.1 rfl (Nat.le_of_ble_eq_true rfl) dL_law_1787 ⟨by omega, by omega⟩ (fun H locs hG => ?_)
  refine lv_aload_n hx hb dL_law_1790 rfl (lv_at hl 2 rfl) ?_
  refine lv_aload_n hx hb dL_law_1791 rfl (lv_at hl 0 rfl) ?_
  refine lv_iload hx hb dL_law_1792 (lv_at hl 4 rfl) ?_
  refine lv_iconst (v := 1) hx hb dL_law_1794 (by decide) ?_
  refine lv_iadd hx hb dL_law_1795 ?_
  refine x_sld (kn := 1) (by decide) (by decide) hj hL hx hb hX hbl hG.2.2 dL_law_1796 (fun x13_1 ex13_1 => ?_)
  obtain rfl : x5_1 = x13_1 := ex5_1.trans ex13_1.symm
  refine x_callVi (pre := WH κ a uh ++ (WR κ a ur ++ (WN κ a un ++ (WS κ a us ++ WO κ a uo)))) (wc := WM κ am uv) (wc1 := WM κ am uv') (post := ([(ad, .inl (κ 1, 1, .inr (.inl fo)))] ++ (wp ++ (wk0 ++ wk1)))) (As := [.int x5_1]) (rest := [.int r]) (w1 := LW κ a am ad uh ur un us uo uv' fo wp wk0 wk1) ⟨hx, hb, hml, hown, hts⟩ hK hG hA rfl rfl (c_X5_count l D κ am H.size x5_1 uv r uv' hf5) (cwV 1 hts xG_X5_count rfl rfl rfl (by decide +kernel) ⟨Nat.le_of_ble_eq_true rfl, Nat.le_of_ble_eq_true rfl⟩) 0 5 rfl rfl rfl rfl hl.1 rfl (Nat.le_of_ble_eq_true rfl) dL_law_1797 ⟨by omega, by omega⟩ (fun H locs hG => ?_)
  refine lv_icmp_eq (tgt := 1805) hx hb dL_law_1800 (by decide) (fun c1 => ?_) (fun c1 => absurd rfl c1)
  refine W.widen (k := 48 + 17 * (j + 1)) (n := 16900 + 2606 * (j + 1)) (by omega) (by omega) ?_
  exact hnext a am ad uh ur un us uo uv' fo wp wk0 wk1 pu u0 u1 n0 n1 hrel hpap hk0 hk1 H locs ls hG hl
