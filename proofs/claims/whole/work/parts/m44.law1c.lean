set_option maxRecDepth 100000 in
set_option maxHeartbeats 4000000 in
theorem law_c22 (Rel : Nat → HS → NS → OS → HS → NS → HS → NS → MS → Prop) (hR : RS_ranked Rel) {p : Program} {l : Launch} {e : Env} {s : State} {m : MethodId} {below : List Frame} {meth : Method} {c : Code} {D : va_G} {κ : Nat → ClassId} {b L : Nat} {xs : Nat → Int32} (hL : L ≤ 2560) (C9 : lw_At p s m meth c b L xs) (hK : va_K D vwCl (xT κ) s) (j : Nat) (hj : 5 * j + 5 ≤ L) (hnext : LAt Rel D κ p l e s m below meth c b 1805 j (j + 1)) : LAt Rel D κ p l e s m below meth c b 1011 j j := by
  obtain ⟨hx, hb, hr, hml, hown, hts0, hX, hbl, hlocks, hgv⟩ := C9
  have hts : ∀ w ∈ wsLL, w.before #[Value.ref b] s = true := fun w h => hts0 w (xlw_LL w h)
  have hA : ∀ q : Nat, s.heap.size ≤ q → (fun q : Nat => s.heap.size ≤ q) q := fun _ h => h
  intro a am ad uh ur un us uo uv fo wp wk0 wk1 pu u0 u1 n0 n1 hrel hpap hk0 hk1 H locs ls hG hl
  have hcc : 48 + 17 * (j + 1) ≤ room_1.cells := by show _ ≤ 601024; omega
  have hss : 16900 + 2606 * (j + 1) ≤ room_1.slots := by show _ ≤ 7293034; omega
  refine lv_aload_n hx hb dL_law_1011 rfl (lv_at hl 1 rfl) ?_
  refine lv_aload_n hx hb dL_law_1012 rfl (lv_at hl 0 rfl) ?_
  refine lv_iload hx hb dL_law_1013 (lv_at hl 4 rfl) ?_
  refine lv_iconst (v := 1) hx hb dL_law_1015 (by decide) ?_
  refine lv_iadd hx hb dL_law_1016 ?_
  refine x_sld (kn := 1) (by decide) (by decide) hj hL hx hb hX hbl hG.2.2 dL_law_1017 (fun x5_1 ex5_1 => ?_)
  refine lv_aload_n hx hb dL_law_1018 rfl (lv_at hl 0 rfl) ?_
  refine lv_iload hx hb dL_law_1019 (lv_at hl 4 rfl) ?_
  refine lv_iconst (v := 2) hx hb dL_law_1021 (by decide) ?_
  refine lv_iadd hx hb dL_law_1022 ?_
  refine x_sld (kn := 2) (by decide) (by decide) hj hL hx hb hX hbl hG.2.2 dL_law_1023 (fun x10_2 ex10_2 => ?_)
  obtain ⟨r, uv', hf4, hf5, hrel⟩ := hR j x5_1 x10_2 uh ur un us uo u0 n0 u1 n1 uv (by omega) hrel
  refine x_callVi (pre := []) (wc := WH κ a uh ++ (WR κ a ur ++ (WN κ a un ++ (WS κ a us ++ WO κ a uo)))) (wc1 := WH κ a uh ++ (WR κ a ur ++ (WN κ a un ++ (WS κ a us ++ WO κ a uo)))) (post := WM κ am uv ++ ([(ad, .inl (κ 1, 1, .inr (.inl fo)))] ++ (wp ++ (wk0 ++ wk1)))) (As := [.int x5_1, .int x10_2]) (rest := []) (w1 := LW κ a am ad uh ur un us uo uv fo wp wk0 wk1) ⟨hx, hb, hml, hown, hts⟩ hK hG hA rfl rfl (c_X4_ranked l D κ a H.size x5_1 x10_2 uh ur un us uo r  hf4) (cwV 2 hts xG_X4_ranked rfl rfl rfl (by decide +kernel) ⟨Nat.le_of_ble_eq_true rfl, Nat.le_of_ble_eq_true rfl⟩) 25 4 rfl rfl rfl rfl hl.1 rfl (Nat.le_of_ble_eq_true rfl) dL_law_1024 ⟨by omega, by omega⟩ (fun H locs hG => ?_)
  refine lv_aload_n hx hb dL_law_1027 rfl (lv_at hl 2 rfl) ?_
  refine lv_aload_n hx hb dL_law_1028 rfl (lv_at hl 0 rfl) ?_
  refine lv_iload hx hb dL_law_1029 (lv_at hl 4 rfl) ?_
  refine lv_iconst (v := 1) hx hb dL_law_1031 (by decide) ?_
  refine lv_iadd hx hb dL_law_1032 ?_
  refine x_sld (kn := 1) (by decide) (by decide) hj hL hx hb hX hbl hG.2.2 dL_law_1033 (fun x18_1 ex18_1 => ?_)
  refine lv_aload_n hx hb dL_law_1034 rfl (lv_at hl 0 rfl) ?_
  refine lv_iload hx hb dL_law_1035 (lv_at hl 4 rfl) ?_
  refine lv_iconst (v := 2) hx hb dL_law_1037 (by decide) ?_
  refine lv_iadd hx hb dL_law_1038 ?_
  refine x_sld (kn := 2) (by decide) (by decide) hj hL hx hb hX hbl hG.2.2 dL_law_1039 (fun x23_2 ex23_2 => ?_)
  obtain rfl : x5_1 = x18_1 := ex5_1.trans ex18_1.symm
  obtain rfl : x10_2 = x23_2 := ex10_2.trans ex23_2.symm
  refine x_callVi (pre := WH κ a uh ++ (WR κ a ur ++ (WN κ a un ++ (WS κ a us ++ WO κ a uo)))) (wc := WM κ am uv) (wc1 := WM κ am uv') (post := ([(ad, .inl (κ 1, 1, .inr (.inl fo)))] ++ (wp ++ (wk0 ++ wk1)))) (As := [.int x5_1, .int x10_2]) (rest := [.int r]) (w1 := LW κ a am ad uh ur un us uo uv' fo wp wk0 wk1) ⟨hx, hb, hml, hown, hts⟩ hK hG hA rfl rfl (c_X5_ranked l D κ am H.size x5_1 x10_2 uv r uv' hf5) (cwV 2 hts xG_X5_ranked rfl rfl rfl (by decide +kernel) ⟨Nat.le_of_ble_eq_true rfl, Nat.le_of_ble_eq_true rfl⟩) 0 5 rfl rfl rfl rfl hl.1 rfl (Nat.le_of_ble_eq_true rfl) dL_law_1040 ⟨by omega, by omega⟩ (fun H locs hG => ?_)
  refine lv_icmp_eq (tgt := 1805) hx hb dL_law_1043 (by decide) (fun c1 => ?_) (fun c1 => absurd rfl c1)
  refine W.widen (k := 48 + 17 * (j + 1)) (n := 16900 + 2606 * (j + 1)) (by omega) (by omega) ?_
  exact hnext a am ad uh ur un us uo uv' fo wp wk0 wk1 pu u0 u1 n0 n1 hrel hpap hk0 hk1 H locs ls hG hl
set_option maxRecDepth 100000 in
set_option maxHeartbeats 4000000 in
theorem law_c23 (Rel : Nat → HS → NS → OS → HS → NS → HS → NS → MS → Prop) (hR : RS_least Rel) {p : Program} {l : Launch} {e : Env} {s : State} {m : MethodId} {below : List Frame} {meth : Method} {c : Code} {D : va_G} {κ : Nat → ClassId} {b L : Nat} {xs : Nat → Int32} (hL : L ≤ 2560) (C9 : lw_At p s m meth c b L xs) (hK : va_K D vwCl (xT κ) s) (j : Nat) (hj : 5 * j + 5 ≤ L) (hnext : LAt Rel D κ p l e s m below meth c b 1805 j (j + 1)) : LAt Rel D κ p l e s m below meth c b 1048 j j := by
  obtain ⟨hx, hb, hr, hml, hown, hts0, hX, hbl, hlocks, hgv⟩ := C9
  have hts : ∀ w ∈ wsLL, w.before #[Value.ref b] s = true := fun w h => hts0 w (xlw_LL w h)
  have hA : ∀ q : Nat, s.heap.size ≤ q → (fun q : Nat => s.heap.size ≤ q) q := fun _ h => h
  intro a am ad uh ur un us uo uv fo wp wk0 wk1 pu u0 u1 n0 n1 hrel hpap hk0 hk1 H locs ls hG hl
  have hcc : 48 + 17 * (j + 1) ≤ room_1.cells := by show _ ≤ 601024; omega
  have hss : 16900 + 2606 * (j + 1) ≤ room_1.slots := by show _ ≤ 7293034; omega
  refine lv_aload_n hx hb dL_law_1048 rfl (lv_at hl 1 rfl) ?_
  refine lv_aload_n hx hb dL_law_1049 rfl (lv_at hl 0 rfl) ?_
  refine lv_iload hx hb dL_law_1050 (lv_at hl 4 rfl) ?_
  refine lv_iconst (v := 1) hx hb dL_law_1052 (by decide) ?_
  refine lv_iadd hx hb dL_law_1053 ?_
  refine x_sld (kn := 1) (by decide) (by decide) hj hL hx hb hX hbl hG.2.2 dL_law_1054 (fun x5_1 ex5_1 => ?_)
  refine lv_aload_n hx hb dL_law_1055 rfl (lv_at hl 0 rfl) ?_
  refine lv_iload hx hb dL_law_1056 (lv_at hl 4 rfl) ?_
  refine lv_iconst (v := 2) hx hb dL_law_1058 (by decide) ?_
  refine lv_iadd hx hb dL_law_1059 ?_
  refine x_sld (kn := 2) (by decide) (by decide) hj hL hx hb hX hbl hG.2.2 dL_law_1060 (fun x10_2 ex10_2 => ?_)
  obtain ⟨r, ur', uv', hf4, hf5, hrel⟩ := hR j x5_1 x10_2 uh ur un us uo u0 n0 u1 n1 uv (by omega) hrel
  refine x_callVi (pre := []) (wc := WH κ a uh ++ (WR κ a ur ++ (WN κ a un ++ (WS κ a us ++ WO κ a uo)))) (wc1 := WH κ a uh ++ (WR κ a ur' ++ (WN κ a un ++ (WS κ a us ++ WO κ a uo)))) (post := WM κ am uv ++ ([(ad, .inl (κ 1, 1, .inr (.inl fo)))] ++ (wp ++ (wk0 ++ wk1)))) (As := [.int x5_1, .int x10_2]) (rest := []) (w1 := LW κ a am ad uh ur' un us uo uv fo wp wk0 wk1) ⟨hx, hb, hml, hown, hts⟩ hK hG hA rfl rfl (c_X4_least l D κ a H.size x5_1 x10_2 uh ur un us uo r ur' hf4) (cwV 2 hts xG_X4_least rfl rfl rfl (by decide +kernel) ⟨Nat.le_of_ble_eq_true rfl, Nat.le_of_ble_eq_true rfl⟩) 25 4 rfl rfl rfl rfl hl.1 rfl (Nat.le_of_ble_eq_true rfl) dL_law_1061 ⟨by omega, by omega⟩ (fun H locs hG => ?_)
  refine lv_aload_n hx hb dL_law_1064 rfl (lv_at hl 2 rfl) ?_
  refine lv_aload_n hx hb dL_law_1065 rfl (lv_at hl 0 rfl) ?_
  refine lv_iload hx hb dL_law_1066 (lv_at hl 4 rfl) ?_
  refine lv_iconst (v := 1) hx hb dL_law_1068 (by decide) ?_
  refine lv_iadd hx hb dL_law_1069 ?_
  refine x_sld (kn := 1) (by decide) (by decide) hj hL hx hb hX hbl hG.2.2 dL_law_1070 (fun x18_1 ex18_1 => ?_)
  refine lv_aload_n hx hb dL_law_1071 rfl (lv_at hl 0 rfl) ?_
  refine lv_iload hx hb dL_law_1072 (lv_at hl 4 rfl) ?_
  refine lv_iconst (v := 2) hx hb dL_law_1074 (by decide) ?_
  refine lv_iadd hx hb dL_law_1075 ?_
  refine x_sld (kn := 2) (by decide) (by decide) hj hL hx hb hX hbl hG.2.2 dL_law_1076 (fun x23_2 ex23_2 => ?_)
  obtain rfl : x5_1 = x18_1 := ex5_1.trans ex18_1.symm
  obtain rfl : x10_2 = x23_2 := ex10_2.trans ex23_2.symm
  refine x_callVi (pre := WH κ a uh ++ (WR κ a ur' ++ (WN κ a un ++ (WS κ a us ++ WO κ a uo)))) (wc := WM κ am uv) (wc1 := WM κ am uv') (post := ([(ad, .inl (κ 1, 1, .inr (.inl fo)))] ++ (wp ++ (wk0 ++ wk1)))) (As := [.int x5_1, .int x10_2]) (rest := [.int r]) (w1 := LW κ a am ad uh ur' un us uo uv' fo wp wk0 wk1) ⟨hx, hb, hml, hown, hts⟩ hK hG hA rfl rfl (c_X5_least l D κ am H.size x5_1 x10_2 uv r uv' hf5) (cwV 2 hts xG_X5_least rfl rfl rfl (by decide +kernel) ⟨Nat.le_of_ble_eq_true rfl, Nat.le_of_ble_eq_true rfl⟩) 0 5 rfl rfl rfl rfl hl.1 rfl (Nat.le_of_ble_eq_true rfl) dL_law_1077 ⟨by omega, by omega⟩ (fun H locs hG => ?_)
  refine lv_icmp_eq (tgt := 1805) hx hb dL_law_1080 (by decide) (fun c1 => ?_) (fun c1 => absurd rfl c1)
  refine W.widen (k := 48 + 17 * (j + 1)) (n := 16900 + 2606 * (j + 1)) (by omega) (by omega) ?_
  exact hnext a am ad uh ur' un us uo uv' fo wp wk0 wk1 pu u0 u1 n0 n1 hrel hpap hk0 hk1 H locs ls hG hl
set_option maxRecDepth 100000 in
set_option maxHeartbeats 4000000 in
theorem law_c24 (Rel : Nat → HS → NS → OS → HS → NS → HS → NS → MS → Prop) (hR : RS_below Rel) {p : Program} {l : Launch} {e : Env} {s : State} {m : MethodId} {below : List Frame} {meth : Method} {c : Code} {D : va_G} {κ : Nat → ClassId} {b L : Nat} {xs : Nat → Int32} (hL : L ≤ 2560) (C9 : lw_At p s m meth c b L xs) (hK : va_K D vwCl (xT κ) s) (j : Nat) (hj : 5 * j + 5 ≤ L) (hnext : LAt Rel D κ p l e s m below meth c b 1805 j (j + 1)) : LAt Rel D κ p l e s m below meth c b 1085 j j := by
  obtain ⟨hx, hb, hr, hml, hown, hts0, hX, hbl, hlocks, hgv⟩ := C9
  have hts : ∀ w ∈ wsLL, w.before #[Value.ref b] s = true := fun w h => hts0 w (xlw_LL w h)
  have hA : ∀ q : Nat, s.heap.size ≤ q → (fun q : Nat => s.heap.size ≤ q) q := fun _ h => h
  intro a am ad uh ur un us uo uv fo wp wk0 wk1 pu u0 u1 n0 n1 hrel hpap hk0 hk1 H locs ls hG hl
  have hcc : 48 + 17 * (j + 1) ≤ room_1.cells := by show _ ≤ 601024; omega
  have hss : 16900 + 2606 * (j + 1) ≤ room_1.slots := by show _ ≤ 7293034; omega
  refine lv_aload_n hx hb dL_law_1085 rfl (lv_at hl 1 rfl) ?_
  refine lv_aload_n hx hb dL_law_1086 rfl (lv_at hl 0 rfl) ?_
  refine lv_iload hx hb dL_law_1087 (lv_at hl 4 rfl) ?_
  refine lv_iconst (v := 1) hx hb dL_law_1089 (by decide) ?_
  refine lv_iadd hx hb dL_law_1090 ?_
  refine x_sld (kn := 1) (by decide) (by decide) hj hL hx hb hX hbl hG.2.2 dL_law_1091 (fun x5_1 ex5_1 => ?_)
  refine lv_aload_n hx hb dL_law_1092 rfl (lv_at hl 0 rfl) ?_
  refine lv_iload hx hb dL_law_1093 (lv_at hl 4 rfl) ?_
  refine lv_iconst (v := 2) hx hb dL_law_1095 (by decide) ?_
  refine lv_iadd hx hb dL_law_1096 ?_
  refine x_sld (kn := 2) (by decide) (by decide) hj hL hx hb hX hbl hG.2.2 dL_law_1097 (fun x10_2 ex10_2 => ?_)
  refine lv_i2l hx hb dL_law_1098 rfl ?_
  refine lv_bipush (v := 32) hx hb dL_law_1099 (by decide) ?_
  refine lv_lshl hx hb dL_law_1101 rfl ?_
  refine lv_aload_n hx hb dL_law_1102 rfl (lv_at hl 0 rfl) ?_
  refine lv_iload hx hb dL_law_1103 (lv_at hl 4 rfl) ?_
  refine lv_iconst (v := 3) hx hb dL_law_1105 (by decide) ?_
  refine lv_iadd hx hb dL_law_1106 ?_
  refine x_sld (kn := 3) (by decide) (by decide) hj hL hx hb hX hbl hG.2.2 dL_law_1107 (fun x18_3 ex18_3 => ?_)
  refine lv_i2l hx hb dL_law_1108 rfl ?_
  refine lv_ldc2 (v := 4294967295) hx hb hown (hts (.constantLong RL 131 (4294967295)) (List.mem_of_getElem? (i := 7) rfl)) dL_law_1109 ?_
  refine lv_land hx hb dL_law_1112 ?_
  refine lv_lor hx hb dL_law_1113 ?_
  obtain ⟨r, uv', hf4, hf5, hrel⟩ := hR j x5_1 (((x10_2.toInt64) <<< ((32 : Int32).toInt64 &&& 63)) ||| ((x18_3.toInt64) &&& 4294967295)) uh ur un us uo u0 n0 u1 n1 uv (by omega) hrel
  refine x_callVi (pre := []) (wc := WH κ a uh ++ (WR κ a ur ++ (WN κ a un ++ (WS κ a us ++ WO κ a uo)))) (wc1 := WH κ a uh ++ (WR κ a ur ++ (WN κ a un ++ (WS κ a us ++ WO κ a uo)))) (post := WM κ am uv ++ ([(ad, .inl (κ 1, 1, .inr (.inl fo)))] ++ (wp ++ (wk0 ++ wk1)))) (As := [.int x5_1, .long (((x10_2.toInt64) <<< ((32 : Int32).toInt64 &&& 63)) ||| ((x18_3.toInt64) &&& 4294967295))]) (rest := []) (w1 := LW κ a am ad uh ur un us uo uv fo wp wk0 wk1) ⟨hx, hb, hml, hown, hts⟩ hK hG hA rfl rfl (c_X4_below l D κ a H.size x5_1 (((x10_2.toInt64) <<< ((32 : Int32).toInt64 &&& 63)) ||| ((x18_3.toInt64) &&& 4294967295)) uh ur un us uo r  hf4) (cwV 2 hts xG_X4_below rfl rfl rfl (by decide +kernel) ⟨Nat.le_of_ble_eq_true rfl, Nat.le_of_ble_eq_true rfl⟩) 25 4 rfl rfl rfl rfl hl.1 rfl (Nat.le_of_ble_eq_true rfl) dL_law_1114 ⟨by omega, by omega⟩ (fun H locs hG => ?_)
  refine lv_aload_n hx hb dL_law_1117 rfl (lv_at hl 2 rfl) ?_
  refine lv_aload_n hx hb dL_law_1118 rfl (lv_at hl 0 rfl) ?_
  refine lv_iload hx hb dL_law_1119 (lv_at hl 4 rfl) ?_
  refine lv_iconst (v := 1) hx hb dL_law_1121 (by decide) ?_
  refine lv_iadd hx hb dL_law_1122 ?_
  refine x_sld (kn := 1) (by decide) (by decide) hj hL hx hb hX hbl hG.2.2 dL_law_1123 (fun x30_1 ex30_1 => ?_)
  refine lv_aload_n hx hb dL_law_1124 rfl (lv_at hl 0 rfl) ?_
  refine lv_iload hx hb dL_law_1125 (lv_at hl 4 rfl) ?_
  refine lv_iconst (v := 2) hx hb dL_law_1127 (by decide) ?_
  refine lv_iadd hx hb dL_law_1128 ?_
  refine x_sld (kn := 2) (by decide) (by decide) hj hL hx hb hX hbl hG.2.2 dL_law_1129 (fun x35_2 ex35_2 => ?_)
  refine lv_i2l hx hb dL_law_1130 rfl ?_
  refine lv_bipush (v := 32) hx hb dL_law_1131 (by decide) ?_
  refine lv_lshl hx hb dL_law_1133 rfl ?_
  refine lv_aload_n hx hb dL_law_1134 rfl (lv_at hl 0 rfl) ?_
  refine lv_iload hx hb dL_law_1135 (lv_at hl 4 rfl) ?_
  refine lv_iconst (v := 3) hx hb dL_law_1137 (by decide) ?_
  refine lv_iadd hx hb dL_law_1138 ?_
  refine x_sld (kn := 3) (by decide) (by decide) hj hL hx hb hX hbl hG.2.2 dL_law_1139 (fun x43_3 ex43_3 => ?_)
  refine lv_i2l hx hb dL_law_1140 rfl ?_
  refine lv_ldc2 (v := 4294967295) hx hb hown (hts (.constantLong RL 131 (4294967295)) (List.mem_of_getElem? (i := 7) rfl)) dL_law_1141 ?_
  refine lv_land hx hb dL_law_1144 ?_
  refine lv_lor hx hb dL_law_1145 ?_
  obtain rfl : x5_1 = x30_1 := ex5_1.trans ex30_1.symm
  obtain rfl : x10_2 = x35_2 := ex10_2.trans ex35_2.symm
  obtain rfl : x18_3 = x43_3 := ex18_3.trans ex43_3.symm
  refine x_callVi (pre := WH κ a uh ++ (WR κ a ur ++ (WN κ a un ++ (WS κ a us ++ WO κ a uo)))) (wc := WM κ am uv) (wc1 := WM κ am uv') (post := ([(ad, .inl (κ 1, 1, .inr (.inl fo)))] ++ (wp ++ (wk0 ++ wk1)))) (As := [.int x5_1, .long (((x10_2.toInt64) <<< ((32 : Int32).toInt64 &&& 63)) ||| ((x18_3.toInt64) &&& 4294967295))]) (rest := [.int r]) (w1 := LW κ a am ad uh ur un us uo uv' fo wp wk0 wk1) ⟨hx, hb, hml, hown, hts⟩ hK hG hA rfl rfl (c_X5_below l D κ am H.size x5_1 (((x10_2.toInt64) <<< ((32 : Int32).toInt64 &&& 63)) ||| ((x18_3.toInt64) &&& 4294967295)) uv r uv' hf5) (cwV 2 hts xG_X5_below rfl rfl rfl (by decide +kernel) ⟨Nat.le_of_ble_eq_true rfl, Nat.le_of_ble_eq_true rfl⟩) 0 5 rfl rfl rfl rfl hl.1 rfl (Nat.le_of_ble_eq_true rfl) dL_law_1146 ⟨by omega, by omega⟩ (fun H locs hG => ?_)
  refine lv_icmp_eq (tgt := 1805) hx hb dL_law_1149 (by decide) (fun c1 => ?_) (fun c1 => absurd rfl c1)
  refine W.widen (k := 48 + 17 * (j + 1)) (n := 16900 + 2606 * (j + 1)) (by omega) (by omega) ?_
  exact hnext a am ad uh ur un us uo uv' fo wp wk0 wk1 pu u0 u1 n0 n1 hrel hpap hk0 hk1 H locs ls hG hl
set_option maxRecDepth 100000 in
set_option maxHeartbeats 4000000 in
theorem law_c25 (Rel : Nat → HS → NS → OS → HS → NS → HS → NS → MS → Prop) (hR : RS_keys Rel) {p : Program} {l : Launch} {e : Env} {s : State} {m : MethodId} {below : List Frame} {meth : Method} {c : Code} {D : va_G} {κ : Nat → ClassId} {b L : Nat} {xs : Nat → Int32} (hL : L ≤ 2560) (C9 : lw_At p s m meth c b L xs) (hK : va_K D vwCl (xT κ) s) (j : Nat) (hj : 5 * j + 5 ≤ L) (hnext : LAt Rel D κ p l e s m below meth c b 1805 j (j + 1)) : LAt Rel D κ p l e s m below meth c b 1154 j j := by
  obtain ⟨hx, hb, hr, hml, hown, hts0, hX, hbl, hlocks, hgv⟩ := C9
  have hts : ∀ w ∈ wsLL, w.before #[Value.ref b] s = true := fun w h => hts0 w (xlw_LL w h)
  have hA : ∀ q : Nat, s.heap.size ≤ q → (fun q : Nat => s.heap.size ≤ q) q := fun _ h => h
  intro a am ad uh ur un us uo uv fo wp wk0 wk1 pu u0 u1 n0 n1 hrel hpap hk0 hk1 H locs ls hG hl
  have hcc : 48 + 17 * (j + 1) ≤ room_1.cells := by show _ ≤ 601024; omega
  have hss : 16900 + 2606 * (j + 1) ≤ room_1.slots := by show _ ≤ 7293034; omega
  refine lv_aload_n hx hb dL_law_1154 rfl (lv_at hl 1 rfl) ?_
  refine lv_aload_n hx hb dL_law_1155 rfl (lv_at hl 0 rfl) ?_
  refine lv_iload hx hb dL_law_1156 (lv_at hl 4 rfl) ?_
  refine lv_iconst (v := 1) hx hb dL_law_1158 (by decide) ?_
  refine lv_iadd hx hb dL_law_1159 ?_
  refine x_sld (kn := 1) (by decide) (by decide) hj hL hx hb hX hbl hG.2.2 dL_law_1160 (fun x5_1 ex5_1 => ?_)
  refine lv_aload_n hx hb dL_law_1161 rfl (lv_at hl 0 rfl) ?_
  refine lv_iload hx hb dL_law_1162 (lv_at hl 4 rfl) ?_
  refine lv_iconst (v := 2) hx hb dL_law_1164 (by decide) ?_
  refine lv_iadd hx hb dL_law_1165 ?_
  refine x_sld (kn := 2) (by decide) (by decide) hj hL hx hb hX hbl hG.2.2 dL_law_1166 (fun x10_2 ex10_2 => ?_)
  obtain ⟨r, ur', uv', hf4, hf5, hrel⟩ := hR j x5_1 x10_2 uh ur un us uo u0 n0 u1 n1 uv (by omega) hrel
  refine x_callVl (pre := []) (wc := WH κ a uh ++ (WR κ a ur ++ (WN κ a un ++ (WS κ a us ++ WO κ a uo)))) (wc1 := WH κ a uh ++ (WR κ a ur' ++ (WN κ a un ++ (WS κ a us ++ WO κ a uo)))) (post := WM κ am uv ++ ([(ad, .inl (κ 1, 1, .inr (.inl fo)))] ++ (wp ++ (wk0 ++ wk1)))) (As := [.int x5_1, .int x10_2]) (rest := []) (w1 := LW κ a am ad uh ur' un us uo uv fo wp wk0 wk1) ⟨hx, hb, hml, hown, hts⟩ hK hG hA rfl rfl (c_X4_keys l D κ a H.size x5_1 x10_2 uh ur un us uo r ur' hf4) (cwV 2 hts xG_X4_keys rfl rfl rfl (by decide +kernel) ⟨Nat.le_of_ble_eq_true rfl, Nat.le_of_ble_eq_true rfl⟩) 25 4 rfl rfl rfl rfl hl.1 rfl (Nat.le_of_ble_eq_true rfl) dL_law_1167 ⟨by omega, by omega⟩ (fun H locs hG => ?_)
  refine lv_aload_n hx hb dL_law_1170 rfl (lv_at hl 2 rfl) ?_
  refine lv_aload_n hx hb dL_law_1171 rfl (lv_at hl 0 rfl) ?_
  refine lv_iload hx hb dL_law_1172 (lv_at hl 4 rfl) ?_
  refine lv_iconst (v := 1) hx hb dL_law_1174 (by decide) ?_
  refine lv_iadd hx hb dL_law_1175 ?_
  refine x_sld (kn := 1) (by decide) (by decide) hj hL hx hb hX hbl hG.2.2 dL_law_1176 (fun x18_1 ex18_1 => ?_)
  refine lv_aload_n hx hb dL_law_1177 rfl (lv_at hl 0 rfl) ?_
  refine lv_iload hx hb dL_law_1178 (lv_at hl 4 rfl) ?_
  refine lv_iconst (v := 2) hx hb dL_law_1180 (by decide) ?_
  refine lv_iadd hx hb dL_law_1181 ?_
  refine x_sld (kn := 2) (by decide) (by decide) hj hL hx hb hX hbl hG.2.2 dL_law_1182 (fun x23_2 ex23_2 => ?_)
  obtain rfl : x5_1 = x18_1 := ex5_1.trans ex18_1.symm
  obtain rfl : x10_2 = x23_2 := ex10_2.trans ex23_2.symm
  refine x_callVl (pre := WH κ a uh ++ (WR κ a ur' ++ (WN κ a un ++ (WS κ a us ++ WO κ a uo)))) (wc := WM κ am uv) (wc1 := WM κ am uv') (post := ([(ad, .inl (κ 1, 1, .inr (.inl fo)))] ++ (wp ++ (wk0 ++ wk1)))) (As := [.int x5_1, .int x10_2]) (rest := [.long r]) (w1 := LW κ a am ad uh ur' un us uo uv' fo wp wk0 wk1) ⟨hx, hb, hml, hown, hts⟩ hK hG hA rfl rfl (c_X5_keys l D κ am H.size x5_1 x10_2 uv r uv' hf5) (cwV 2 hts xG_X5_keys rfl rfl rfl (by decide +kernel) ⟨Nat.le_of_ble_eq_true rfl, Nat.le_of_ble_eq_true rfl⟩) 0 5 rfl rfl rfl rfl hl.1 rfl (Nat.le_of_ble_eq_true rfl) dL_law_1183 ⟨by omega, by omega⟩ (fun H locs hG => ?_)
  refine W.lcmp hx hb dL_law_1186 ?_
  refine lv_if_eq (tgt := 1805) hx hb dL_law_1187 (by decide) (fun c1 => ?_) (fun c1 => absurd ((lg_cmp_eq r r).mpr rfl) c1)
  refine W.widen (k := 48 + 17 * (j + 1)) (n := 16900 + 2606 * (j + 1)) (by omega) (by omega) ?_
  exact hnext a am ad uh ur' un us uo uv' fo wp wk0 wk1 pu u0 u1 n0 n1 hrel hpap hk0 hk1 H locs ls hG hl
set_option maxRecDepth 100000 in
set_option maxHeartbeats 4000000 in
theorem law_c26 (Rel : Nat → HS → NS → OS → HS → NS → HS → NS → MS → Prop) (hR : RS_pair Rel) {p : Program} {l : Launch} {e : Env} {s : State} {m : MethodId} {below : List Frame} {meth : Method} {c : Code} {D : va_G} {κ : Nat → ClassId} {b L : Nat} {xs : Nat → Int32} (hL : L ≤ 2560) (C9 : lw_At p s m meth c b L xs) (hK : va_K D vwCl (xT κ) s) (j : Nat) (hj : 5 * j + 5 ≤ L) (hnext : LAt Rel D κ p l e s m below meth c b 1805 j (j + 1)) : LAt Rel D κ p l e s m below meth c b 1192 j j := by
  obtain ⟨hx, hb, hr, hml, hown, hts0, hX, hbl, hlocks, hgv⟩ := C9
  have hts : ∀ w ∈ wsLL, w.before #[Value.ref b] s = true := fun w h => hts0 w (xlw_LL w h)
  have hA : ∀ q : Nat, s.heap.size ≤ q → (fun q : Nat => s.heap.size ≤ q) q := fun _ h => h
  intro a am ad uh ur un us uo uv fo wp wk0 wk1 pu u0 u1 n0 n1 hrel hpap hk0 hk1 H locs ls hG hl
  have hcc : 48 + 17 * (j + 1) ≤ room_1.cells := by show _ ≤ 601024; omega
  have hss : 16900 + 2606 * (j + 1) ≤ room_1.slots := by show _ ≤ 7293034; omega
  refine lv_aload_n hx hb dL_law_1192 rfl (lv_at hl 1 rfl) ?_
  refine lv_aload_n hx hb dL_law_1193 rfl (lv_at hl 0 rfl) ?_
  refine lv_iload hx hb dL_law_1194 (lv_at hl 4 rfl) ?_
  refine lv_iconst (v := 1) hx hb dL_law_1196 (by decide) ?_
  refine lv_iadd hx hb dL_law_1197 ?_
  refine x_sld (kn := 1) (by decide) (by decide) hj hL hx hb hX hbl hG.2.2 dL_law_1198 (fun x5_1 ex5_1 => ?_)
  refine lv_aload_n hx hb dL_law_1199 rfl (lv_at hl 0 rfl) ?_
  refine lv_iload hx hb dL_law_1200 (lv_at hl 4 rfl) ?_
  refine lv_iconst (v := 2) hx hb dL_law_1202 (by decide) ?_
  refine lv_iadd hx hb dL_law_1203 ?_
  refine x_sld (kn := 2) (by decide) (by decide) hj hL hx hb hX hbl hG.2.2 dL_law_1204 (fun x10_2 ex10_2 => ?_)
  refine lv_aload_n hx hb dL_law_1205 rfl (lv_at hl 0 rfl) ?_
  refine lv_iload hx hb dL_law_1206 (lv_at hl 4 rfl) ?_
  refine lv_iconst (v := 3) hx hb dL_law_1208 (by decide) ?_
  refine lv_iadd hx hb dL_law_1209 ?_
  refine x_sld (kn := 3) (by decide) (by decide) hj hL hx hb hX hbl hG.2.2 dL_law_1210 (fun x15_3 ex15_3 => ?_)
  refine lv_aload_n hx hb dL_law_1211 rfl (lv_at hl 0 rfl) ?_
  refine lv_iload hx hb dL_law_1212 (lv_at hl 4 rfl) ?_
  refine lv_iconst (v := 4) hx hb dL_law_1214 (by decide) ?_
  refine lv_iadd hx hb dL_law_1215 ?_
  refine x_sld (kn := 4) (by decide) (by decide) hj hL hx hb hX hbl hG.2.2 dL_law_1216 (fun x20_4 ex20_4 => ?_)
  obtain ⟨r, ur', uv', hf4, hf5, hrel⟩ := hR j x5_1 x10_2 x15_3 x20_4 uh ur un us uo u0 n0 u1 n1 uv (by omega) hrel
  refine x_callVl (pre := []) (wc := WH κ a uh ++ (WR κ a ur ++ (WN κ a un ++ (WS κ a us ++ WO κ a uo)))) (wc1 := WH κ a uh ++ (WR κ a ur' ++ (WN κ a un ++ (WS κ a us ++ WO κ a uo)))) (post := WM κ am uv ++ ([(ad, .inl (κ 1, 1, .inr (.inl fo)))] ++ (wp ++ (wk0 ++ wk1)))) (As := [.int x5_1, .int x10_2, .int x15_3, .int x20_4]) (rest := []) (w1 := LW κ a am ad uh ur' un us uo uv fo wp wk0 wk1) ⟨hx, hb, hml, hown, hts⟩ hK hG hA rfl rfl (c_X4_pair l D κ a H.size x5_1 x10_2 x15_3 x20_4 uh ur un us uo r ur' hf4) (cwV 4 hts xG_X4_pair rfl rfl rfl (by decide +kernel) ⟨Nat.le_of_ble_eq_true rfl, Nat.le_of_ble_eq_true rfl⟩) 25 4 rfl rfl rfl rfl hl.1 rfl (Nat.le_of_ble_eq_true rfl) dL_law_1217 ⟨by omega, by omega⟩ (fun H locs hG => ?_)
  refine lv_aload_n hx hb dL_law_1220 rfl (lv_at hl 2 rfl) ?_
  refine lv_aload_n hx hb dL_law_1221 rfl (lv_at hl 0 rfl) ?_
  refine lv_iload hx hb dL_law_1222 (lv_at hl 4 rfl) ?_
  refine lv_iconst (v := 1) hx hb dL_law_1224 (by decide) ?_
  refine lv_iadd hx hb dL_law_1225 ?_
  refine x_sld (kn := 1) (by decide) (by decide) hj hL hx hb hX hbl hG.2.2 dL_law_1226 (fun x28_1 ex28_1 => ?_)
  refine lv_aload_n hx hb dL_law_1227 rfl (lv_at hl 0 rfl) ?_
  refine lv_iload hx hb dL_law_1228 (lv_at hl 4 rfl) ?_
  refine lv_iconst (v := 2) hx hb dL_law_1230 (by decide) ?_
  refine lv_iadd hx hb dL_law_1231 ?_
  refine x_sld (kn := 2) (by decide) (by decide) hj hL hx hb hX hbl hG.2.2 dL_law_1232 (fun x33_2 ex33_2 => ?_)
  refine lv_aload_n hx hb dL_law_1233 rfl (lv_at hl 0 rfl) ?_
  refine lv_iload hx hb dL_law_1234 (lv_at hl 4 rfl) ?_
  refine lv_iconst (v := 3) hx hb dL_law_1236 (by decide) ?_
  refine lv_iadd hx hb dL_law_1237 ?_
  refine x_sld (kn := 3) (by decide) (by decide) hj hL hx hb hX hbl hG.2.2 dL_law_1238 (fun x38_3 ex38_3 => ?_)
  refine lv_aload_n hx hb dL_law_1239 rfl (lv_at hl 0 rfl) ?_
  refine lv_iload hx hb dL_law_1240 (lv_at hl 4 rfl) ?_
  refine lv_iconst (v := 4) hx hb dL_law_1242 (by decide) ?_
  refine lv_iadd hx hb dL_law_1243 ?_
  refine x_sld (kn := 4) (by decide) (by decide) hj hL hx hb hX hbl hG.2.2 dL_law_1244 (fun x43_4 ex43_4 => ?_)
  obtain rfl : x5_1 = x28_1 := ex5_1.trans ex28_1.symm
  obtain rfl : x10_2 = x33_2 := ex10_2.trans ex33_2.symm
  obtain rfl : x15_3 = x38_3 := ex15_3.trans ex38_3.symm
  obtain rfl : x20_4 = x43_4 := ex20_4.trans ex43_4.symm
  refine x_callVl (pre := WH κ a uh ++ (WR κ a ur' ++ (WN κ a un ++ (WS κ a us ++ WO κ a uo)))) (wc := WM κ am uv) (wc1 := WM κ am uv') (post := ([(ad, .inl (κ 1, 1, .inr (.inl fo)))] ++ (wp ++ (wk0 ++ wk1)))) (As := [.int x5_1, .int x10_2, .int x15_3, .int x20_4]) (rest := [.long r]) (w1 := LW κ a am ad uh ur' un us uo uv' fo wp wk0 wk1) ⟨hx, hb, hml, hown, hts⟩ hK hG hA rfl rfl (c_X5_pair l D κ am H.size x5_1 x10_2 x15_3 x20_4 uv r uv' hf5) (cwV 4 hts xG_X5_pair rfl rfl rfl (by decide +kernel) ⟨Nat.le_of_ble_eq_true rfl, Nat.le_of_ble_eq_true rfl⟩) 0 5 rfl rfl rfl rfl hl.1 rfl (Nat.le_of_ble_eq_true rfl) dL_law_1245 ⟨by omega, by omega⟩ (fun H locs hG => ?_)
  refine W.lcmp hx hb dL_law_1248 ?_
  refine lv_if_eq (tgt := 1805) hx hb dL_law_1249 (by decide) (fun c1 => ?_) (fun c1 => absurd ((lg_cmp_eq r r).mpr rfl) c1)
  refine W.widen (k := 48 + 17 * (j + 1)) (n := 16900 + 2606 * (j + 1)) (by omega) (by omega) ?_
  exact hnext a am ad uh ur' un us uo uv' fo wp wk0 wk1 pu u0 u1 n0 n1 hrel hpap hk0 hk1 H locs ls hG hl
set_option maxRecDepth 100000 in
set_option maxHeartbeats 4000000 in
theorem law_c31 (Rel : Nat → HS → NS → OS → HS → NS → HS → NS → MS → Prop) (hR : RS_tagged Rel) {p : Program} {l : Launch} {e : Env} {s : State} {m : MethodId} {below : List Frame} {meth : Method} {c : Code} {D : va_G} {κ : Nat → ClassId} {b L : Nat} {xs : Nat → Int32} (hL : L ≤ 2560) (C9 : lw_At p s m meth c b L xs) (hK : va_K D vwCl (xT κ) s) (j : Nat) (hj : 5 * j + 5 ≤ L) (hnext : LAt Rel D κ p l e s m below meth c b 1805 j (j + 1)) : LAt Rel D κ p l e s m below meth c b 1421 j j := by
  obtain ⟨hx, hb, hr, hml, hown, hts0, hX, hbl, hlocks, hgv⟩ := C9
  have hts : ∀ w ∈ wsLL, w.before #[Value.ref b] s = true := fun w h => hts0 w (xlw_LL w h)
  have hA : ∀ q : Nat, s.heap.size ≤ q → (fun q : Nat => s.heap.size ≤ q) q := fun _ h => h
  intro a am ad uh ur un us uo uv fo wp wk0 wk1 pu u0 u1 n0 n1 hrel hpap hk0 hk1 H locs ls hG hl
  have hcc : 48 + 17 * (j + 1) ≤ room_1.cells := by show _ ≤ 601024; omega
  have hss : 16900 + 2606 * (j + 1) ≤ room_1.slots := by show _ ≤ 7293034; omega
  refine lv_aload_n hx hb dL_law_1421 rfl (lv_at hl 1 rfl) ?_
  refine lv_aload_n hx hb dL_law_1422 rfl (lv_at hl 0 rfl) ?_
  refine lv_iload hx hb dL_law_1423 (lv_at hl 4 rfl) ?_
  refine lv_iconst (v := 1) hx hb dL_law_1425 (by decide) ?_
  refine lv_iadd hx hb dL_law_1426 ?_
  refine x_sld (kn := 1) (by decide) (by decide) hj hL hx hb hX hbl hG.2.2 dL_law_1427 (fun x5_1 ex5_1 => ?_)
  refine lv_aload_n hx hb dL_law_1428 rfl (lv_at hl 0 rfl) ?_
  refine lv_iload hx hb dL_law_1429 (lv_at hl 4 rfl) ?_
  refine lv_iconst (v := 2) hx hb dL_law_1431 (by decide) ?_
  refine lv_iadd hx hb dL_law_1432 ?_
  refine x_sld (kn := 2) (by decide) (by decide) hj hL hx hb hX hbl hG.2.2 dL_law_1433 (fun x10_2 ex10_2 => ?_)
  obtain ⟨r, uv', hf4, hf5, hrel⟩ := hR j x5_1 x10_2 uh ur un us uo u0 n0 u1 n1 uv (by omega) hrel
  refine x_callVi (pre := []) (wc := WH κ a uh ++ (WR κ a ur ++ (WN κ a un ++ (WS κ a us ++ WO κ a uo)))) (wc1 := WH κ a uh ++ (WR κ a ur ++ (WN κ a un ++ (WS κ a us ++ WO κ a uo)))) (post := WM κ am uv ++ ([(ad, .inl (κ 1, 1, .inr (.inl fo)))] ++ (wp ++ (wk0 ++ wk1)))) (As := [.int x5_1, .int x10_2]) (rest := []) (w1 := LW κ a am ad uh ur un us uo uv fo wp wk0 wk1) ⟨hx, hb, hml, hown, hts⟩ hK hG hA rfl rfl (c_X4_tagged l D κ a H.size x5_1 x10_2 uh ur un us uo r  hf4) (cwV 2 hts xG_X4_tagged rfl rfl rfl (by decide +kernel) ⟨Nat.le_of_ble_eq_true rfl, Nat.le_of_ble_eq_true rfl⟩) 25 4 rfl rfl rfl rfl hl.1 rfl (Nat.le_of_ble_eq_true rfl) dL_law_1434 ⟨by omega, by omega⟩ (fun H locs hG => ?_)
  refine lv_aload_n hx hb dL_law_1437 rfl (lv_at hl 2 rfl) ?_
  refine lv_aload_n hx hb dL_law_1438 rfl (lv_at hl 0 rfl) ?_
  refine lv_iload hx hb dL_law_1439 (lv_at hl 4 rfl) ?_
  refine lv_iconst (v := 1) hx hb dL_law_1441 (by decide) ?_
  refine lv_iadd hx hb dL_law_1442 ?_
  refine x_sld (kn := 1) (by decide) (by decide) hj hL hx hb hX hbl hG.2.2 dL_law_1443 (fun x18_1 ex18_1 => ?_)
  refine lv_aload_n hx hb dL_law_1444 rfl (lv_at hl 0 rfl) ?_
  refine lv_iload hx hb dL_law_1445 (lv_at hl 4 rfl) ?_
  refine lv_iconst (v := 2) hx hb dL_law_1447 (by decide) ?_
  refine lv_iadd hx hb dL_law_1448 ?_
  refine x_sld (kn := 2) (by decide) (by decide) hj hL hx hb hX hbl hG.2.2 dL_law_1449 (fun x23_2 ex23_2 => ?_)
  obtain rfl : x5_1 = x18_1 := ex5_1.trans ex18_1.symm
  obtain rfl : x10_2 = x23_2 := ex10_2.trans ex23_2.symm
  refine x_callVi (pre := WH κ a uh ++ (WR κ a ur ++ (WN κ a un ++ (WS κ a us ++ WO κ a uo)))) (wc := WM κ am uv) (wc1 := WM κ am uv') (post := ([(ad, .inl (κ 1, 1, .inr (.inl fo)))] ++ (wp ++ (wk0 ++ wk1)))) (As := [.int x5_1, .int x10_2]) (rest := [.int r]) (w1 := LW κ a am ad uh ur un us uo uv' fo wp wk0 wk1) ⟨hx, hb, hml, hown, hts⟩ hK hG hA rfl rfl (c_X5_tagged l D κ am H.size x5_1 x10_2 uv r uv' hf5) (cwV 2 hts xG_X5_tagged rfl rfl rfl (by decide +kernel) ⟨Nat.le_of_ble_eq_true rfl, Nat.le_of_ble_eq_true rfl⟩) 0 5 rfl rfl rfl rfl hl.1 rfl (Nat.le_of_ble_eq_true rfl) dL_law_1450 ⟨by omega, by omega⟩ (fun H locs hG => ?_)
  refine lv_icmp_eq (tgt := 1805) hx hb dL_law_1453 (by decide) (fun c1 => ?_) (fun c1 => absurd rfl c1)
  refine W.widen (k := 48 + 17 * (j + 1)) (n := 16900 + 2606 * (j + 1)) (by omega) (by omega) ?_
  exact hnext a am ad uh ur un us uo uv' fo wp wk0 wk1 pu u0 u1 n0 n1 hrel hpap hk0 hk1 H locs ls hG hl
set_option maxRecDepth 100000 in
set_option maxHeartbeats 4000000 in
theorem law_c32 (Rel : Nat → HS → NS → OS → HS → NS → HS → NS → MS → Prop) (hR : RS_log Rel) {p : Program} {l : Launch} {e : Env} {s : State} {m : MethodId} {below : List Frame} {meth : Method} {c : Code} {D : va_G} {κ : Nat → ClassId} {b L : Nat} {xs : Nat → Int32} (hL : L ≤ 2560) (C9 : lw_At p s m meth c b L xs) (hK : va_K D vwCl (xT κ) s) (j : Nat) (hj : 5 * j + 5 ≤ L) (hnext : LAt Rel D κ p l e s m below meth c b 1805 j (j + 1)) : LAt Rel D κ p l e s m below meth c b 1458 j j := by
  obtain ⟨hx, hb, hr, hml, hown, hts0, hX, hbl, hlocks, hgv⟩ := C9
  have hts : ∀ w ∈ wsLL, w.before #[Value.ref b] s = true := fun w h => hts0 w (xlw_LL w h)
  have hA : ∀ q : Nat, s.heap.size ≤ q → (fun q : Nat => s.heap.size ≤ q) q := fun _ h => h
  intro a am ad uh ur un us uo uv fo wp wk0 wk1 pu u0 u1 n0 n1 hrel hpap hk0 hk1 H locs ls hG hl
  have hcc : 48 + 17 * (j + 1) ≤ room_1.cells := by show _ ≤ 601024; omega
  have hss : 16900 + 2606 * (j + 1) ≤ room_1.slots := by show _ ≤ 7293034; omega
  refine lv_aload_n hx hb dL_law_1458 rfl (lv_at hl 1 rfl) ?_
  refine lv_aload_n hx hb dL_law_1459 rfl (lv_at hl 0 rfl) ?_
  refine lv_iload hx hb dL_law_1460 (lv_at hl 4 rfl) ?_
  refine lv_iconst (v := 1) hx hb dL_law_1462 (by decide) ?_
  refine lv_iadd hx hb dL_law_1463 ?_
  refine x_sld (kn := 1) (by decide) (by decide) hj hL hx hb hX hbl hG.2.2 dL_law_1464 (fun x5_1 ex5_1 => ?_)
  refine lv_aload_n hx hb dL_law_1465 rfl (lv_at hl 0 rfl) ?_
  refine lv_iload hx hb dL_law_1466 (lv_at hl 4 rfl) ?_
  refine lv_iconst (v := 2) hx hb dL_law_1468 (by decide) ?_
  refine lv_iadd hx hb dL_law_1469 ?_
  refine x_sld (kn := 2) (by decide) (by decide) hj hL hx hb hX hbl hG.2.2 dL_law_1470 (fun x10_2 ex10_2 => ?_)
  obtain ⟨r, uv', hf4, hf5, hrel⟩ := hR j x5_1 x10_2 uh ur un us uo u0 n0 u1 n1 uv (by omega) hrel
  refine x_callVl (pre := []) (wc := WH κ a uh ++ (WR κ a ur ++ (WN κ a un ++ (WS κ a us ++ WO κ a uo)))) (wc1 := WH κ a uh ++ (WR κ a ur ++ (WN κ a un ++ (WS κ a us ++ WO κ a uo)))) (post := WM κ am uv ++ ([(ad, .inl (κ 1, 1, .inr (.inl fo)))] ++ (wp ++ (wk0 ++ wk1)))) (As := [.int x5_1, .int x10_2]) (rest := []) (w1 := LW κ a am ad uh ur un us uo uv fo wp wk0 wk1) ⟨hx, hb, hml, hown, hts⟩ hK hG hA rfl rfl (c_X4_log l D κ a H.size x5_1 x10_2 uh ur un us uo r  hf4) (cwV 2 hts xG_X4_log rfl rfl rfl (by decide +kernel) ⟨Nat.le_of_ble_eq_true rfl, Nat.le_of_ble_eq_true rfl⟩) 25 4 rfl rfl rfl rfl hl.1 rfl (Nat.le_of_ble_eq_true rfl) dL_law_1471 ⟨by omega, by omega⟩ (fun H locs hG => ?_)
  refine lv_aload_n hx hb dL_law_1474 rfl (lv_at hl 2 rfl) ?_
  refine lv_aload_n hx hb dL_law_1475 rfl (lv_at hl 0 rfl) ?_
  refine lv_iload hx hb dL_law_1476 (lv_at hl 4 rfl) ?_
  refine lv_iconst (v := 1) hx hb dL_law_1478 (by decide) ?_
  refine lv_iadd hx hb dL_law_1479 ?_
  refine x_sld (kn := 1) (by decide) (by decide) hj hL hx hb hX hbl hG.2.2 dL_law_1480 (fun x18_1 ex18_1 => ?_)
  refine lv_aload_n hx hb dL_law_1481 rfl (lv_at hl 0 rfl) ?_
  refine lv_iload hx hb dL_law_1482 (lv_at hl 4 rfl) ?_
  refine lv_iconst (v := 2) hx hb dL_law_1484 (by decide) ?_
  refine lv_iadd hx hb dL_law_1485 ?_
  refine x_sld (kn := 2) (by decide) (by decide) hj hL hx hb hX hbl hG.2.2 dL_law_1486 (fun x23_2 ex23_2 => ?_)
  obtain rfl : x5_1 = x18_1 := ex5_1.trans ex18_1.symm
  obtain rfl : x10_2 = x23_2 := ex10_2.trans ex23_2.symm
  refine x_callVl (pre := WH κ a uh ++ (WR κ a ur ++ (WN κ a un ++ (WS κ a us ++ WO κ a uo)))) (wc := WM κ am uv) (wc1 := WM κ am uv') (post := ([(ad, .inl (κ 1, 1, .inr (.inl fo)))] ++ (wp ++ (wk0 ++ wk1)))) (As := [.int x5_1, .int x10_2]) (rest := [.long r]) (w1 := LW κ a am ad uh ur un us uo uv' fo wp wk0 wk1) ⟨hx, hb, hml, hown, hts⟩ hK hG hA rfl rfl (c_X5_log l D κ am H.size x5_1 x10_2 uv r uv' hf5) (cwV 2 hts xG_X5_log rfl rfl rfl (by decide +kernel) ⟨Nat.le_of_ble_eq_true rfl, Nat.le_of_ble_eq_true rfl⟩) 0 5 rfl rfl rfl rfl hl.1 rfl (Nat.le_of_ble_eq_true rfl) dL_law_1487 ⟨by omega, by omega⟩ (fun H locs hG => ?_)
  refine W.lcmp hx hb dL_law_1490 ?_
  refine lv_if_eq (tgt := 1805) hx hb dL_law_1491 (by decide) (fun c1 => ?_) (fun c1 => absurd ((lg_cmp_eq r r).mpr rfl) c1)
  refine W.widen (k := 48 + 17 * (j + 1)) (n := 16900 + 2606 * (j + 1)) (by omega) (by omega) ?_
  exact hnext a am ad uh ur un us uo uv' fo wp wk0 wk1 pu u0 u1 n0 n1 hrel hpap hk0 hk1 H locs ls hG hl
set_option maxRecDepth 100000 in
set_option maxHeartbeats 4000000 in
theorem law_c33 (Rel : Nat → HS → NS → OS → HS → NS → HS → NS → MS → Prop) (hR : RS_best Rel) {p : Program} {l : Launch} {e : Env} {s : State} {m : MethodId} {below : List Frame} {meth : Method} {c : Code} {D : va_G} {κ : Nat → ClassId} {b L : Nat} {xs : Nat → Int32} (hL : L ≤ 2560) (C9 : lw_At p s m meth c b L xs) (hK : va_K D vwCl (xT κ) s) (j : Nat) (hj : 5 * j + 5 ≤ L) (hnext : LAt Rel D κ p l e s m below meth c b 1805 j (j + 1)) : LAt Rel D κ p l e s m below meth c b 1496 j j := by
  obtain ⟨hx, hb, hr, hml, hown, hts0, hX, hbl, hlocks, hgv⟩ := C9
  have hts : ∀ w ∈ wsLL, w.before #[Value.ref b] s = true := fun w h => hts0 w (xlw_LL w h)
  have hA : ∀ q : Nat, s.heap.size ≤ q → (fun q : Nat => s.heap.size ≤ q) q := fun _ h => h
  intro a am ad uh ur un us uo uv fo wp wk0 wk1 pu u0 u1 n0 n1 hrel hpap hk0 hk1 H locs ls hG hl
  have hcc : 48 + 17 * (j + 1) ≤ room_1.cells := by show _ ≤ 601024; omega
  have hss : 16900 + 2606 * (j + 1) ≤ room_1.slots := by show _ ≤ 7293034; omega
  refine lv_aload_n hx hb dL_law_1496 rfl (lv_at hl 1 rfl) ?_
  refine lv_aload_n hx hb dL_law_1497 rfl (lv_at hl 0 rfl) ?_
  refine lv_iload hx hb dL_law_1498 (lv_at hl 4 rfl) ?_
  refine lv_iconst (v := 1) hx hb dL_law_1500 (by decide) ?_
  refine lv_iadd hx hb dL_law_1501 ?_
  refine x_sld (kn := 1) (by decide) (by decide) hj hL hx hb hX hbl hG.2.2 dL_law_1502 (fun x5_1 ex5_1 => ?_)
  refine lv_aload_n hx hb dL_law_1503 rfl (lv_at hl 0 rfl) ?_
  refine lv_iload hx hb dL_law_1504 (lv_at hl 4 rfl) ?_
  refine lv_iconst (v := 2) hx hb dL_law_1506 (by decide) ?_
  refine lv_iadd hx hb dL_law_1507 ?_
  refine x_sld (kn := 2) (by decide) (by decide) hj hL hx hb hX hbl hG.2.2 dL_law_1508 (fun x10_2 ex10_2 => ?_)
  obtain ⟨r, us', uv', hf4, hf5, hrel⟩ := hR j x5_1 x10_2 uh ur un us uo u0 n0 u1 n1 uv (by omega) hrel
  refine x_callVi (pre := []) (wc := WH κ a uh ++ (WR κ a ur ++ (WN κ a un ++ (WS κ a us ++ WO κ a uo)))) (wc1 := WH κ a uh ++ (WR κ a ur ++ (WN κ a un ++ (WS κ a us' ++ WO κ a uo)))) (post := WM κ am uv ++ ([(ad, .inl (κ 1, 1, .inr (.inl fo)))] ++ (wp ++ (wk0 ++ wk1)))) (As := [.int x5_1, .int x10_2]) (rest := []) (w1 := LW κ a am ad uh ur un us' uo uv fo wp wk0 wk1) ⟨hx, hb, hml, hown, hts⟩ hK hG hA rfl rfl (c_X4_best l D κ a H.size x5_1 x10_2 uh ur un us uo r us' hf4) (cwV 2 hts xG_X4_best rfl rfl rfl (by decide +kernel) ⟨Nat.le_of_ble_eq_true rfl, Nat.le_of_ble_eq_true rfl⟩) 25 4 rfl rfl rfl rfl hl.1 rfl (Nat.le_of_ble_eq_true rfl) dL_law_1509 ⟨by omega, by omega⟩ (fun H locs hG => ?_)
  refine lv_aload_n hx hb dL_law_1512 rfl (lv_at hl 2 rfl) ?_
  refine lv_aload_n hx hb dL_law_1513 rfl (lv_at hl 0 rfl) ?_
  refine lv_iload hx hb dL_law_1514 (lv_at hl 4 rfl) ?_
  refine lv_iconst (v := 1) hx hb dL_law_1516 (by decide) ?_
  refine lv_iadd hx hb dL_law_1517 ?_
  refine x_sld (kn := 1) (by decide) (by decide) hj hL hx hb hX hbl hG.2.2 dL_law_1518 (fun x18_1 ex18_1 => ?_)
  refine lv_aload_n hx hb dL_law_1519 rfl (lv_at hl 0 rfl) ?_
  refine lv_iload hx hb dL_law_1520 (lv_at hl 4 rfl) ?_
  refine lv_iconst (v := 2) hx hb dL_law_1522 (by decide) ?_
  refine lv_iadd hx hb dL_law_1523 ?_
  refine x_sld (kn := 2) (by decide) (by decide) hj hL hx hb hX hbl hG.2.2 dL_law_1524 (fun x23_2 ex23_2 => ?_)
  obtain rfl : x5_1 = x18_1 := ex5_1.trans ex18_1.symm
  obtain rfl : x10_2 = x23_2 := ex10_2.trans ex23_2.symm
  refine x_callVi (pre := WH κ a uh ++ (WR κ a ur ++ (WN κ a un ++ (WS κ a us' ++ WO κ a uo)))) (wc := WM κ am uv) (wc1 := WM κ am uv') (post := ([(ad, .inl (κ 1, 1, .inr (.inl fo)))] ++ (wp ++ (wk0 ++ wk1)))) (As := [.int x5_1, .int x10_2]) (rest := [.int r]) (w1 := LW κ a am ad uh ur un us' uo uv' fo wp wk0 wk1) ⟨hx, hb, hml, hown, hts⟩ hK hG hA rfl rfl (c_X5_best l D κ am H.size x5_1 x10_2 uv r uv' hf5) (cwV 2 hts xG_X5_best rfl rfl rfl (by decide +kernel) ⟨Nat.le_of_ble_eq_true rfl, Nat.le_of_ble_eq_true rfl⟩) 0 5 rfl rfl rfl rfl hl.1 rfl (Nat.le_of_ble_eq_true rfl) dL_law_1525 ⟨by omega, by omega⟩ (fun H locs hG => ?_)
  refine lv_icmp_eq (tgt := 1805) hx hb dL_law_1528 (by decide) (fun c1 => ?_) (fun c1 => absurd rfl c1)
  refine W.widen (k := 48 + 17 * (j + 1)) (n := 16900 + 2606 * (j + 1)) (by omega) (by omega) ?_
  exact hnext a am ad uh ur un us' uo uv' fo wp wk0 wk1 pu u0 u1 n0 n1 hrel hpap hk0 hk1 H locs ls hG hl
set_option maxRecDepth 100000 in
set_option maxHeartbeats 4000000 in
theorem law_c34 (Rel : Nat → HS → NS → OS → HS → NS → HS → NS → MS → Prop) (hR : RS_by Rel) {p : Program} {l : Launch} {e : Env} {s : State} {m : MethodId} {below : List Frame} {meth : Method} {c : Code} {D : va_G} {κ : Nat → ClassId} {b L : Nat} {xs : Nat → Int32} (hL : L ≤ 2560) (C9 : lw_At p s m meth c b L xs) (hK : va_K D vwCl (xT κ) s) (j : Nat) (hj : 5 * j + 5 ≤ L) (hnext : LAt Rel D κ p l e s m below meth c b 1805 j (j + 1)) : LAt Rel D κ p l e s m below meth c b 1533 j j := by
  obtain ⟨hx, hb, hr, hml, hown, hts0, hX, hbl, hlocks, hgv⟩ := C9
  have hts : ∀ w ∈ wsLL, w.before #[Value.ref b] s = true := fun w h => hts0 w (xlw_LL w h)
  have hA : ∀ q : Nat, s.heap.size ≤ q → (fun q : Nat => s.heap.size ≤ q) q := fun _ h => h
  intro a am ad uh ur un us uo uv fo wp wk0 wk1 pu u0 u1 n0 n1 hrel hpap hk0 hk1 H locs ls hG hl
  have hcc : 48 + 17 * (j + 1) ≤ room_1.cells := by show _ ≤ 601024; omega
  have hss : 16900 + 2606 * (j + 1) ≤ room_1.slots := by show _ ≤ 7293034; omega
  refine lv_aload_n hx hb dL_law_1533 rfl (lv_at hl 1 rfl) ?_
  refine lv_aload_n hx hb dL_law_1534 rfl (lv_at hl 0 rfl) ?_
  refine lv_iload hx hb dL_law_1535 (lv_at hl 4 rfl) ?_
  refine lv_iconst (v := 1) hx hb dL_law_1537 (by decide) ?_
  refine lv_iadd hx hb dL_law_1538 ?_
  refine x_sld (kn := 1) (by decide) (by decide) hj hL hx hb hX hbl hG.2.2 dL_law_1539 (fun x5_1 ex5_1 => ?_)
  refine lv_aload_n hx hb dL_law_1540 rfl (lv_at hl 0 rfl) ?_
  refine lv_iload hx hb dL_law_1541 (lv_at hl 4 rfl) ?_
  refine lv_iconst (v := 2) hx hb dL_law_1543 (by decide) ?_
  refine lv_iadd hx hb dL_law_1544 ?_
  refine x_sld (kn := 2) (by decide) (by decide) hj hL hx hb hX hbl hG.2.2 dL_law_1545 (fun x10_2 ex10_2 => ?_)
  obtain ⟨r, us', uv', hf4, hf5, hrel⟩ := hR j x5_1 x10_2 uh ur un us uo u0 n0 u1 n1 uv (by omega) hrel
  refine x_callVi (pre := []) (wc := WH κ a uh ++ (WR κ a ur ++ (WN κ a un ++ (WS κ a us ++ WO κ a uo)))) (wc1 := WH κ a uh ++ (WR κ a ur ++ (WN κ a un ++ (WS κ a us' ++ WO κ a uo)))) (post := WM κ am uv ++ ([(ad, .inl (κ 1, 1, .inr (.inl fo)))] ++ (wp ++ (wk0 ++ wk1)))) (As := [.int x5_1, .int x10_2]) (rest := []) (w1 := LW κ a am ad uh ur un us' uo uv fo wp wk0 wk1) ⟨hx, hb, hml, hown, hts⟩ hK hG hA rfl rfl (c_X4_by l D κ a H.size x5_1 x10_2 uh ur un us uo r us' hf4) (cwV 2 hts xG_X4_by rfl rfl rfl (by decide +kernel) ⟨Nat.le_of_ble_eq_true rfl, Nat.le_of_ble_eq_true rfl⟩) 25 4 rfl rfl rfl rfl hl.1 rfl (Nat.le_of_ble_eq_true rfl) dL_law_1546 ⟨by omega, by omega⟩ (fun H locs hG => ?_)
  refine lv_aload_n hx hb dL_law_1549 rfl (lv_at hl 2 rfl) ?_
  refine lv_aload_n hx hb dL_law_1550 rfl (lv_at hl 0 rfl) ?_
  refine lv_iload hx hb dL_law_1551 (lv_at hl 4 rfl) ?_
  refine lv_iconst (v := 1) hx hb dL_law_1553 (by decide) ?_
  refine lv_iadd hx hb dL_law_1554 ?_
  refine x_sld (kn := 1) (by decide) (by decide) hj hL hx hb hX hbl hG.2.2 dL_law_1555 (fun x18_1 ex18_1 => ?_)
  refine lv_aload_n hx hb dL_law_1556 rfl (lv_at hl 0 rfl) ?_
  refine lv_iload hx hb dL_law_1557 (lv_at hl 4 rfl) ?_
  refine lv_iconst (v := 2) hx hb dL_law_1559 (by decide) ?_
  refine lv_iadd hx hb dL_law_1560 ?_
  refine x_sld (kn := 2) (by decide) (by decide) hj hL hx hb hX hbl hG.2.2 dL_law_1561 (fun x23_2 ex23_2 => ?_)
  obtain rfl : x5_1 = x18_1 := ex5_1.trans ex18_1.symm
  obtain rfl : x10_2 = x23_2 := ex10_2.trans ex23_2.symm
  refine x_callVi (pre := WH κ a uh ++ (WR κ a ur ++ (WN κ a un ++ (WS κ a us' ++ WO κ a uo)))) (wc := WM κ am uv) (wc1 := WM κ am uv') (post := ([(ad, .inl (κ 1, 1, .inr (.inl fo)))] ++ (wp ++ (wk0 ++ wk1)))) (As := [.int x5_1, .int x10_2]) (rest := [.int r]) (w1 := LW κ a am ad uh ur un us' uo uv' fo wp wk0 wk1) ⟨hx, hb, hml, hown, hts⟩ hK hG hA rfl rfl (c_X5_by l D κ am H.size x5_1 x10_2 uv r uv' hf5) (cwV 2 hts xG_X5_by rfl rfl rfl (by decide +kernel) ⟨Nat.le_of_ble_eq_true rfl, Nat.le_of_ble_eq_true rfl⟩) 0 5 rfl rfl rfl rfl hl.1 rfl (Nat.le_of_ble_eq_true rfl) dL_law_1562 ⟨by omega, by omega⟩ (fun H locs hG => ?_)
  refine lv_icmp_eq (tgt := 1805) hx hb dL_law_1565 (by decide) (fun c1 => ?_) (fun c1 => absurd rfl c1)
  refine W.widen (k := 48 + 17 * (j + 1)) (n := 16900 + 2606 * (j + 1)) (by omega) (by omega) ?_
  exact hnext a am ad uh ur un us' uo uv' fo wp wk0 wk1 pu u0 u1 n0 n1 hrel hpap hk0 hk1 H locs ls hG hl
