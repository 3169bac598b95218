def law_pc : List Nat := [220, 269, 294, 319, 344, 369, 394, 431, 468, 505, 554, 603, 628, 641, 690, 715, 752, 777, 802, 857, 925, 962, 1011, 1048, 1085, 1154, 1192, 1254, 1322, 1371, 1396, 1421, 1458, 1496, 1533, 1570, 1607, 1644, 1681, 1718, 1743, 1780]
set_option maxRecDepth 100000 in
set_option maxHeartbeats 4000000 in
theorem law_case (Rel : Nat → HS → NS → OS → HS → NS → HS → NS → MS → Prop) (hR : RSall Rel) {p : Program} {l : Launch} {e : Env} {s : State} {m : MethodId} {below : List Frame} {meth : Method} {c : Code} {D : va_G} {κ : Nat → ClassId} {b L : Nat} {xs : Nat → Int32} (hL : L ≤ 2560) (C9 : lw_At p s m meth c b L xs) (hK : va_K D vwCl (xT κ) s) (hl0 : l.stackTraces = false) {sa : Nat} (hTH : xTH sa (fun q : Nat => s.heap.size ≤ q) s) (j : Nat) (hj : 5 * j + 5 ≤ L) (hnext : LAt Rel D κ p l e s m below meth c b 1805 j (j + 1)) : ∀ (k tgt : Nat), law_pc[k]? = some tgt → LAt Rel D κ p l e s m below meth c b tgt j j := by
  intro k tgt hk
  match k, hk with
  | 0, hk => cases hk; exact law_c0 Rel hR.1 hL C9 hK j hj hnext
  | 1, hk => cases hk; exact law_c1 Rel hR.2.1 hL C9 hK j hj hnext
  | 2, hk => cases hk; exact law_c2 Rel hR.2.2.1 hL C9 hK j hj hnext
  | 3, hk => cases hk; exact law_c3 Rel hR.2.2.2.1 hL C9 hK j hj hnext
  | 4, hk => cases hk; exact law_c4 Rel hR.2.2.2.2.1 hL C9 hK j hj hnext
  | 5, hk => cases hk; exact law_c5 Rel hR.2.2.2.2.2.1 hL C9 hK j hj hnext
  | 6, hk => cases hk; exact law_c6 Rel hR.2.2.2.2.2.2.1 hL C9 hK j hj hnext
  | 7, hk => cases hk; exact law_c7 Rel hR.2.2.2.2.2.2.2.1 hL C9 hK j hj hnext
  | 8, hk => cases hk; exact law_c8 Rel hR.2.2.2.2.2.2.2.2.1 hL C9 hK j hj hnext
  | 9, hk => cases hk; exact law_c9 Rel hR.2.2.2.2.2.2.2.2.2.1 hL C9 hK j hj hnext
  | 10, hk => cases hk; exact law_c10 Rel hR.2.2.2.2.2.2.2.2.2.2.1 hL C9 hK j hj hnext
  | 11, hk => cases hk; exact law_c11 Rel hR.2.2.2.2.2.2.2.2.2.2.2.1 hL C9 hK j hj hnext
  | 12, hk => cases hk; exact law_c12 Rel hR.2.2.2.2.2.2.2.2.2.2.2.2.1 hL C9 hK j hj hnext
  | 13, hk => cases hk; exact law_c13 Rel hR.2.2.2.2.2.2.2.2.2.2.2.2.2.1 hL C9 hK j hj hnext
  | 14, hk => cases hk; exact law_c14 Rel hR.2.2.2.2.2.2.2.2.2.2.2.2.2.2.1 hL C9 hK j hj hnext
  | 15, hk => cases hk; exact law_c15 Rel hR.2.2.2.2.2.2.2.2.2.2.2.2.2.2.2.1 hL C9 hK j hj hnext
  | 16, hk => cases hk; exact law_c16 Rel hR.2.2.2.2.2.2.2.2.2.2.2.2.2.2.2.2.1 hL C9 hK j hj hnext
  | 17, hk => cases hk; exact law_c17 Rel hR.2.2.2.2.2.2.2.2.2.2.2.2.2.2.2.2.2.1 hL C9 hK j hj hnext
  | 18, hk => cases hk; exact law_c18 Rel hR.2.2.2.2.2.2.2.2.2.2.2.2.2.2.2.2.2.2.1 hL C9 hK hl0 hTH j hj hnext
  | 19, hk => cases hk; exact law_c19 Rel hR.2.2.2.2.2.2.2.2.2.2.2.2.2.2.2.2.2.2.2.1 hL C9 hK hl0 hTH j hj hnext
  | 20, hk => cases hk; exact law_c20 Rel hR.2.2.2.2.2.2.2.2.2.2.2.2.2.2.2.2.2.2.2.2.1 hL C9 hK j hj hnext
  | 21, hk => cases hk; exact law_c21 Rel hR.2.2.2.2.2.2.2.2.2.2.2.2.2.2.2.2.2.2.2.2.2.1 hL C9 hK j hj hnext
  | 22, hk => cases hk; exact law_c22 Rel hR.2.2.2.2.2.2.2.2.2.2.2.2.2.2.2.2.2.2.2.2.2.2.1 hL C9 hK j hj hnext
  | 23, hk => cases hk; exact law_c23 Rel hR.2.2.2.2.2.2.2.2.2.2.2.2.2.2.2.2.2.2.2.2.2.2.2.1 hL C9 hK j hj hnext
  | 24, hk => cases hk; exact law_c24 Rel hR.2.2.2.2.2.2.2.2.2.2.2.2.2.2.2.2.2.2.2.2.2.2.2.2.1 hL C9 hK j hj hnext
  | 25, hk => cases hk; exact law_c25 Rel hR.2.2.2.2.2.2.2.2.2.2.2.2.2.2.2.2.2.2.2.2.2.2.2.2.2.1 hL C9 hK j hj hnext
  | 26, hk => cases hk; exact law_c26 Rel hR.2.2.2.2.2.2.2.2.2.2.2.2.2.2.2.2.2.2.2.2.2.2.2.2.2.2.1 hL C9 hK j hj hnext
  | 27, hk => cases hk; exact law_c27 Rel hR.2.2.2.2.2.2.2.2.2.2.2.2.2.2.2.2.2.2.2.2.2.2.2.2.2.2.2.1 hL C9 hK hl0 hTH j hj hnext
  | 28, hk => cases hk; exact law_c28 Rel hR.2.2.2.2.2.2.2.2.2.2.2.2.2.2.2.2.2.2.2.2.2.2.2.2.2.2.2.2.1 hL C9 hK j hj hnext
  | 29, hk => cases hk; exact law_c29 Rel hR.2.2.2.2.2.2.2.2.2.2.2.2.2.2.2.2.2.2.2.2.2.2.2.2.2.2.2.2.2.1 hL C9 hK j hj hnext
  | 30, hk => cases hk; exact law_c30 Rel hR.2.2.2.2.2.2.2.2.2.2.2.2.2.2.2.2.2.2.2.2.2.2.2.2.2.2.2.2.2.2.1 hL C9 hK j hj hnext
  | 31, hk => cases hk; exact law_c31 Rel hR.2.2.2.2.2.2.2.2.2.2.2.2.2.2.2.2.2.2.2.2.2.2.2.2.2.2.2.2.2.2.2.1 hL C9 hK j hj hnext
  | 32, hk => cases hk; exact law_c32 Rel hR.2.2.2.2.2.2.2.2.2.2.2.2.2.2.2.2.2.2.2.2.2.2.2.2.2.2.2.2.2.2.2.2.1 hL C9 hK j hj hnext
  | 33, hk => cases hk; exact law_c33 Rel hR.2.2.2.2.2.2.2.2.2.2.2.2.2.2.2.2.2.2.2.2.2.2.2.2.2.2.2.2.2.2.2.2.2.1 hL C9 hK j hj hnext
  | 34, hk => cases hk; exact law_c34 Rel hR.2.2.2.2.2.2.2.2.2.2.2.2.2.2.2.2.2.2.2.2.2.2.2.2.2.2.2.2.2.2.2.2.2.2.1 hL C9 hK j hj hnext
  | 35, hk => cases hk; exact law_c35 Rel hR.2.2.2.2.2.2.2.2.2.2.2.2.2.2.2.2.2.2.2.2.2.2.2.2.2.2.2.2.2.2.2.2.2.2.2.1 hL C9 hK j hj hnext
  | 36, hk => cases hk; exact law_c36 Rel hR.2.2.2.2.2.2.2.2.2.2.2.2.2.2.2.2.2.2.2.2.2.2.2.2.2.2.2.2.2.2.2.2.2.2.2.2.1 hL C9 hK j hj hnext
  | 37, hk => cases hk; exact law_c37 Rel hR.2.2.2.2.2.2.2.2.2.2.2.2.2.2.2.2.2.2.2.2.2.2.2.2.2.2.2.2.2.2.2.2.2.2.2.2.2.1 hL C9 hK j hj hnext
  | 38, hk => cases hk; exact law_c38 Rel hR.2.2.2.2.2.2.2.2.2.2.2.2.2.2.2.2.2.2.2.2.2.2.2.2.2.2.2.2.2.2.2.2.2.2.2.2.2.2.1 hL C9 hK j hj hnext
  | 39, hk => cases hk; exact law_c39 Rel hR.2.2.2.2.2.2.2.2.2.2.2.2.2.2.2.2.2.2.2.2.2.2.2.2.2.2.2.2.2.2.2.2.2.2.2.2.2.2.2.1 hL C9 hK j hj hnext
  | 40, hk => cases hk; exact law_c40 Rel hR.2.2.2.2.2.2.2.2.2.2.2.2.2.2.2.2.2.2.2.2.2.2.2.2.2.2.2.2.2.2.2.2.2.2.2.2.2.2.2.2.1 hL C9 hK j hj hnext
  | 41, hk => cases hk; exact law_c41 Rel hR.2.2.2.2.2.2.2.2.2.2.2.2.2.2.2.2.2.2.2.2.2.2.2.2.2.2.2.2.2.2.2.2.2.2.2.2.2.2.2.2.2 hL C9 hK j hj hnext
  | n + 42, hk => cases hk
set_option maxRecDepth 100000 in
set_option maxHeartbeats 4000000 in
theorem law_off : ∀ k : Nat, k < 42 → ∃ (off : Int) (tgt : Nat), (#[181, 230, 255, 280, 305, 330, 355, 392, 429, 466, 515, 564, 589, 602, 651, 676, 713, 738, 763, 818, 886, 923, 972, 1009, 1046, 1115, 1153, 1215, 1283, 1332, 1357, 1382, 1419, 1457, 1494, 1531, 1568, 1605, 1642, 1679, 1704, 1741] : Array Int)[k]? = some off ∧ ((39 : Nat) : Int) + off = (tgt : Int) ∧ law_pc[k]? = some tgt := by
  intro k hk
  match k, hk with
  | 0, _ => exact ⟨181, 220, rfl, rfl, rfl⟩
  | 1, _ => exact ⟨230, 269, rfl, rfl, rfl⟩
  | 2, _ => exact ⟨255, 294, rfl, rfl, rfl⟩
  | 3, _ => exact ⟨280, 319, rfl, rfl, rfl⟩
  | 4, _ => exact ⟨305, 344, rfl, rfl, rfl⟩
  | 5, _ => exact ⟨330, 369, rfl, rfl, rfl⟩
  | 6, _ => exact ⟨355, 394, rfl, rfl, rfl⟩
  | 7, _ => exact ⟨392, 431, rfl, rfl, rfl⟩
  | 8, _ => exact ⟨429, 468, rfl, rfl, rfl⟩
  | 9, _ => exact ⟨466, 505, rfl, rfl, rfl⟩
  | 10, _ => exact ⟨515, 554, rfl, rfl, rfl⟩
  | 11, _ => exact ⟨564, 603, rfl, rfl, rfl⟩
  | 12, _ => exact ⟨589, 628, rfl, rfl, rfl⟩
  | 13, _ => exact ⟨602, 641, rfl, rfl, rfl⟩
  | 14, _ => exact ⟨651, 690, rfl, rfl, rfl⟩
  | 15, _ => exact ⟨676, 715, rfl, rfl, rfl⟩
  | 16, _ => exact ⟨713, 752, rfl, rfl, rfl⟩
  | 17, _ => exact ⟨738, 777, rfl, rfl, rfl⟩
  | 18, _ => exact ⟨763, 802, rfl, rfl, rfl⟩
  | 19, _ => exact ⟨818, 857, rfl, rfl, rfl⟩
  | 20, _ => exact ⟨886, 925, rfl, rfl, rfl⟩
  | 21, _ => exact ⟨923, 962, rfl, rfl, rfl⟩
  | 22, _ => exact ⟨972, 1011, rfl, rfl, rfl⟩
  | 23, _ => exact ⟨1009, 1048, rfl, rfl, rfl⟩
  | 24, _ => exact ⟨1046, 1085, rfl, rfl, rfl⟩
  | 25, _ => exact ⟨1115, 1154, rfl, rfl, rfl⟩
  | 26, _ => exact ⟨1153, 1192, rfl, rfl, rfl⟩
  | 27, _ => exact ⟨1215, 1254, rfl, rfl, rfl⟩
  | 28, _ => exact ⟨1283, 1322, rfl, rfl, rfl⟩
  | 29, _ => exact ⟨1332, 1371, rfl, rfl, rfl⟩
  | 30, _ => exact ⟨1357, 1396, rfl, rfl, rfl⟩
  | 31, _ => exact ⟨1382, 1421, rfl, rfl, rfl⟩
  | 32, _ => exact ⟨1419, 1458, rfl, rfl, rfl⟩
  | 33, _ => exact ⟨1457, 1496, rfl, rfl, rfl⟩
  | 34, _ => exact ⟨1494, 1533, rfl, rfl, rfl⟩
  | 35, _ => exact ⟨1531, 1570, rfl, rfl, rfl⟩
  | 36, _ => exact ⟨1568, 1607, rfl, rfl, rfl⟩
  | 37, _ => exact ⟨1605, 1644, rfl, rfl, rfl⟩
  | 38, _ => exact ⟨1642, 1681, rfl, rfl, rfl⟩
  | 39, _ => exact ⟨1679, 1718, rfl, rfl, rfl⟩
  | 40, _ => exact ⟨1704, 1743, rfl, rfl, rfl⟩
  | 41, _ => exact ⟨1741, 1780, rfl, rfl, rfl⟩
  | n + 42, hk => exact absurd hk (by omega)
set_option maxRecDepth 100000 in
set_option maxHeartbeats 4000000 in
theorem law_turn (Rel : Nat → HS → NS → OS → HS → NS → HS → NS → MS → Prop) (hR : RSall Rel) (hmono : ∀ n uh un uo u0 n0 u1 n1 uv, Rel n uh un uo u0 n0 u1 n1 uv → Rel (n + 1) uh un uo u0 n0 u1 n1 uv) {p : Program} {l : Launch} {e : Env} {s : State} {m : MethodId} {below : List Frame} {meth : Method} {c : Code} {D : va_G} {κ : Nat → ClassId} {b L : Nat} {xs : Nat → Int32} (hL : L ≤ 2560) (C9 : lw_At p s m meth c b L xs) (hK : va_K D vwCl (xT κ) s) (hl0 : l.stackTraces = false) {sa : Nat} (hTH : xTH sa (fun q : Nat => s.heap.size ≤ q) s) (j : Nat) (hj0 : 5 * j ≤ L) (hnext : 5 * j + 5 ≤ L → LAt Rel D κ p l e s m below meth c b 23 (j + 1) (j + 1)) : LAt Rel D κ p l e s m below meth c b 23 j j := by
  have C9' := C9
  obtain ⟨hx, hb, hr, hml, hown, hts0, hX, hbl, hlocks, hgv⟩ := C9
  have h1805 : 5 * j + 5 ≤ L → LAt Rel D κ p l e s m below meth c b 1805 j (j + 1) := by
    intro hj a am ad uh ur un us uo uv fo wp wk0 wk1 pu u0 u1 n0 n1 hrel hpap hk0 hk1 H locs ls hG hl
    refine lv_iinc (v := nI (5 * (j + 1))) (lv' := [(4, .int (nI (5 * (j + 1)))), (0, .ref b), (1, .ref (a 25)), (2, .ref (am 0)), (3, .ref ad)]) hx hb dL_law_1805 hl (k := 4) rfl (by rw [show Int32.ofInt 5 = nI 5 from rfl, nI_add]; rfl) (by decide) rfl (fun ls hl => ?_)
    refine lv_goto (tgt := 23) hx hb dL_law_1808 (by decide) ?_
    exact hnext hj a am ad uh ur un us uo uv fo wp wk0 wk1 pu u0 u1 n0 n1 hrel hpap hk0 hk1 H locs ls hG (lv_sub hl [1, 2, 3, 4, 0] rfl)
  intro a am ad uh ur un us uo uv fo wp wk0 wk1 pu u0 u1 n0 n1 hrel hpap hk0 hk1 H locs ls hG hl
  refine lv_iload hx hb dL_law_23 (lv_at hl 4 rfl) ?_
  refine lv_aload_n hx hb dL_law_25 rfl (lv_at hl 0 rfl) ?_
  refine va_slen hx hb hX hbl (Nat.not_le.mpr hbl) hG.2.2 dL_law_26 ?_
  refine lv_iconst (v := 5) hx hb dL_law_27 (by decide) ?_
  refine lv_isub hx hb dL_law_28 ?_
  have hi : (nI L - nI 5).toInt = (L : Int) - 5 := pk_sub_toInt (by omega) (by omega)
  have hq : nI L - nI 5 < nI (5 * j) ↔ ¬ 5 * j + 5 ≤ L := by
    rw [Int32.lt_iff_toInt_lt, hi, nI_toInt (by omega)]; omega
  refine lv_icmp_gt (tgt := 1811) hx hb dL_law_29 (by decide) (fun c1 => ?_) (fun c1 => ?_)
  · refine lv_iconst (v := 1) hx hb dL_law_1811 (by decide) ?_
    refine va_forget (fun q h => hG.2.2.2.2 q h) ?_
    refine W.widen (k := 601024) (n := 7293034) (by omega) (by omega) ?_
    exact lw_ret hx hb hr hlocks dL_law_1812
  · have hj : 5 * j + 5 ≤ L := Decidable.byContradiction fun h => c1 (hq.mpr h)
    refine lv_aload_n hx hb dL_law_32 rfl (lv_at hl 0 rfl) ?_
    refine lv_iload hx hb dL_law_33 (lv_at hl 4 rfl) ?_
    refine va_sld hx hb hX hbl (Nat.not_le.mpr hbl) hG.2.2 (vp_in_nI (by omega) (by omega)) dL_law_35 ?_
    refine lv_bipush (v := 63) hx hb dL_law_36 (by decide) ?_
    refine lv_iand hx hb dL_law_38 ?_
    obtain ⟨k, hk, ek⟩ := pk_andE (xs (nI (5 * j)).toNatClampNeg) (m := 63) 6 (by decide)
    rw [ek]
    have tk : (nI k).toInt = (k : Int) := nI_toInt (by omega)
    by_cases q : k < 42
    · obtain ⟨off, tgt, h1, h2, h3⟩ := law_off k q
      refine lv_tableIn (off := off) (tgt := tgt) hx hb dL_law_39 (by omega) (by omega) (by rw [tk]; exact h1) h2 ?_
      exact law_case Rel hR hL C9' hK hl0 hTH j hj (h1805 hj) k tgt h3 a am ad uh ur un us uo uv fo wp wk0 wk1 pu u0 u1 n0 n1 hrel hpap hk0 hk1 H locs ls hG hl
    · refine lv_tableOut (tgt := 1805) hx hb dL_law_39 (Or.inr (by omega)) (by decide) ?_
      refine W.widen (k := 48 + 17 * (j + 1)) (n := 16900 + 2606 * (j + 1)) (by omega) (by omega) ?_
      exact h1805 hj a am ad uh ur un us uo uv fo wp wk0 wk1 pu u0 u1 n0 n1 (hmono _ _ _ _ _ _ _ _ _ hrel) hpap hk0 hk1 H locs ls hG hl
theorem law_loop (Rel : Nat → HS → NS → OS → HS → NS → HS → NS → MS → Prop) (hR : RSall Rel) (hmono : ∀ n uh un uo u0 n0 u1 n1 uv, Rel n uh un uo u0 n0 u1 n1 uv → Rel (n + 1) uh un uo u0 n0 u1 n1 uv) {p : Program} {l : Launch} {e : Env} {s : State} {m : MethodId} {below : List Frame} {meth : Method} {c : Code} {D : va_G} {κ : Nat → ClassId} {b L : Nat} {xs : Nat → Int32} (hL : L ≤ 2560) (C9 : lw_At p s m meth c b L xs) (hK : va_K D vwCl (xT κ) s) (hl0 : l.stackTraces = false) {sa : Nat} (hTH : xTH sa (fun q : Nat => s.heap.size ≤ q) s) : ∀ (n j : Nat), L ≤ 5 * (n + j) → 5 * j ≤ L → LAt Rel D κ p l e s m below meth c b 23 j j := by
  intro n
  induction n with
  | zero => exact fun j h1 h2 => law_turn Rel hR hmono hL C9 hK hl0 hTH j h2 (fun h => absurd h1 (by omega))
  | succ n ih => exact fun j h1 h2 => law_turn Rel hR hmono hL C9 hK hl0 hTH j h2 (fun h => ih (j + 1) (by omega) (by omega))

