theorem xp1 (U R N S O K M : va_W) : (U ++ (R ++ (N ++ (S ++ (O ++ (K ++ M)))))).Perm ((U ++ K) ++ (R ++ (N ++ (S ++ (O ++ M))))) := by
  rw [List.append_assoc]
  have h := List.perm_append_comm_assoc (R ++ (N ++ (S ++ O))) K M
  simp only [List.append_assoc] at h
  exact h.append_left U
theorem xp3 (U R N S O K M : va_W) : (U ++ (R ++ (N ++ (S ++ (O ++ (K ++ M)))))).Perm ((K ++ U) ++ (R ++ (N ++ (S ++ (O ++ M))))) := by
  have h := List.perm_append_comm_assoc (U ++ (R ++ (N ++ (S ++ O)))) K M
  simp only [List.append_assoc] at h ⊢
  exact h
theorem xp0 (U R N S O K M : va_W) : (U ++ (R ++ (N ++ (S ++ (O ++ (K ++ M)))))).Perm (N ++ ((U ++ (R ++ (S ++ (O ++ K)))) ++ M)) := by
  have h := List.perm_append_comm_assoc (U ++ R) N (S ++ (O ++ (K ++ M)))
  simp only [List.append_assoc] at h ⊢
  exact h
theorem xp2 (U R N S O K M : va_W) : (U ++ (R ++ (N ++ (S ++ (O ++ (K ++ M)))))).Perm ((N ++ M) ++ (U ++ (R ++ (S ++ (O ++ K))))) := by
  refine (xp0 U R N S O K M).trans ?_
  rw [List.append_assoc N M]
  exact List.perm_append_comm.append_left N
theorem xp4 (U R N S O K M : va_W) : (U ++ (R ++ (N ++ (S ++ (O ++ (K ++ M)))))).Perm ((M ++ N) ++ (U ++ (R ++ (S ++ (O ++ K))))) := by
  refine (xp2 U R N S O K M).trans ?_
  exact List.perm_append_comm.append_right _
theorem x_up_self {α : Type} (f : Nat → α) (k : Nat) (v : α) (h : f k = v) : va_up f k v = f := by
  funext j
  unfold va_up
  by_cases e : j = k
  · rw [if_pos e, e, h]
  · rw [if_neg e]
section XQ
variable {p : Program} {l : Launch} {e : Env} {R : Room} {s : State} {m : MethodId} {args : Array Value} {below : List Frame} {meth : Method} {c : Code} {H : Heap} {locs : List Loc} {cells slots : Nat} {Q : State → Prop}
variable {cc : ByteArray} {pc : Nat} {ls : Array Slot} {rest : List Value} {D : va_G} {κ : Nat → ClassId} {A : Nat → Prop} {a : Nat} {w w1 : va_W} {H0 : Heap}
theorem x_aldH (hx : p.tables.exec = Jvm.exec) (hb : c.code = cc) (hK : va_K D vwCl (xT κ) s) (hG : xG D A H0 w H locs) (q0 : Nat) {n : Nat} {f : Nat → Option Nat} (ha : w[q0]? = some (a, .inl (κ 3, n, .inr (.inr (.inr (.inr f)))))) {i : Int32} {v : Option Nat} (hv : f i.toNatClampNeg = v) (hin : vp_in i n) (hdg : decode cc pc = .ok (.aaload, 1))
    (kk : W p l e R s m args below meth c H locs cells slots Q (F0 m (pc + 1) ls (va_rf v :: rest))) : W p l e R s m args below meth c H locs cells slots Q (F0 m pc ls (.int i :: .ref a :: rest)) := by
  subst hv
  exact va_aldq hx hb hK hG.1 q0 3 ha rfl hin hdg kk
theorem x_aldN (hx : p.tables.exec = Jvm.exec) (hb : c.code = cc) (hK : va_K D vwCl (xT κ) s) (hG : xG D A H0 w H locs) (q0 : Nat) {n : Nat} {f : Nat → Option Nat} (ha : w[q0]? = some (a, .inl (κ 4, n, .inr (.inr (.inr (.inr f)))))) {i : Int32} {v : Option Nat} (hv : f i.toNatClampNeg = v) (hin : vp_in i n) (hdg : decode cc pc = .ok (.aaload, 1))
    (kk : W p l e R s m args below meth c H locs cells slots Q (F0 m (pc + 1) ls (va_rf v :: rest))) : W p l e R s m args below meth c H locs cells slots Q (F0 m pc ls (.int i :: .ref a :: rest)) := by
  subst hv
  exact va_aldq hx hb hK hG.1 q0 4 ha rfl hin hdg kk
theorem x_astH (hx : p.tables.exec = Jvm.exec) (hb : c.code = cc) (hK : va_K D vwCl (xT κ) s) (hG : xG D A H0 w H locs) (q0 qk : Nat) {n v : Nat} {vs : List Value} {f : Nat → Option Nat} (ha : w[q0]? = some (a, .inl (κ 3, n, .inr (.inr (.inr (.inr f)))))) (hv : w[qk]? = some (v, .inr (0, vs))) {i : Int32} (hw : w.set q0 (a, .inl (κ 3, n, .inr (.inr (.inr (.inr (va_up f i.toNatClampNeg (some v))))))) = w1) (hin : vp_in i n) (hdg : decode cc pc = .ok (.aastore, 1))
    (kk : ∀ (H1 : Heap) (locs1 : List Loc), xG D A H0 w1 H1 locs1 → W p l e R s m args below meth c H1 locs1 cells slots Q (F0 m (pc + 1) ls rest)) : W p l e R s m args below meth c H locs cells slots Q (F0 m pc ls (.ref v :: .int i :: .ref a :: rest)) := by
  subst hw
  exact va_astq (r := (RX0, TX0, 17)) hx hb hK hG.1 hG.2.1 hG.2.2 q0 3 qk 0 ha rfl hv rfl hin hdg (fun H1 locs1 h1 h2 h3 => kk H1 locs1 ⟨h1, h2, h3⟩)
theorem x_astN (hx : p.tables.exec = Jvm.exec) (hb : c.code = cc) (hK : va_K D vwCl (xT κ) s) (hG : xG D A H0 w H locs) (q0 qk : Nat) {n v : Nat} {vs : List Value} {f : Nat → Option Nat} (ha : w[q0]? = some (a, .inl (κ 4, n, .inr (.inr (.inr (.inr f)))))) (hv : w[qk]? = some (v, .inr (1, vs))) {i : Int32} (hw : w.set q0 (a, .inl (κ 4, n, .inr (.inr (.inr (.inr (va_up f i.toNatClampNeg (some v))))))) = w1) (hin : vp_in i n) (hdg : decode cc pc = .ok (.aastore, 1))
    (kk : ∀ (H1 : Heap) (locs1 : List Loc), xG D A H0 w1 H1 locs1 → W p l e R s m args below meth c H1 locs1 cells slots Q (F0 m (pc + 1) ls rest)) : W p l e R s m args below meth c H locs cells slots Q (F0 m pc ls (.ref v :: .int i :: .ref a :: rest)) := by
  subst hw
  exact va_astq (r := (RX1, TX1, 3)) hx hb hK hG.1 hG.2.1 hG.2.2 q0 4 qk 1 ha rfl hv rfl hin hdg (fun H1 locs1 h1 h2 h3 => kk H1 locs1 ⟨h1, h2, h3⟩)
end XQ
/-- what is kept under k: none yet, or a hall and a net of their own -/
def xKep (κ : Nat → ClassId) (ph pn : Option Nat) (wk : va_W) (u0 : HS) (n0 : NS) : Prop := (ph = none ∧ pn = none ∧ wk = [] ∧ u0 = HZ ∧ n0 = NZ) ∨ ∃ b : Nat → Nat, ph = some (b 0) ∧ pn = some (b 19) ∧ wk = WH κ b u0 ++ WN κ b n0

set_option maxRecDepth 100000 in
set_option maxHeartbeats 4000000 in
theorem c_X4_againP (l : Launch) (D : va_G) (κ : Nat → ClassId) (a b : Nat → Nat) (sz : Nat) (p1 : Int32) (uh : HS) (ur : RS) (un : NS) (us : SS) (uo : OS) (uk : HS) (um : NS) (uh' : HS) (un' : NS) (hin : vp_in p1 2) (hk : uo.kh p1.toNatClampNeg = some (b 0)) (hn : uo.kn p1.toNatClampNeg = some (b 19)) (hcp : f_X0_copyFrom uh uk = some uh') (hcn : f_X1_copyFrom un um = some un') : Met l yX4_again wsX4_again ({ frames := 2, cells := 0, slots := 0, locals := 85 } : Room) (xPc D κ [.ref (a 25), .int p1] (WH κ a uh ++ (WR κ a ur ++ (WN κ a un ++ (WS κ a us ++ (WO κ a uo ++ (WH κ b uk ++ WN κ b um)))))) sz) (xQi D κ 1 (WH κ a uh' ++ (WR κ a ur ++ (WN κ a un' ++ (WS κ a us ++ (WO κ a uo ++ (WH κ b uk ++ WN κ b um)))))) (va_A (WH κ a uh ++ (WR κ a ur ++ (WN κ a un ++ (WS κ a us ++ (WO κ a uo ++ (WH κ b uk ++ WN κ b um)))))) sz)) 0 0 (va_A (WH κ a uh ++ (WR κ a ur ++ (WN κ a un ++ (WS κ a us ++ (WO κ a uo ++ (WH κ b uk ++ WN κ b um)))))) sz) := by
  refine x_ofW (cc := cX4_again) (maxL := 2) (ret := (some .boolean)) (Qf := fun A => xQi D κ 1 (WH κ a uh' ++ (WR κ a ur ++ (WN κ a un' ++ (WS κ a us ++ (WO κ a uo ++ (WH κ b uk ++ WN κ b um)))))) A) (by decide) rfl (Nat.le_of_ble_eq_true rfl) ?_
  intro p e s m below meth c hx hb hr hlk hml hown hts hK A hA H locs hG ls hl
  have hown : s.vm.findClass RX4 = some m.cls := hown
  have hl : lv_has ls 2 [(0, .ref (a 25)), (1, .int p1)] := hl
  obtain ⟨hlo, hhi⟩ := vp_in_iff.mp hin
  have iX4 : ∀ w ∈ u_ws RX4 TX4 8, w ∈ wsX4_again := fun _ h => List.mem_cons_of_mem _ (List.mem_append_left _ (List.mem_append_left _ (List.mem_append_right _ h)))
  have k12 := hts (.fieldLink RX4 12 "SpineDesks" "hall" "LSpineDesks$Hall;") (List.mem_of_getElem? (i := 3) rfl)
  have k18 := hts (.fieldLink RX4 18 "SpineDesks" "keptHalls" "[LSpineDesks$Hall;") (List.mem_of_getElem? (i := 1) rfl)
  have k25 := hts (.fieldLink RX4 25 "SpineDesks" "net" "LSpineDesks$Net;") (List.mem_of_getElem? (i := 4) rfl)
  have k29 := hts (.fieldLink RX4 29 "SpineDesks" "keptNets" "[LSpineDesks$Net;") (List.mem_of_getElem? (i := 2) rfl)
  refine lv_iload_n hx hb dX4_again_0 rfl (lv_at hl 1 rfl) ?_
  refine lv_if_lt (tgt := 27) hx hb dX4_again_1 (by decide) (fun c1 => absurd c1 (fun q => hin (Or.inl q))) (fun c1 => ?_)
  refine lv_iload_n hx hb dX4_again_4 rfl (lv_at hl 1 rfl) ?_
  refine lv_iconst (v := 2) hx hb dX4_again_5 (by decide) ?_
  refine lv_icmp_ge (tgt := 27) hx hb dX4_again_6 (by decide) (fun c2 => absurd (Int32.le_iff_toInt_le.mp c2) (by show ¬ ((2 : Int32).toInt ≤ _); rw [show (2 : Int32).toInt = 2 from rfl]; omega)) (fun c2 => ?_)
  refine lv_aload_n hx hb dX4_again_9 rfl (lv_at hl 0 rfl) ?_
  refine x_get (C := RX4) (T := TX4) (N := 8) (ci := 4) hx hb hts iX4 hown hK hG 25 rfl rfl 1 (by decide) k18 (v := .ref (a 27)) rfl dX4_again_10 ?_
  refine lv_iload_n hx hb dX4_again_13 rfl (lv_at hl 1 rfl) ?_
  refine x_aldH hx hb hK hG 27 rfl hk hin dX4_again_14 ?_
  refine lv_ifnull (x := b 0) hx hb dX4_again_15 ?_
  refine lv_aload_n hx hb dX4_again_18 rfl (lv_at hl 0 rfl) ?_
  refine x_get (C := RX4) (T := TX4) (N := 8) (ci := 4) hx hb hts iX4 hown hK hG 25 rfl rfl 3 (by decide) k29 (v := .ref (a 28)) rfl dX4_again_19 ?_
  refine lv_iload_n hx hb dX4_again_22 rfl (lv_at hl 1 rfl) ?_
  refine x_aldN hx hb hK hG 28 rfl hn hin dX4_again_23 ?_
  refine lv_ifnonnull (x := b 19) (tgt := 29) hx hb dX4_again_24 (by decide) ?_
  refine lv_aload_n hx hb dX4_again_29 rfl (lv_at hl 0 rfl) ?_
  refine x_get (C := RX4) (T := TX4) (N := 8) (ci := 4) hx hb hts iX4 hown hK hG 25 rfl rfl 0 (by decide) k12 (v := .ref (a 0)) rfl dX4_again_30 ?_
  refine lv_aload_n hx hb dX4_again_33 rfl (lv_at hl 0 rfl) ?_
  refine x_get (C := RX4) (T := TX4) (N := 8) (ci := 4) hx hb hts iX4 hown hK hG 25 rfl rfl 1 (by decide) k18 (v := .ref (a 27)) rfl dX4_again_34 ?_
  refine lv_iload_n hx hb dX4_again_37 rfl (lv_at hl 1 rfl) ?_
  refine x_aldH hx hb hK hG 27 rfl hk hin dX4_again_38 ?_
  have hG := xG_perm (xp1 _ _ _ _ _ _ _) hG
  refine x_callVv (pre := []) (wc := WH κ a uh ++ WH κ b uk) (wc1 := WH κ a uh' ++ WH κ b uk) (post := WR κ a ur ++ (WN κ a un ++ (WS κ a us ++ (WO κ a uo ++ WN κ b um)))) (As := [.ref (b 0)]) (rest := []) (w1 := (WH κ a uh' ++ WH κ b uk) ++ (WR κ a ur ++ (WN κ a un ++ (WS κ a us ++ (WO κ a uo ++ WN κ b um))))) ⟨hx, hb, hml, hown, hts⟩ hK hG hA rfl rfl (c_X0_copyFrom l D κ a b H.size uh uk uh' hcp) (cwV 1 hts gX4_again_X0_copyFrom rfl rfl rfl (by decide +kernel) ⟨Nat.le_of_ble_eq_true rfl, Nat.le_of_ble_eq_true rfl⟩) 0 0 rfl rfl rfl rfl hl.1 rfl (Nat.le_of_ble_eq_true rfl) dX4_again_39 ⟨Nat.zero_le _, Nat.zero_le _⟩ (fun H locs hG => ?_)
  have hG : xG D A s.heap (WH κ a uh' ++ (WR κ a ur ++ (WN κ a un ++ (WS κ a us ++ (WO κ a uo ++ (WH κ b uk ++ WN κ b um)))))) H locs := xG_perm (xp1 _ _ _ _ _ _ _).symm hG
  refine lv_aload_n hx hb dX4_again_42 rfl (lv_at hl 0 rfl) ?_
  refine x_get (C := RX4) (T := TX4) (N := 8) (ci := 4) hx hb hts iX4 hown hK hG 25 rfl rfl 2 (by decide) k25 (v := .ref (a 19)) rfl dX4_again_43 ?_
  refine lv_aload_n hx hb dX4_again_46 rfl (lv_at hl 0 rfl) ?_
  refine x_get (C := RX4) (T := TX4) (N := 8) (ci := 4) hx hb hts iX4 hown hK hG 25 rfl rfl 3 (by decide) k29 (v := .ref (a 28)) rfl dX4_again_47 ?_
  refine lv_iload_n hx hb dX4_again_50 rfl (lv_at hl 1 rfl) ?_
  refine x_aldN hx hb hK hG 28 rfl hn hin dX4_again_51 ?_
  have hG := xG_perm (xp2 _ _ _ _ _ _ _) hG
  refine x_callVv (pre := []) (wc := WN κ a un ++ WN κ b um) (wc1 := WN κ a un' ++ WN κ b um) (post := WH κ a uh' ++ (WR κ a ur ++ (WS κ a us ++ (WO κ a uo ++ WH κ b uk)))) (As := [.ref (b 19)]) (rest := []) (w1 := (WN κ a un' ++ WN κ b um) ++ (WH κ a uh' ++ (WR κ a ur ++ (WS κ a us ++ (WO κ a uo ++ WH κ b uk))))) ⟨hx, hb, hml, hown, hts⟩ hK hG hA rfl rfl (c_X1_copyFrom l D κ a b H.size un um un' hcn) (cwV 1 hts gX4_again_X1_copyFrom rfl rfl rfl (by decide +kernel) ⟨Nat.le_of_ble_eq_true rfl, Nat.le_of_ble_eq_true rfl⟩) 0 1 rfl rfl rfl rfl hl.1 rfl (Nat.le_of_ble_eq_true rfl) dX4_again_52 ⟨Nat.zero_le _, Nat.zero_le _⟩ (fun H locs hG => ?_)
  have hG : xG D A s.heap (WH κ a uh' ++ (WR κ a ur ++ (WN κ a un' ++ (WS κ a us ++ (WO κ a uo ++ (WH κ b uk ++ WN κ b um)))))) H locs := xG_perm (xp2 _ _ _ _ _ _ _).symm hG
  refine lv_iconst (v := 1) hx hb dX4_again_55 (by decide) ?_
  exact x_zret hx hb hr hlk hK hG (by decide) rfl rfl dX4_again_56
set_option maxRecDepth 100000 in
set_option maxHeartbeats 4000000 in
theorem c_X4_againN (l : Launch) (D : va_G) (κ : Nat → ClassId) (a : Nat → Nat) (sz : Nat) (p1 : Int32) (uh : HS) (ur : RS) (un : NS) (us : SS) (uo : OS) (hk : vp_in p1 2 → uo.kh p1.toNatClampNeg = none) : Met l yX4_again wsX4_again ({ frames := 2, cells := 0, slots := 0, locals := 85 } : Room) (xPc D κ [.ref (a 25), .int p1] (WH κ a uh ++ (WR κ a ur ++ (WN κ a un ++ (WS κ a us ++ WO κ a uo)))) sz) (xQi D κ 0 (WH κ a uh ++ (WR κ a ur ++ (WN κ a un ++ (WS κ a us ++ WO κ a uo)))) (va_A (WH κ a uh ++ (WR κ a ur ++ (WN κ a un ++ (WS κ a us ++ WO κ a uo)))) sz)) 0 0 (va_A (WH κ a uh ++ (WR κ a ur ++ (WN κ a un ++ (WS κ a us ++ WO κ a uo)))) sz) := by
  refine x_ofW (cc := cX4_again) (maxL := 2) (ret := (some .boolean)) (Qf := fun A => xQi D κ 0 (WH κ a uh ++ (WR κ a ur ++ (WN κ a un ++ (WS κ a us ++ WO κ a uo)))) A) (by decide) rfl (Nat.le_of_ble_eq_true rfl) ?_
  intro p e s m below meth c hx hb hr hlk hml hown hts hK A hA H locs hG ls hl
  have hown : s.vm.findClass RX4 = some m.cls := hown
  have hl : lv_has ls 2 [(0, .ref (a 25)), (1, .int p1)] := hl
  have iX4 : ∀ w ∈ u_ws RX4 TX4 8, w ∈ wsX4_again := fun _ h => List.mem_cons_of_mem _ (List.mem_append_left _ (List.mem_append_left _ (List.mem_append_right _ h)))
  have k12 := hts (.fieldLink RX4 12 "SpineDesks" "hall" "LSpineDesks$Hall;") (List.mem_of_getElem? (i := 3) rfl)
  have k18 := hts (.fieldLink RX4 18 "SpineDesks" "keptHalls" "[LSpineDesks$Hall;") (List.mem_of_getElem? (i := 1) rfl)
  have k25 := hts (.fieldLink RX4 25 "SpineDesks" "net" "LSpineDesks$Net;") (List.mem_of_getElem? (i := 4) rfl)
  have k29 := hts (.fieldLink RX4 29 "SpineDesks" "keptNets" "[LSpineDesks$Net;") (List.mem_of_getElem? (i := 2) rfl)
  refine lv_iload_n hx hb dX4_again_0 rfl (lv_at hl 1 rfl) ?_
  refine lv_if_lt (tgt := 27) hx hb dX4_again_1 (by decide) (fun c1 => ?_) (fun c1 => ?_)
  · refine lv_iconst (v := 0) hx hb dX4_again_27 (by decide) ?_
    exact x_zret hx hb hr hlk hK hG (by decide) rfl rfl dX4_again_28
  · refine lv_iload_n hx hb dX4_again_4 rfl (lv_at hl 1 rfl) ?_
    refine lv_iconst (v := 2) hx hb dX4_again_5 (by decide) ?_
    refine lv_icmp_ge (tgt := 27) hx hb dX4_again_6 (by decide) (fun c2 => ?_) (fun c2 => ?_)
    · refine lv_iconst (v := 0) hx hb dX4_again_27 (by decide) ?_
      exact x_zret hx hb hr hlk hK hG (by decide) rfl rfl dX4_again_28
    · have hin : vp_in p1 2 := by
        have h1 : ¬ p1.toInt < 0 := fun q => c1 (Int32.lt_iff_toInt_lt.mpr q)
        have h2 : ¬ (2 : Int32).toInt ≤ p1.toInt := fun q => c2 (Int32.le_iff_toInt_le.mpr q)
        rw [show (2 : Int32).toInt = 2 from rfl] at h2
        exact vp_in_iff.mpr ⟨by omega, by omega⟩
      refine lv_aload_n hx hb dX4_again_9 rfl (lv_at hl 0 rfl) ?_
      refine x_get (C := RX4) (T := TX4) (N := 8) (ci := 4) hx hb hts iX4 hown hK hG 25 rfl rfl 1 (by decide) k18 (v := .ref (a 27)) rfl dX4_again_10 ?_
      refine lv_iload_n hx hb dX4_again_13 rfl (lv_at hl 1 rfl) ?_
      refine x_aldH hx hb hK hG 27 rfl (hk hin) hin dX4_again_14 ?_
      refine lv_ifnullN (tgt := 27) hx hb dX4_again_15 (by decide) ?_
      refine lv_iconst (v := 0) hx hb dX4_again_27 (by decide) ?_
      exact x_zret hx hb hr hlk hK hG (by decide) rfl rfl dX4_again_28
set_option maxRecDepth 100000 in
set_option maxHeartbeats 4000000 in
theorem c_X4_keepP (l : Launch) (D : va_G) (κ : Nat → ClassId) (a : Nat → Nat) (sz : Nat) (p1 : Int32) (uh : HS) (ur : RS) (un : NS) (us : SS) (uo : OS) (wk : va_W) (u0 u1 : HS) (n0 n1 : NS) (hin : vp_in p1 2) (hkp : xKep κ (uo.kh p1.toNatClampNeg) (uo.kn p1.toNatClampNeg) wk u0 n0) (hcp : f_X0_copyFrom u0 uh = some u1) (hcn : f_X1_copyFrom n0 un = some n1) : Met l yX4_keep wsX4_keep ({ frames := 2, cells := 17, slots := 2606, locals := 85 } : Room) (fun v U => xPc D κ [.ref (a 25), .int p1] (WH κ a uh ++ (WR κ a ur ++ (WN κ a un ++ (WS κ a us ++ (WO κ a uo ++ wk))))) sz v U ∧ True) (va_Qi (fun (r2 : Int32) (b : Nat → Nat) => r2 = 1) (fun (b : Nat → Nat) t => va_P D vwCl (WH κ a uh ++ (WR κ a ur ++ (WN κ a un ++ (WS κ a us ++ (WO κ a (xKO uo p1.toNatClampNeg b) ++ (WH κ b u1 ++ WN κ b n1)))))) t.heap ∧ va_K D vwCl (xT κ) t ∧ va_D (va_A (WH κ a uh ++ (WR κ a ur ++ (WN κ a un ++ (WS κ a us ++ (WO κ a uo ++ wk))))) sz) (WH κ a uh ++ (WR κ a ur ++ (WN κ a un ++ (WS κ a us ++ (WO κ a (xKO uo p1.toNatClampNeg b) ++ (WH κ b u1 ++ WN κ b n1))))))) (va_A (WH κ a uh ++ (WR κ a ur ++ (WN κ a un ++ (WS κ a us ++ (WO κ a uo ++ wk))))) sz)) 17 2606 (va_A (WH κ a uh ++ (WR κ a ur ++ (WN κ a un ++ (WS κ a us ++ (WO κ a uo ++ wk))))) sz) := by
  refine x_ofWG (X := fun _ => True) (cc := cX4_keep) (maxL := 2) (ret := (some .boolean)) (Qf := fun A => va_Qi (fun (r2 : Int32) (b : Nat → Nat) => r2 = 1) (fun (b : Nat → Nat) t => va_P D vwCl (WH κ a uh ++ (WR κ a ur ++ (WN κ a un ++ (WS κ a us ++ (WO κ a (xKO uo p1.toNatClampNeg b) ++ (WH κ b u1 ++ WN κ b n1)))))) t.heap ∧ va_K D vwCl (xT κ) t ∧ va_D A (WH κ a uh ++ (WR κ a ur ++ (WN κ a un ++ (WS κ a us ++ (WO κ a (xKO uo p1.toNatClampNeg b) ++ (WH κ b u1 ++ WN κ b n1))))))) A) (by decide) rfl (Nat.le_of_ble_eq_true rfl) ?_
  intro p e s m below meth c hx hb hr hlk hml hnm hown hts hK _ A hA H locs hG ls hl
  have hown : s.vm.findClass RX4 = some m.cls := hown
  have hl : lv_has ls 2 [(0, .ref (a 25)), (1, .int p1)] := hl
  obtain ⟨hlo, hhi⟩ := vp_in_iff.mp hin
  have iX0 : ∀ w ∈ u_ws RX0 TX0 17, w ∈ wsX4_keep := fun _ h => List.mem_cons_of_mem _ (List.mem_append_left _ (List.mem_append_right _ h))
  have iX1 : ∀ w ∈ u_ws RX1 TX1 3, w ∈ wsX4_keep := fun _ h => List.mem_cons_of_mem _ (List.mem_append_right _ h)
  have iX4 : ∀ w ∈ u_ws RX4 TX4 8, w ∈ wsX4_keep := fun _ h => List.mem_cons_of_mem _ (List.mem_append_left _ (List.mem_append_left _ (List.mem_append_right _ h)))
  have k12 := hts (.fieldLink RX4 12 "SpineDesks" "hall" "LSpineDesks$Hall;") (List.mem_of_getElem? (i := 9) rfl)
  have k18 := hts (.fieldLink RX4 18 "SpineDesks" "keptHalls" "[LSpineDesks$Hall;") (List.mem_of_getElem? (i := 1) rfl)
  have k25 := hts (.fieldLink RX4 25 "SpineDesks" "net" "LSpineDesks$Net;") (List.mem_of_getElem? (i := 10) rfl)
  have k29 := hts (.fieldLink RX4 29 "SpineDesks" "keptNets" "[LSpineDesks$Net;") (List.mem_of_getElem? (i := 2) rfl)
  have kc22 := hts (.classLink RX4 22 RX1) (List.mem_of_getElem? (i := 6) rfl)
  have kc9 := hts (.classLink RX4 9 RX0) (List.mem_of_getElem? (i := 3) rfl)
  have kiX0 := hts (.initialized RX0) (List.mem_of_getElem? (i := 5) rfl)
  have kiX1 := hts (.initialized RX1) (List.mem_of_getElem? (i := 8) rfl)
  have kimX0 := hts (.instanceMethod yX0_init) (List.mem_of_getElem? (i := 12) rfl)
  have kimX1 := hts (.instanceMethod yX1_init) (List.mem_of_getElem? (i := 36) rfl)
  have km11 := hts (.methodLink RX4 11 yX0_init) (List.mem_of_getElem? (i := 11) rfl)
  have km24 := hts (.methodLink RX4 24 yX1_init) (List.mem_of_getElem? (i := 35) rfl)
  have knX0 := hts (.instantiable RX0 17) (List.mem_of_getElem? (i := 4) rfl)
  have knX1 := hts (.instantiable RX1 3) (List.mem_of_getElem? (i := 7) rfl)
  have T55 : ∀ (b : Nat → Nat) (H : Heap) (locs : List Loc) (ls : Array Slot), xG D A s.heap (WH κ a uh ++ (WR κ a ur ++ (WN κ a un ++ (WS κ a us ++ (WO κ a (xKO uo p1.toNatClampNeg b) ++ (WH κ b u0 ++ WN κ b n0)))))) H locs → lv_has ls 2 [(0, .ref (a 25)), (1, .int p1)] → W p l e ({ frames := 2, cells := 17, slots := 2606, locals := 85 } : Room) s m (([.ref (a 25), .int p1] : List Value).toArray) below meth c H locs 17 2606 (MQ below (va_Qi (fun (r2 : Int32) (b : Nat → Nat) => r2 = 1) (fun (b : Nat → Nat) t => va_P D vwCl (WH κ a uh ++ (WR κ a ur ++ (WN κ a un ++ (WS κ a us ++ (WO κ a (xKO uo p1.toNatClampNeg b) ++ (WH κ b u1 ++ WN κ b n1)))))) t.heap ∧ va_K D vwCl (xT κ) t ∧ va_D A (WH κ a uh ++ (WR κ a ur ++ (WN κ a un ++ (WS κ a us ++ (WO κ a (xKO uo p1.toNatClampNeg b) ++ (WH κ b u1 ++ WN κ b n1))))))) A) (([.ref (a 25), .int p1] : List Value).toArray) s 17 2606 A) (F0 m 55 ls []) := by
    intro b H locs ls hG hl
    have hk : OS.kh (xKO uo p1.toNatClampNeg b) p1.toNatClampNeg = some (b 0) := by show va_up uo.kh _ _ _ = _; unfold va_up; rw [if_pos rfl]
    have hn : OS.kn (xKO uo p1.toNatClampNeg b) p1.toNatClampNeg = some (b 19) := by show va_up uo.kn _ _ _ = _; unfold va_up; rw [if_pos rfl]
    refine lv_aload_n hx hb dX4_keep_55 rfl (lv_at hl 0 rfl) ?_
    refine x_get (C := RX4) (T := TX4) (N := 8) (ci := 4) hx hb hts iX4 hown hK hG 25 rfl rfl 1 (by decide) k18 (v := .ref (a 27)) rfl dX4_keep_56 ?_
    refine lv_iload_n hx hb dX4_keep_59 rfl (lv_at hl 1 rfl) ?_
    refine x_aldH hx hb hK hG 27 rfl hk hin dX4_keep_60 ?_
    refine lv_aload_n hx hb dX4_keep_61 rfl (lv_at hl 0 rfl) ?_
    refine x_get (C := RX4) (T := TX4) (N := 8) (ci := 4) hx hb hts iX4 hown hK hG 25 rfl rfl 0 (by decide) k12 (v := .ref (a 0)) rfl dX4_keep_62 ?_
    have hG := xG_perm (xp3 _ _ _ _ _ _ _) hG
    refine x_callVv (pre := []) (wc := WH κ b u0 ++ WH κ a uh) (wc1 := WH κ b u1 ++ WH κ a uh) (post := WR κ a ur ++ (WN κ a un ++ (WS κ a us ++ (WO κ a (xKO uo p1.toNatClampNeg b) ++ WN κ b n0)))) (As := [.ref (a 0)]) (rest := []) (w1 := (WH κ b u1 ++ WH κ a uh) ++ (WR κ a ur ++ (WN κ a un ++ (WS κ a us ++ (WO κ a (xKO uo p1.toNatClampNeg b) ++ WN κ b n0))))) ⟨hx, hb, hml, hown, hts⟩ hK hG hA rfl rfl (c_X0_copyFrom l D κ b a H.size u0 uh u1 hcp) (cwV 1 hts gX4_keep_X0_copyFrom rfl rfl rfl (by decide +kernel) ⟨Nat.le_of_ble_eq_true rfl, Nat.le_of_ble_eq_true rfl⟩) 0 0 rfl rfl rfl rfl hl.1 rfl (Nat.le_of_ble_eq_true rfl) dX4_keep_65 ⟨Nat.le_of_ble_eq_true rfl, Nat.le_of_ble_eq_true rfl⟩ (fun H locs hG => ?_)
    have hG : xG D A s.heap (WH κ a uh ++ (WR κ a ur ++ (WN κ a un ++ (WS κ a us ++ (WO κ a (xKO uo p1.toNatClampNeg b) ++ (WH κ b u1 ++ WN κ b n0)))))) H locs := xG_perm (xp3 _ _ _ _ _ _ _).symm hG
    refine lv_aload_n hx hb dX4_keep_68 rfl (lv_at hl 0 rfl) ?_
    refine x_get (C := RX4) (T := TX4) (N := 8) (ci := 4) hx hb hts iX4 hown hK hG 25 rfl rfl 3 (by decide) k29 (v := .ref (a 28)) rfl dX4_keep_69 ?_
    refine lv_iload_n hx hb dX4_keep_72 rfl (lv_at hl 1 rfl) ?_
    refine x_aldN hx hb hK hG 28 rfl hn hin dX4_keep_73 ?_
    refine lv_aload_n hx hb dX4_keep_74 rfl (lv_at hl 0 rfl) ?_
    refine x_get (C := RX4) (T := TX4) (N := 8) (ci := 4) hx hb hts iX4 hown hK hG 25 rfl rfl 2 (by decide) k25 (v := .ref (a 19)) rfl dX4_keep_75 ?_
    have hG := xG_perm (xp4 _ _ _ _ _ _ _) hG
    refine x_callVv (pre := []) (wc := WN κ b n0 ++ WN κ a un) (wc1 := WN κ b n1 ++ WN κ a un) (post := WH κ a uh ++ (WR κ a ur ++ (WS κ a us ++ (WO κ a (xKO uo p1.toNatClampNeg b) ++ WH κ b u1)))) (As := [.ref (a 19)]) (rest := []) (w1 := (WN κ b n1 ++ WN κ a un) ++ (WH κ a uh ++ (WR κ a ur ++ (WS κ a us ++ (WO κ a (xKO uo p1.toNatClampNeg b) ++ WH κ b u1))))) ⟨hx, hb, hml, hown, hts⟩ hK hG hA rfl rfl (c_X1_copyFrom l D κ b a H.size n0 un n1 hcn) (cwV 1 hts gX4_keep_X1_copyFrom rfl rfl rfl (by decide +kernel) ⟨Nat.le_of_ble_eq_true rfl, Nat.le_of_ble_eq_true rfl⟩) 0 1 rfl rfl rfl rfl hl.1 rfl (Nat.le_of_ble_eq_true rfl) dX4_keep_78 ⟨Nat.le_of_ble_eq_true rfl, Nat.le_of_ble_eq_true rfl⟩ (fun H locs hG => ?_)
    have hG : xG D A s.heap (WH κ a uh ++ (WR κ a ur ++ (WN κ a un ++ (WS κ a us ++ (WO κ a (xKO uo p1.toNatClampNeg b) ++ (WH κ b u1 ++ WN κ b n1)))))) H locs := xG_perm (xp4 _ _ _ _ _ _ _).symm hG
    refine lv_iconst (v := 1) hx hb dX4_keep_81 (by decide) ?_
    exact W.zret (v := 1) hx hb hr (by decide) (fun t ht hW => ⟨⟨1, b, rfl, rfl, by rw [ht]; exact hG.1, va_K.moved hW.alike hK, hG.2.1⟩, hG.2.2.F ht⟩) hG.2.2.2.2 dX4_keep_82 hlk
  refine lv_iload_n hx hb dX4_keep_0 rfl (lv_at hl 1 rfl) ?_
  refine lv_if_lt (tgt := 9) hx hb dX4_keep_1 (by decide) (fun c1 => absurd c1 (fun q => hin (Or.inl q))) (fun c1 => ?_)
  refine lv_iload_n hx hb dX4_keep_4 rfl (lv_at hl 1 rfl) ?_
  refine lv_iconst (v := 2) hx hb dX4_keep_5 (by decide) ?_
  refine lv_icmp_lt (tgt := 11) hx hb dX4_keep_6 (by decide) (fun c2 => ?_) (fun c2 => absurd (Int32.lt_iff_toInt_lt.mpr (by rw [show (2 : Int32).toInt = 2 from rfl]; omega)) c2)
  refine lv_aload_n hx hb dX4_keep_11 rfl (lv_at hl 0 rfl) ?_
  refine x_get (C := RX4) (T := TX4) (N := 8) (ci := 4) hx hb hts iX4 hown hK hG 25 rfl rfl 1 (by decide) k18 (v := .ref (a 27)) rfl dX4_keep_12 ?_
  refine lv_iload_n hx hb dX4_keep_15 rfl (lv_at hl 1 rfl) ?_
  rcases hkp with ⟨hk, hn, rfl, rfl, rfl⟩ | ⟨b, hk, hn, rfl⟩
  · refine x_aldH hx hb hK hG 27 rfl hk hin dX4_keep_16 ?_
    refine lv_ifnullN (tgt := 29) hx hb dX4_keep_17 (by decide) ?_
    refine lv_aload_n hx hb dX4_keep_29 rfl (lv_at hl 0 rfl) ?_
    refine x_get (C := RX4) (T := TX4) (N := 8) (ci := 4) hx hb hts iX4 hown hK hG 25 rfl rfl 1 (by decide) k18 (v := .ref (a 27)) rfl dX4_keep_30 ?_
    refine lv_iload_n hx hb dX4_keep_33 rfl (lv_at hl 1 rfl) ?_
    refine x_new (C := RX0) (T := TX0) (N := 17) (ci := 0) (fs := [.int 0, .int 0, .int 0, .int 0, .int 0, .null, .null, .null, .null, .null, .null, .null, .null, .null, .null, .null, .null]) hx hb hts iX0 tyX0 tyX0_ok hown kc9 knX0 kiX0 hK hG hA rfl (by decide +kernel) (Nat.le_of_ble_eq_true rfl) (Nat.le_of_ble_eq_true rfl) dX4_keep_34 (fun q H hG => ?_)
    replace hG : xG D A s.heap (WH κ a uh ++ (WR κ a ur ++ (WN κ a un ++ (WS κ a us ++ (WO κ a uo ++ [(q, .inr (0, [.int 0, .int 0, .int 0, .int 0, .int 0, .null, .null, .null, .null, .null, .null, .null, .null, .null, .null, .null, .null]))]))))) H locs := by simpa only [List.append_assoc, List.nil_append, List.append_nil] using hG
    refine W.widen (k := 1) (n := 17) (Nat.le_of_ble_eq_true rfl) (Nat.le_of_ble_eq_true rfl) ?_
    refine lv_dup hx hb dX4_keep_37 rfl ?_
    refine x_callI (S := Nat → Nat) (pre := WH κ a uh ++ (WR κ a ur ++ (WN κ a un ++ (WS κ a us ++ WO κ a uo)))) (wc := [(q, .inr (0, [.int 0, .int 0, .int 0, .int 0, .int 0, .null, .null, .null, .null, .null, .null, .null, .null, .null, .null, .null, .null]))]) (post := []) (As := []) (rest := [.ref q, .int p1, .ref (a 27)]) (F := fun b => WH κ b HZ) ⟨hx, hb, hml, hown, hts⟩ hK (fun _ _ => trivial) (fun _ _ _ _ h => h) hG hA (by simp only [List.append_assoc, List.nil_append, List.append_nil]) (c_X0_init l D κ q H.size) (cwI 0 hts gX4_keep_X0_init rfl rfl rfl kiX0 km11 kimX0 rfl (by decide +kernel) ⟨Nat.le_of_ble_eq_true rfl, Nat.le_of_ble_eq_true rfl⟩) rfl hl.1 rfl (Nat.le_of_ble_eq_true rfl) dX4_keep_38 ⟨Nat.le_of_ble_eq_true rfl, Nat.le_of_ble_eq_true rfl⟩ (fun b1 H locs hb1 hG => ?_)
    replace hG : xG D A s.heap (WH κ a uh ++ (WR κ a ur ++ (WN κ a un ++ (WS κ a us ++ (WO κ a uo ++ WH κ b1 HZ))))) H locs := by simpa only [List.append_assoc, List.nil_append, List.append_nil] using hG
    rw [← hb1]
    refine W.widen (k := 13) (n := 2543) (Nat.le_of_ble_eq_true rfl) (Nat.le_of_ble_eq_true rfl) ?_
    refine x_astH hx hb hK hG 27 29 rfl rfl (w1 := WH κ a uh ++ (WR κ a ur ++ (WN κ a un ++ (WS κ a us ++ (WO κ a (uo.setKh (va_up uo.kh p1.toNatClampNeg (some (b1 0)))) ++ WH κ b1 HZ))))) rfl hin dX4_keep_41 (fun H locs hG => ?_)
    refine lv_aload_n hx hb dX4_keep_42 rfl (lv_at hl 0 rfl) ?_
    refine x_get (C := RX4) (T := TX4) (N := 8) (ci := 4) hx hb hts iX4 hown hK hG 25 rfl rfl 3 (by decide) k29 (v := .ref (a 28)) rfl dX4_keep_43 ?_
    refine lv_iload_n hx hb dX4_keep_46 rfl (lv_at hl 1 rfl) ?_
    refine x_new (C := RX1) (T := TX1) (N := 3) (ci := 1) (fs := [.null, .null, .null]) hx hb hts iX1 tyX1 tyX1_ok hown kc22 knX1 kiX1 hK hG hA rfl (by decide +kernel) (Nat.le_of_ble_eq_true rfl) (Nat.le_of_ble_eq_true rfl) dX4_keep_47 (fun q H hG => ?_)
    replace hG : xG D A s.heap (WH κ a uh ++ (WR κ a ur ++ (WN κ a un ++ (WS κ a us ++ (WO κ a (uo.setKh (va_up uo.kh p1.toNatClampNeg (some (b1 0)))) ++ (WH κ b1 HZ ++ [(q, .inr (1, [.null, .null, .null]))])))))) H locs := by simpa only [List.append_assoc, List.nil_append, List.append_nil] using hG
    refine W.widen (k := 14) (n := 2546) (Nat.le_of_ble_eq_true rfl) (Nat.le_of_ble_eq_true rfl) ?_
    refine lv_dup hx hb dX4_keep_50 rfl ?_
    refine x_callI (S := Nat → Nat) (pre := WH κ a uh ++ (WR κ a ur ++ (WN κ a un ++ (WS κ a us ++ (WO κ a (uo.setKh (va_up uo.kh p1.toNatClampNeg (some (b1 0)))) ++ WH κ b1 HZ))))) (wc := [(q, .inr (1, [.null, .null, .null]))]) (post := []) (As := []) (rest := [.ref q, .int p1, .ref (a 28)]) (F := fun b => WN κ b NZ) ⟨hx, hb, hml, hown, hts⟩ hK (fun _ _ => trivial) (fun _ _ _ _ h => h) hG hA (by simp only [List.append_assoc, List.nil_append, List.append_nil]) (c_X1_init l D κ q H.size) (cwI 0 hts gX4_keep_X1_init rfl rfl rfl kiX1 km24 kimX1 rfl (by decide +kernel) ⟨Nat.le_of_ble_eq_true rfl, Nat.le_of_ble_eq_true rfl⟩) rfl hl.1 rfl (Nat.le_of_ble_eq_true rfl) dX4_keep_51 ⟨Nat.le_of_ble_eq_true rfl, Nat.le_of_ble_eq_true rfl⟩ (fun b2 H locs hb2 hG => ?_)
    replace hG : xG D A s.heap (WH κ a uh ++ (WR κ a ur ++ (WN κ a un ++ (WS κ a us ++ (WO κ a (uo.setKh (va_up uo.kh p1.toNatClampNeg (some (b1 0)))) ++ (WH κ b1 HZ ++ WN κ b2 NZ)))))) H locs := by simpa only [List.append_assoc, List.nil_append, List.append_nil] using hG
    rw [← hb2]
    refine W.widen (k := 17) (n := 2606) (Nat.le_of_ble_eq_true rfl) (Nat.le_of_ble_eq_true rfl) ?_
    refine x_astN hx hb hK hG 28 42 rfl rfl (w1 := WH κ a uh ++ (WR κ a ur ++ (WN κ a un ++ (WS κ a us ++ (WO κ a ((uo.setKh (va_up uo.kh p1.toNatClampNeg (some (b1 0)))).setKn (va_up uo.kn p1.toNatClampNeg (some (b2 19)))) ++ (WH κ b1 HZ ++ WN κ b2 NZ)))))) rfl hin dX4_keep_54 (fun H locs hG => ?_)
    exact T55 (fun k => if k < 13 then b1 k else b2 k) H locs ls hG hl
  · refine x_aldH hx hb hK hG 27 rfl hk hin dX4_keep_16 ?_
    refine lv_ifnull (x := b 0) hx hb dX4_keep_17 ?_
    refine lv_aload_n hx hb dX4_keep_20 rfl (lv_at hl 0 rfl) ?_
    refine x_get (C := RX4) (T := TX4) (N := 8) (ci := 4) hx hb hts iX4 hown hK hG 25 rfl rfl 3 (by decide) k29 (v := .ref (a 28)) rfl dX4_keep_21 ?_
    refine lv_iload_n hx hb dX4_keep_24 rfl (lv_at hl 1 rfl) ?_
    refine x_aldN hx hb hK hG 28 rfl hn hin dX4_keep_25 ?_
    refine lv_ifnonnull (x := b 19) (tgt := 55) hx hb dX4_keep_26 (by decide) ?_
    refine W.widen (k := 17) (n := 2606) (Nat.zero_le _) (Nat.zero_le _) ?_
    have e9 : xKO uo p1.toNatClampNeg b = uo := by unfold xKO; rw [x_up_self _ _ _ hk, x_up_self _ _ _ hn]; rfl
    exact T55 b H locs ls (by rw [e9]; exact hG) hl
set_option maxRecDepth 100000 in
set_option maxHeartbeats 4000000 in
theorem c_X4_keepN (l : Launch) (D : va_G) (κ : Nat → ClassId) (a : Nat → Nat) (sz : Nat) (p1 : Int32) (uh : HS) (ur : RS) (un : NS) (us : SS) (uo : OS) (hk : ¬ vp_in p1 2) : Met l yX4_keep wsX4_keep ({ frames := 0, cells := 0, slots := 0, locals := 0 } : Room) (xPc D κ [.ref (a 25), .int p1] (WH κ a uh ++ (WR κ a ur ++ (WN κ a un ++ (WS κ a us ++ WO κ a uo)))) sz) (xQi D κ 0 (WH κ a uh ++ (WR κ a ur ++ (WN κ a un ++ (WS κ a us ++ WO κ a uo)))) (va_A (WH κ a uh ++ (WR κ a ur ++ (WN κ a un ++ (WS κ a us ++ WO κ a uo)))) sz)) 0 0 (va_A (WH κ a uh ++ (WR κ a ur ++ (WN κ a un ++ (WS κ a us ++ WO κ a uo)))) sz) := by
  refine x_ofW (cc := cX4_keep) (maxL := 2) (ret := (some .boolean)) (Qf := fun A => xQi D κ 0 (WH κ a uh ++ (WR κ a ur ++ (WN κ a un ++ (WS κ a us ++ WO κ a uo)))) A) (by decide) rfl (Nat.le_of_ble_eq_true rfl) ?_
  intro p e s m below meth c hx hb hr hlk hml hown hts hK A hA H locs hG ls hl
  have hl : lv_has ls 2 [(0, .ref (a 25)), (1, .int p1)] := hl
  refine lv_iload_n hx hb dX4_keep_0 rfl (lv_at hl 1 rfl) ?_
  refine lv_if_lt (tgt := 9) hx hb dX4_keep_1 (by decide) (fun c1 => ?_) (fun c1 => ?_)
  · refine lv_iconst (v := 0) hx hb dX4_keep_9 (by decide) ?_
    exact x_zret hx hb hr hlk hK hG (by decide) rfl rfl dX4_keep_10
  · refine lv_iload_n hx hb dX4_keep_4 rfl (lv_at hl 1 rfl) ?_
    refine lv_iconst (v := 2) hx hb dX4_keep_5 (by decide) ?_
    refine lv_icmp_lt (tgt := 11) hx hb dX4_keep_6 (by decide) (fun c2 => ?_) (fun c2 => ?_)
    · refine absurd (vp_in_iff.mpr ⟨?_, ?_⟩) hk
      · have h1 : ¬ p1.toInt < 0 := fun q => c1 (Int32.lt_iff_toInt_lt.mpr q)
        omega
      · have h2 := Int32.lt_iff_toInt_lt.mp c2
        rw [show (2 : Int32).toInt = 2 from rfl] at h2
        exact h2
    · refine lv_iconst (v := 0) hx hb dX4_keep_9 (by decide) ?_
      exact x_zret hx hb hr hlk hK hG (by decide) rfl rfl dX4_keep_10
