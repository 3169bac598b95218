/-! dearer, cheaper -/
def sub (X Y : Int32) : Prop := ∀ i, i < 32 → bt X i = true → bt Y i = true
section
variable {un : NS} {bn bn' : Int32} {r : Nat} {S : Int32}
theorem stp_inc {X : Int32} {a : Nat} : sub X (stp un bn X a) := by
  intro i hi h
  unfold stp
  by_cases q : lv un bn a = true ∧ bt X (pf un a) = true
  · rw [if_pos q, b_or, h]; rfl
  · rw [if_neg q]; exact h
theorem stp_mono (hN : NG un) {X Y : Int32} {a : Nat} (ha : a < 20) (h : sub X Y) (hl : lv un bn a = true → lv un bn' a = true) : sub (stp un bn X a) (stp un bn' Y a) := by
  intro i hi e
  by_cases q : lv un bn a = true ∧ bt X (pf un a) = true
  · obtain ⟨p1, p2, -⟩ := hN.at ha (lv_i.mp q.1).1
    have q' : lv un bn' a = true ∧ bt Y (pf un a) = true := ⟨hl q.1, h _ (by omega) q.2⟩
    unfold stp at e ⊢
    rw [if_pos q, b_or, Bool.or_eq_true] at e
    rw [if_pos q', b_or, Bool.or_eq_true]
    exact e.imp (h i hi) id
  · have e' : bt X i = true := by
      unfold stp at e
      rw [if_neg q] at e; exact e
    exact stp_inc i hi (h i hi e')
theorem fr_mono (hN : NG un) (hl : ∀ a, a < 20 → lv un bn a = true → lv un bn' a = true) : ∀ (m a : Nat) (X Y : Int32), a + m ≤ 20 → sub X Y → sub (fr un bn m a X) (fr un bn' m a Y)
  | 0, _, _, _, _, h => h
  | m + 1, a, X, Y, ha, h => fr_mono hN hl m (a + 1) _ _ (by omega) (stp_mono hN (by omega) h (hl a (by omega)))
theorem rr_mono (hN : NG un) (hl : ∀ a, a < 20 → lv un bn a = true → lv un bn' a = true) : ∀ (m : Nat) (X Y : Int32), sub X Y → sub (rr un bn m X) (rr un bn' m Y)
  | 0, _, _, h => h
  | m + 1, X, Y, h => rr_mono hN hl m _ _ (fr_mono hN hl 20 0 X Y (by omega) h)
theorem fr_inc : ∀ (m a : Nat) (X : Int32), sub X (fr un bn m a X)
  | 0, _, _ => fun _ _ h => h
  | m + 1, a, X => fun i hi h => fr_inc m (a + 1) _ i hi (stp_inc i hi h)
theorem fr_hit (hN : NG un) : ∀ (m a : Nat) (X : Int32) (c : Nat), a + m ≤ 20 → a ≤ c → c < a + m → lv un bn c = true → bt X (pf un c) = true → bt (fr un bn m a X) (pt un c) = true
  | 0, a, X, c, h1, h2, h3, _, _ => by omega
  | m + 1, a, X, c, h1, h2, h3, h4, h5 => by
    obtain ⟨p1, p2, -⟩ := hN.at (show c < 20 by omega) (lv_i.mp h4).1
    show bt (fr un bn m (a + 1) (stp un bn X a)) (pt un c) = true
    by_cases e : c = a
    · subst e
      refine fr_inc m _ _ _ (by omega) ?_
      unfold stp
      rw [if_pos ⟨h4, h5⟩, bt_set _ (by omega) (by omega), decide_eq_true rfl, Bool.or_true]
    · exact fr_hit hN m (a + 1) _ c (by omega) (by omega) (by omega) h4 (stp_inc _ (by omega) h5)
theorem rr_s : ∀ (n : Nat) (X : Int32), rr un bn (n + 1) X = fr un bn 20 0 (rr un bn n X)
  | 0, _ => rfl
  | n + 1, X => rr_s n (fr un bn 20 0 X)
theorem rr_in (hN : NG un) {b : Nat → Int32} (h : Full un bn r S b) (hl : ∀ p c, p < 8 → c < 20 → b p = nI c → lv un bn' c = true) (X : Int32) (hX : bt X r = true) (hr : r < 8) : ∀ (n o : Nat), o < 8 → bt S o = true → gets un b r n o = true → bt (rr un bn' n X) o = true := by
  have inc : ∀ n, bt (rr un bn' n X) r = true := by
    intro n
    induction n with
    | zero => exact hX
    | succ n ih => rw [rr_s]; exact fr_inc 20 0 _ r (by omega) ih
  intro n
  induction n with
  | zero =>
    intro o ho hS e
    rw [of_decide_eq_true e]; exact hX
  | succ n ih =>
    intro o ho hS e
    have e' : (if o = r then true else gets un b r n (pr un b o)) = true := e
    by_cases z : o = r
    · rw [z]; exact inc (n + 1)
    · rw [if_neg z] at e'
      have nz := h.on ho z hS
      obtain ⟨p1, p2, -⟩ := h.pa hN ho nz
      obtain ⟨a, a1, a2, a3⟩ := (h.arc ho nz).2
      have pe : pr un b o = pf un a := by unfold pr; rw [a2, nI_clamp (by omega)]
      have i1 := ih _ p1 p2 e'
      rw [pe] at i1
      have te : pt un a = o := by unfold pt; rw [(okb_i.mp a3).2.1, nI_clamp (by omega)]
      rw [rr_s, ← te]
      exact fr_hit hN 20 0 _ a (by omega) (by omega) (by omega) (hl o a ho a1 a2) i1
def lo (X : Int32) : Prop := ∀ i, 8 ≤ i → i < 32 → bt X i = false
theorem stp_lo (hN : NG un) {X : Int32} {a : Nat} (ha : a < 20) (h : lo X) : lo (stp un bn X a) := by
  intro i h8 hi
  unfold stp
  by_cases q : lv un bn a = true ∧ bt X (pf un a) = true
  · obtain ⟨p1, p2, -⟩ := hN.at ha (lv_i.mp q.1).1
    rw [if_pos q, bt_set _ (by omega) hi, h i h8 hi, decide_eq_false (by omega)]; rfl
  · rw [if_neg q]; exact h i h8 hi
theorem fr_lo (hN : NG un) : ∀ (m a : Nat) (X : Int32), a + m ≤ 20 → lo X → lo (fr un bn m a X)
  | 0, _, _, _, h => h
  | m + 1, a, X, ha, h => fr_lo hN m (a + 1) _ (by omega) (stp_lo hN (by omega) h)
theorem rr_lo (hN : NG un) : ∀ (m : Nat) (X : Int32), lo X → lo (rr un bn m X)
  | 0, _, h => h
  | m + 1, X, h => rr_lo hN m _ (fr_lo hN 20 0 X (by omega) h)
theorem rch_lo (hN : NG un) (hr : r < 8) : lo (rch un bn r) := rr_lo hN 8 _ (fun i h8 hi => by rw [bt_one (by omega) hi, decide_eq_false (by omega)])
theorem lv_ban {a c : Nat} (hc : c < 20) : lv un (nI a) c = true → lv un (-1) c = true := fun h => lv_i.mpr ⟨(lv_i.mp h).1, nI_nm1 (by omega)⟩
theorem lv_not {a c : Nat} (ha : a < 20) (hc : c < 20) (h : lv un (-1) c = true) (ne : c ≠ a) : lv un (nI a) c = true := lv_i.mpr ⟨(lv_i.mp h).1, fun e => ne (nI_inj (by omega) (by omega) e)⟩
theorem not_bit {b : Nat → Int32} (h : Full un bn r S b) {a p c : Nat} (ha : a < 20) (hn : ¬ bt (nI (Bk b 8)) a = true) (hp : p < 8) (hb : b p = nI c) : c ≠ a := fun e => hn ((Bk_bt 8 (Nat.le_refl _) h.fk a (by omega)).mpr ⟨p, hp, by rw [hb, e]⟩)
/-- a tree without an arc: as much is reached without it -/
theorem rch_same (hN : NG un) (hr : r < 8) {a : Nat} (ha : a < 20) {b : Nat → Int32} (h : TR un (-1) r (rch un (-1) r) b) (hn : ¬ bt (nI (Bk b 8)) a = true) : rch un (nI a) r = rch un (-1) r := by
  refine b_ext (fun i hi => ?_)
  have s1 : sub (rch un (nI a) r) (rch un (-1) r) := rr_mono hN (fun c hc => lv_ban hc) 8 _ _ (fun _ _ z => z)
  by_cases q : bt (rch un (-1) r) i = true
  · rw [q]
    by_cases i8 : i < 8
    · have X1 : bt ((1 : Int32) <<< (nI r &&& 31)) r = true := by rw [bt_one (by omega) (by omega), decide_eq_true rfl]
      have g : gets un b r 8 i = true := by
        by_cases e : i = r
        · show (if i = r then true else _) = true
          rw [if_pos e]
        · exact (h.2.tr hN h.1) i i8 (h.1.on i8 e q)
      refine rr_in hN h.1 (fun p c hp hc hb => ?_) _ X1 hr 8 i i8 q g
      obtain ⟨c', c1, c2, c3⟩ := (h.1.fk.at hp).resolve_left (by rw [hb]; exact nI_nm1 (by omega))
      have ce : c' = c := nI_inj (by omega) (by omega) (c2.symm.trans hb)
      rw [ce] at c3
      exact lv_not ha hc (okb_i.mp c3).1 (not_bit h.1 ha hn hp hb)
    · rw [rch_lo hN hr i (by omega) hi] at q; cases q
  · rw [Bool.eq_false_iff.mpr q]
    exact Bool.eq_false_iff.mpr (fun z => q (s1 i hi z))
theorem TR_ban {a : Nat} (ha : a < 20) {b : Nat → Int32} : TR un (nI a) r S b ↔ (TR un (-1) r S b ∧ ¬ bt (nI (Bk b 8)) a = true) := by
  constructor
  · rintro ⟨h1, h2⟩
    refine ⟨⟨fun p hp => ⟨fun q => ?_, (h1 p hp).2⟩, h2⟩, fun w => ?_⟩
    · obtain ⟨c, c1, c2, c3⟩ := (h1 p hp).1 q
      obtain ⟨o1, o2, o3⟩ := okb_i.mp c3
      exact ⟨c, c1, c2, okb_i.mpr ⟨lv_ban c1 o1, o2, o3⟩⟩
    · obtain ⟨p, p1, p2⟩ := (Bk_bt 8 (Nat.le_refl _) h1.fk a (by omega)).mp w
      obtain ⟨c, c1, c2, c3⟩ := (h1.fk.at p1).resolve_left (by rw [p2]; exact nI_nm1 (by omega))
      have ce : c = a := nI_inj (by omega) (by omega) (c2.symm.trans p2)
      rw [ce] at c3
      exact (lv_i.mp (okb_i.mp c3).1).2 rfl
  · rintro ⟨⟨h1, h2⟩, h3⟩
    refine ⟨fun p hp => ⟨fun q => ?_, (h1 p hp).2⟩, h2⟩
    obtain ⟨c, c1, c2, c3⟩ := (h1 p hp).1 q
    obtain ⟨o1, o2, o3⟩ := okb_i.mp c3
    exact ⟨c, c1, c2, okb_i.mpr ⟨lv_not ha c1 o1 (not_bit h1 ha h3 hp c2), o2, o3⟩⟩
/-- with an arc forced: if it is in a tree at all -/
theorem GT_force {a : Nat} (ha : a < 20) {b b1 : Nat → Int32} (h1 : TR un (-1) r S b1) (hb1 : bt (nI (Bk b1 8)) a = true) : GT un (-1) (nI a) r S b ↔ (TR un (-1) r S b ∧ bt (nI (Bk b 8)) a = true) := by
  obtain ⟨p, p1, p2⟩ := (Bk_bt 8 (Nat.le_refl _) h1.1.fk a (by omega)).mp hb1
  obtain ⟨q, c, c1, c2, c3⟩ := h1.1.arc p1 (by rw [p2]; exact nI_nm1 (by omega))
  have ce : c = a := nI_inj (by omega) (by omega) (c2.symm.trans p2)
  rw [ce] at c3
  have te := (okb_i.mp c3).2.1
  constructor
  · rintro ⟨h, hf⟩
    obtain ⟨d, d1, d2, d3⟩ := (h.1 p p1).1 q
    have fk := hf p d p1 d1 d2
    unfold fok at fk
    rw [nI_clamp (by omega), decide_eq_true te, decide_eq_false (nI_nm1 (by omega))] at fk
    have de : nI d = nI a := by
      have z : (false || (!true || decide (nI d = nI a))) = true := fk
      simpa using z
    exact ⟨h, (Bk_bt 8 (Nat.le_refl _) h.1.fk a (by omega)).mpr ⟨p, p1, by rw [d2, de]⟩⟩
  · rintro ⟨h, hb⟩
    refine ⟨h, fun p' c' hp' hc' e => ?_⟩
    unfold fok
    rw [nI_clamp (by omega)]
    by_cases t : un.to a = nI p'
    · have pe : p = p' := nI_inj (by omega) (by omega) (te.symm.trans t)
      have z := (arc_to h.1 hp' ha).mp ⟨hb, t⟩
      rw [decide_eq_true (e.symm.trans z), Bool.or_true, Bool.or_true]
    · rw [decide_eq_false t]; simp
theorem T2.ex (hN : NG un) {Y : (Nat → Int32) → Prop} (hY : ∀ b, Y b → Full un bn r S b) {f n : Nat} (h : T2 un Y f n) {b1 : Nat → Int32} (h1 : Y b1) : ∃ bf, Y bf ∧ f = Wk un bf 8 ∧ ∀ b, Y b → Wk un bf 8 ≤ Wk un b 8 := by
  obtain ⟨q1, q2, q3, q4, q5, q6⟩ := h
  have l := W_61 hN (hY b1 h1)
  have e61 : (2 : Nat) ^ 61 = 2305843009213693952 := rfl
  have hno : NO = 9223372036854775807 := rfl
  have z := q4 b1 h1
  have nf : f ≠ NO := fun e => by
    rcases q3 with y | ⟨y1, y2⟩
    · omega
    · rcases z with z | z <;> omega
  obtain ⟨bf, f1, f2⟩ := q1.resolve_left nf
  refine ⟨bf, f1, f2.symm, fun b hb => ?_⟩
  rcases q3 with y | ⟨y1, y2⟩
  · rcases q4 b hb with z | z <;> omega
  · exact absurd y1 nf
theorem behind_ok {uv : MS} (hN : NR un uv.row) (hr : r < 8) {a : Nat} (ha : a < 20) {wi : Int32} (hwi : wi = 0 ∨ wi = 1) {b0 : Nat → Int32} (h0 : TR un (-1) r (rch un (-1) r) b0) (hop : ¬ Cb a wi b0) (hm : ∀ b, TR un (-1) r (rch un (-1) r) b → Wk un b0 8 ≤ Wk un b 8) (e1 : uv.bestCost = nI (Ck un b0 8)) (e2 : uv.bestArcs = nI (Bk b0 8)) :
    ∃ (v : Int32) (uv' : MS), f_X5_behind (nI r) (nI a) wi uv = some (v, uv') ∧ meq uv uv' ∧ ((v = -1 ∧ ∀ b, TR un (-1) r (rch un (-1) r) b → ¬ Cb a wi b) ∨ (∃ b1, TR un (-1) r (rch un (-1) r) b1 ∧ Cb a wi b1 ∧ v = nI (vl wi (Wk un b0 8) (Wk un b1 8)) ∧ ∀ b, TR un (-1) r (rch un (-1) r) b → Cb a wi b → vl wi (Wk un b0 8) (Wk un b1 8) ≤ vl wi (Wk un b0 8) (Wk un b 8))) := by
  unfold f_X5_behind
  rw [bnd_s, bnd_s, e1, e2]
  obtain ⟨c, c1, c2, c3⟩ := firstChoice_ok (un := un) (bn := -1) (uv := uv) hN hr
  rw [c1, cl1_s]
  obtain ⟨t, ht⟩ : ∃ t, t = uv.setReached (rch un (-1) r) := ⟨_, rfl⟩
  obtain ⟨t1, t2, t3, -⟩ := MS.rc_e _ _ _ ht
  rw [← ht]
  obtain ⟨v, hv⟩ : ∃ v, v = t.setByArc c := ⟨_, rfl⟩
  obtain ⟨v1, v2, v3, -⟩ := MS.byA_e _ _ _ hv
  rw [← hv]
  have pl := Pd_le (un := un) (bn := -1) (r := r) (S := rch un (-1) r)
  obtain ⟨z, uv', g0, g1, g2⟩ := behind_loop hr ha hwi h0.1 hop (fun b hb ht => hm b ⟨hb, ht.good hN.ng hr hb⟩) (Pd un (-1) r (rch un (-1) r) 8) FU v (-1) (by rw [v1.1, t1.1]; exact hN) (v3.trans t3) (by rw [v2]; exact c2) (by rw [v2, c3]; omega) (by rw [FU_e]; omega) (Or.inl ⟨rfl, fun b hb => by have := hb.2.2.2; rw [v2, c3] at this; omega⟩)
  have sn : ∀ b, TR un (-1) r (rch un (-1) r) b → Cb a wi b → Sn un (-1) r (rch un (-1) r) (Cb a wi) (Pd un (-1) r (rch un (-1) r) 8) b := fun b hb hn => ⟨hb.1, hb.2.tr hN.ng hb.1, hn, Rk_lt hb.1 8 (Nat.le_refl _)⟩
  refine ⟨z, uv', g0, (t1.tr v1).tr g1, ?_⟩
  rcases g2 with ⟨z1, z2⟩ | ⟨b1, z2, z3, z5⟩
  · exact Or.inl ⟨z1, fun b hb hc => z2 b (sn b hb hc)⟩
  · exact Or.inr ⟨b1, ⟨z2.1, z2.2.1.good hN.ng hr z2.1⟩, z2.2.2.1, z3, fun b hb hc => z5 b (sn b hb hc)⟩
end
theorem below_e {W W2 : Nat} (h : W < W2) (l : W2 < 2 ^ 61) : f_X3_mostStillBelow (lN W) (lN W2) = some (nI (vl 0 W W2)) := by
  have e61 : (2 : Nat) ^ 61 = 2305843009213693952 := rfl
  have e62 : (2 : Nat) ^ 62 = 4611686018427387904 := rfl
  have e20 : (2 : Nat) ^ 20 = 1048576 := rfl
  have o1 : (1 : Int64) = lN 1 := by decide +kernel
  unfold f_X3_mostStillBelow
  rw [lN_sub (by omega), o1, lN_sub (by omega), show (20 : Int32) = nI 20 from rfl, lN_shr (by omega) (by omega), lN_i, e20]
  unfold vl
  rw [if_pos rfl]
theorem pass_e {W W2 : Nat} (h : W ≤ W2) (l : W2 < 2 ^ 61) : f_X3_leastToPass (lN W2) (lN W) = some (nI (vl 1 W W2)) := by
  have e61 : (2 : Nat) ^ 61 = 2305843009213693952 := rfl
  have e62 : (2 : Nat) ^ 62 = 4611686018427387904 := rfl
  have e20 : (2 : Nat) ^ 20 = 1048576 := rfl
  unfold f_X3_leastToPass
  rw [lN_sub (by omega), show (20 : Int32) = nI 20 from rfl, lN_shr (by omega) (by omega), lN_i, e20, nI_1]
  unfold vl
  rw [if_neg (by decide)]
theorem vl_32 {un : NS} (hN : NG un) {bn : Int32} {r : Nat} {S : Int32} {b b0 : Nat → Int32} (h : Full un bn r S b) (wi : Int32) : vl wi (Wk un b0 8) (Wk un b 8) < 2 ^ 30 := by
  have l := h.i32 hN
  unfold vl
  have e : Wk un b 8 = Ck un b 8 * 1048576 + Bk b 8 := rfl
  by_cases q : wi = 0
  · rw [if_pos q]; omega
  · rw [if_neg q]; omega
theorem rs_dearer : RS_dearer Rel := by
  intro n p1 p2 uh ur un us uo u0 n0 u1 n1 uv hn h
  have h' := (h.cg (meq.thr uv 0)).mono (Nat.le_succ n)
  obtain ⟨w, hw⟩ : ∃ v, v = uv.setThrown 0 := ⟨_, rfl⟩
  rw [← hw] at h'
  have hN : NR un w.row := h'.2.2.1
  unfold f_X4_dearer f_X5_dearer
  simp only [bnd_s, ← hw]
  rcases isPlace_c p1 with ⟨r, hr, rfl, e4, e5⟩ | ⟨e4, e5⟩
  · rw [e4, e5]
    simp only [cl1_s, i10, if_false]
    rcases isArc_c hN p2 with ⟨a, ha, rfl, hfa, e4, e5⟩ | ⟨-, e4, e5⟩
    · rw [e4, e5]
      simp only [cl1_s, i10, if_false]
      obtain ⟨us', uv', b0, m, x0, x1, x2, x3, x4, x5, x6, x7, x8, x9, x10, -⟩ := both hN hr (-1) us
      have hN' : NR un uv'.row := by rw [x2.1]; exact hN
      rw [x0, x1, cl1_s, cl1_s, firstHas_e hN.ng x3.1 x6 ha, cl1_s, x9, bt_test _ (by omega)]
      by_cases bb : bt (nI (Bk b0 8)) a = true
      · rw [if_pos bb, if_neg i10, if_neg i10, x4, x6]
        obtain ⟨us2, uv2, b2, m2, y0, -, -, y3, y4, y5, y6, y7, y8, y9, y10, -⟩ := both hN' hr (nI a) us'
        have hop : ¬ Cb a 0 b0 := by unfold Cb; rw [bb]; decide
        obtain ⟨v, uv3, z0, z1, z2⟩ := behind_ok hN' hr ha (Or.inl rfl) x3 hop x10 x8 x9
        rw [y0, cl1_s, y4, z0, cl2_s]
        by_cases q : rch un (nI a) r = rch un (-1) r
        · rw [if_pos q, y6]
          rw [q] at y3 y10
          obtain ⟨y3a, y3b⟩ := (TR_ban ha).mp y3
          have c2 : Cb a 0 b2 := by unfold Cb; rw [Bool.eq_false_iff.mpr y3b]; decide
          have lt : Wk un b0 8 < Wk un b2 8 := by
            have l1 := x10 b2 y3a
            have l2 : Wk un b0 8 ≠ Wk un b2 8 := fun e => y3b (by rw [← ((W_lex (un := un) x3.1 y3a.1).2.mp e).2]; exact bb)
            omega
          rw [below_e lt (W_61 hN.ng y3a.1), cl1_s]
          rcases z2 with ⟨-, k2⟩ | ⟨b1, k1, k2, k3, k4⟩
          · exact absurd c2 (k2 b2 y3a)
          · have nb1 : ¬ bt (nI (Bk b1 8)) a = true := fun e => by
              unfold Cb at k2; rw [e] at k2; exact absurd k2 (by decide)
            have m1 := y10 b1 ((TR_ban ha).mpr ⟨k1, nb1⟩)
            have m2' := vl_mono (wi := 0) (W0 := Wk un b0 8) m1
            have m3 := k4 b2 y3a c2
            have ve : vl 0 (Wk un b0 8) (Wk un b1 8) = vl 0 (Wk un b0 8) (Wk un b2 8) := by omega
            have v30 := vl_32 (b0 := b0) hN.ng y3a.1 0
            rw [k3, ve, if_neg (nI_nm1 (by omega))]
            exact ⟨_, _, _, rfl, rfl, h'.cg (x2.tr z1)⟩
        · rw [if_neg q]
          rcases z2 with ⟨k1, k2⟩ | ⟨b1, k1, k2, k3, k4⟩
          · rw [k1, if_pos rfl]
            exact ⟨_, _, _, rfl, rfl, h'.cg (x2.tr z1)⟩
          · have nb1 : ¬ bt (nI (Bk b1 8)) a = true := fun e => by
              unfold Cb at k2; rw [e] at k2; exact absurd k2 (by decide)
            exact absurd (rch_same hN.ng hr ha k1 nb1) q
      · rw [if_neg bb, if_pos rfl, if_pos rfl]
        exact ⟨_, _, _, rfl, rfl, h'.cg x2⟩
    · rw [e4, e5]
      simp only [cl1_s, if_true]
      exact ⟨_, _, _, rfl, rfl, h'⟩
  · rw [e4, e5]
    simp only [cl1_s, if_true]
    exact ⟨_, _, _, rfl, rfl, h'⟩
theorem rs_cheaper : RS_cheaper Rel := by
  intro n p1 p2 uh ur un us uo u0 n0 u1 n1 uv hn h
  have h' := (h.cg (meq.thr uv 0)).mono (Nat.le_succ n)
  obtain ⟨w, hw⟩ : ∃ v, v = uv.setThrown 0 := ⟨_, rfl⟩
  rw [← hw] at h'
  have hN : NR un w.row := h'.2.2.1
  unfold f_X4_cheaper f_X5_cheaper
  simp only [bnd_s, ← hw]
  rcases isPlace_c p1 with ⟨r, hr, rfl, e4, e5⟩ | ⟨e4, e5⟩
  · rw [e4, e5]
    simp only [cl1_s, i10, if_false]
    rcases isArc_c hN p2 with ⟨a, ha, rfl, hfa, e4, e5⟩ | ⟨-, e4, e5⟩
    · rw [e4, e5]
      simp only [cl1_s, i10, if_false]
      obtain ⟨us', uv', b0, m, x0, x1, x2, x3, x4, x5, x6, x7, x8, x9, x10, -⟩ := both hN hr (-1) us
      have hN' : NR un uv'.row := by rw [x2.1]; exact hN
      rw [x0, x1, cl1_s, cl1_s, firstHas_e hN.ng x3.1 x6 ha, cl1_s, x9, bt_test _ (by omega)]
      by_cases bb : bt (nI (Bk b0 8)) a = true
      · rw [if_pos bb, if_neg i10, if_pos rfl]
        exact ⟨_, _, _, rfl, rfl, h'.cg x2⟩
      · rw [if_neg bb, if_pos rfl, if_neg (by decide), x6]
        obtain ⟨us2, f, m2, y0, y1, y2, y3, y4⟩ := seek_ok hN.ng (bn := -1) (fo := nI a) (Or.inr ⟨a, ha, rfl⟩) hr us'
        have hop : ¬ Cb a 1 b0 := by unfold Cb; rw [Bool.eq_false_iff.mpr bb]; decide
        obtain ⟨v, uv3, z0, z1, z2⟩ := behind_ok hN' hr ha (Or.inr rfl) x3 hop x10 x8 x9
        rw [y0, cl1_s, z0, cl2_s]
        rcases z2 with ⟨k1, k2⟩ | ⟨b1, k1, k2, k3, k4⟩
        · have fh : f_X3_firstHas (nI a) us2 = some 0 := by
            rcases y4.1 with q | ⟨bf, q1, q2⟩
            · unfold f_X3_firstHas
              rw [y2, q, NO_l, if_pos rfl]
            · rw [firstHas_e hN.ng q1.1.1 (by rw [y2, q2]) ha, if_neg (fun e => k2 bf q1.1 (by unfold Cb; rw [e]; decide))]
          rw [fh, cl1_s, if_pos rfl, k1, if_pos rfl]
          exact ⟨_, _, _, rfl, rfl, h'.cg (x2.tr z1)⟩
        · have b1b : bt (nI (Bk b1 8)) a = true := by unfold Cb at k2; rw [k2]; decide
          obtain ⟨bf, f1, f2, f3⟩ := y4.ex hN.ng (fun b hb => hb.1.1) ((GT_force ha k1 b1b).mpr ⟨k1, b1b⟩)
          obtain ⟨g1, g2⟩ := (GT_force ha k1 b1b).mp f1
          have cf : Cb a 1 bf := by unfold Cb; rw [g2]; decide
          rw [f2] at y2
          rw [firstHas_e hN.ng g1.1 y2 ha, cl1_s, if_pos g2, if_neg i10, y2, pass_e (x10 bf g1) (W_61 hN.ng g1.1), cl1_s]
          have m1 := f3 b1 ((GT_force ha k1 b1b).mpr ⟨k1, b1b⟩)
          have m2' := vl_mono (wi := 1) (W0 := Wk un b0 8) m1
          have m3 := k4 bf g1 cf
          have ve : vl 1 (Wk un b0 8) (Wk un b1 8) = vl 1 (Wk un b0 8) (Wk un bf 8) := by omega
          have v30 := vl_32 (b0 := b0) hN.ng g1.1 1
          rw [k3, ve, if_neg (nI_nm1 (by omega))]
          exact ⟨_, _, _, rfl, rfl, h'.cg (x2.tr z1)⟩
    · rw [e4, e5]
      simp only [cl1_s, if_true]
      exact ⟨_, _, _, rfl, rfl, h'⟩
  · rw [e4, e5]
    simp only [cl1_s, if_true]
    exact ⟨_, _, _, rfl, rfl, h'⟩
