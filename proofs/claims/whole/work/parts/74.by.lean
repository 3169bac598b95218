/-! by; behind -/
section
variable {un : NS} {bn : Int32} {r : Nat} {S : Int32}
theorem arc_to {b : Nat → Int32} (h : Full un bn r S b) {q a : Nat} (hq : q < 8) (ha : a < 20) : (bt (nI (Bk b 8)) a = true ∧ un.to a = nI q) ↔ b q = nI a := by
  rw [Bk_bt 8 (Nat.le_refl _) h.fk a (by omega)]
  constructor
  · rintro ⟨⟨p, p1, p2⟩, e⟩
    obtain ⟨c, c1, c2, c3⟩ := (h.fk.at p1).resolve_left (by rw [p2]; exact nI_nm1 (by omega))
    have ca' : c = a := nI_inj (by omega) (by omega) (c2.symm.trans p2)
    rw [ca'] at c3
    have : p = q := nI_inj (by omega) (by omega) ((okb_i.mp c3).2.1.symm.trans e)
    rw [← this]; exact p2
  · intro e
    obtain ⟨c, c1, c2, c3⟩ := (h.fk.at hq).resolve_left (by rw [e]; exact nI_nm1 (by omega))
    have ca' : c = a := nI_inj (by omega) (by omega) (c2.symm.trans e)
    rw [ca'] at c3
    exact ⟨⟨q, hq, e⟩, (okb_i.mp c3).2.1⟩
theorem arcInto_l (hN : NG un) {b : Nat → Int32} (h : Full un bn r S b) {us : SS} (hu : us.first = lN (Wk un b 8)) {q : Nat} (hq : q < 8) : ∀ (m a F : Nat), a + m = 20 → m < F → (∀ c, c < a → b q ≠ nI c) → f_X3_arcInto_2 un us F (nI q) (nI a) = some (b q) := by
  intro m
  induction m with
  | zero =>
    intro a F ha hF hc
    obtain ⟨F, rfl⟩ : ∃ k, F = k + 1 := ⟨F - 1, by omega⟩
    obtain rfl : a = 20 := by omega
    show f_X3_arcInto_B2 un us (f_X3_arcInto_2 un us F) (nI q) (nI 20) = _
    unfold f_X3_arcInto_B2
    rw [if_pos (by decide)]
    rcases h.fk.at hq with e | ⟨c, c1, c2, -⟩
    · rw [e]
    · exact absurd c2 (hc c c1)
  | succ m ih =>
    intro a F ha hF hc
    obtain ⟨F, rfl⟩ : ∃ k, F = k + 1 := ⟨F - 1, by omega⟩
    have a20 : a < 20 := by omega
    have key := arc_to h hq a20
    show f_X3_arcInto_B2 un us (f_X3_arcInto_2 un us F) (nI q) (nI a) = _
    have nx : b q ≠ nI a → f_X3_arcInto_31 un us (f_X3_arcInto_2 un us F) (nI q) (nI a) = some (b q) := fun ne => by
      unfold f_X3_arcInto_31
      rw [bnd_s, nI_1]
      exact ih (a + 1) F (by omega) (by omega) (fun c h1 => by
        by_cases e : c = a
        · rw [e]; exact ne
        · exact hc c (by omega))
    unfold f_X3_arcInto_B2
    rw [if_neg (ge20 a20), firstHas_e hN h hu a20, cl1_s]
    by_cases b1 : bt (nI (Bk b 8)) a = true
    · rw [if_pos b1, if_neg i10]
      simp (disch := omega) only [ckI, nI_clamp]
      by_cases t1 : un.to a = nI q
      · rw [if_pos t1, key.mp ⟨b1, t1⟩]
      · rw [if_neg t1]; exact nx (fun e => t1 (key.mpr e).2)
    · rw [if_neg b1, if_pos rfl]; exact nx (fun e => b1 (key.mpr e).1)
theorem by_l {uv : MS} (hN : NR un uv.row) {b : Nat → Int32} (h : Full un bn r S b) (hu : uv.bestArcs = nI (Bk b 8)) {q : Nat} (hq : q < 8) : ∀ (m a F : Nat) (x : Int32), a + m = 20 → m < F → ((x = -1 ∧ ∀ c, c < a → b q ≠ nI c) ∨ (x = b q ∧ ∃ c, c < a ∧ b q = nI c)) → f_X5_by_33 F (nI q) x (nI a) uv = some (b q, uv) := by
  intro m
  induction m with
  | zero =>
    intro a F x ha hF hc
    obtain ⟨F, rfl⟩ : ∃ k, F = k + 1 := ⟨F - 1, by omega⟩
    obtain rfl : a = 20 := by omega
    show f_X5_by_B33 (f_X5_by_33 F) (nI q) x (nI 20) uv = _
    unfold f_X5_by_B33
    rw [if_pos (by decide)]
    rcases hc with ⟨x1, x2⟩ | ⟨x1, -⟩
    · rcases h.fk.at hq with e | ⟨c, c1, c2, -⟩
      · rw [x1, e]
      · exact absurd c2 (x2 c c1)
    · rw [x1]
  | succ m ih =>
    intro a F x ha hF hc
    obtain ⟨F, rfl⟩ : ∃ k, F = k + 1 := ⟨F - 1, by omega⟩
    have a20 : a < 20 := by omega
    have key := arc_to h hq a20
    show f_X5_by_B33 (f_X5_by_33 F) (nI q) x (nI a) uv = _
    have nx : b q ≠ nI a → f_X5_by_76 (f_X5_by_33 F) (nI q) x (nI a) uv = some (b q, uv) := fun ne => by
      unfold f_X5_by_76 f_X5_by_77
      rw [bnd_s, nI_1]
      refine ih (a + 1) F x (by omega) (by omega) (hc.imp (fun z => ⟨z.1, fun c h1 => ?_⟩) (fun ⟨z, c, c1, c2⟩ => ⟨z, c, by omega, c2⟩))
      by_cases e : c = a
      · rw [e]; exact ne
      · exact z.2 c (by omega)
    unfold f_X5_by_B33
    rw [if_neg (ge20 a20), hu, bt_test _ (by omega)]
    by_cases b1 : bt (nI (Bk b 8)) a = true
    · rw [if_pos b1, if_pos rfl]
      simp (disch := omega) only [nI_10, nI_p1, ckI, nI_clamp, (hN a a20).2.1]
      by_cases t1 : un.to a = nI q
      · rw [if_pos t1]
        unfold f_X5_by_77
        rw [bnd_s, nI_1]
        exact ih (a + 1) F _ (by omega) (by omega) (Or.inr ⟨(key.mp ⟨b1, t1⟩).symm, a, by omega, key.mp ⟨b1, t1⟩⟩)
      · rw [if_neg t1]; exact nx (fun e => t1 (key.mpr e).2)
    · rw [if_neg b1, if_neg (by decide)]; exact nx (fun e => b1 (key.mpr e).1)
end
theorem rs_by : RS_by Rel := by
  intro n p1 p2 uh ur un us uo u0 n0 u1 n1 uv hn h
  have h' := (h.cg (meq.thr uv 0)).mono (Nat.le_succ n)
  obtain ⟨w, hw⟩ : ∃ v, v = uv.setThrown 0 := ⟨_, rfl⟩
  rw [← hw] at h'
  have hN : NR un w.row := h'.2.2.1
  unfold f_X4_by f_X5_by
  simp only [bnd_s, ← hw]
  rcases isPlace_c p1 with ⟨r, hr, rfl, e4, e5⟩ | ⟨e4, e5⟩
  · rw [e4, e5]
    simp only [cl1_s, i10, if_false]
    rcases isPlace_c p2 with ⟨q, hq, rfl, e4, e5⟩ | ⟨e4, e5⟩
    · rw [e4, e5]
      simp only [cl1_s, i10, if_false]
      obtain ⟨us', uv', b0, m, x0, x1, x2, x3, x4, x5, x6, x7, x8, x9, -⟩ := both hN hr (-1) us
      have hN' : NR un uv'.row := by rw [x2.1]; exact hN
      have a0 : f_X3_arcInto (nI q) un us' = some (b0 q) := arcInto_l hN.ng x3.1 x6 hq 20 0 FU (by omega) (by rw [FU_e]; omega) (fun c hc => absurd hc (Nat.not_lt_zero c))
      have a5 := by_l hN' x3.1 x9 hq 20 0 FU (-1) (by omega) (by rw [FU_e]; omega) (Or.inl ⟨rfl, fun c hc => absurd hc (Nat.not_lt_zero c)⟩)
      have z0 : nI 0 = 0 := rfl
      rw [z0] at a5
      rw [x0, x1, cl1_s, cl1_s, a0, cl1_s, a5]
      exact ⟨_, _, _, rfl, rfl, h'.cg x2⟩
    · rw [e4, e5]
      simp only [cl1_s, if_true]
      exact ⟨_, _, _, rfl, rfl, h'⟩
  · rw [e4, e5]
    simp only [cl1_s, if_true]
    exact ⟨_, _, _, rfl, rfl, h'⟩
/-- by how much a tree lies behind -/
def vl (wi : Int32) (W0 W : Nat) : Nat := if wi = 0 then (W - W0 - 1) / 1048576 else (W - W0) / 1048576 + 1
theorem vl_mono {wi : Int32} {W0 W W' : Nat} (h : W ≤ W') : vl wi W0 W ≤ vl wi W0 W' := by
  unfold vl
  by_cases q : wi = 0
  · rw [if_pos q, if_pos q]; omega
  · rw [if_neg q, if_neg q]; omega
section
variable {un : NS} {r : Nat} {S : Int32} {b0 : Nat → Int32} {wi : Int32} {a : Nat}
def Cb (a : Nat) (wi : Int32) (b : Nat → Int32) : Prop := bt (nI (Bk b 8)) a = decide (wi = 1)
def Ls (un : NS) (r : Nat) (S : Int32) (a : Nat) (wi : Int32) (W0 : Nat) (x : Int32) (k : Nat) : Prop :=
  (x = -1 ∧ ∀ b, ¬ Sn un (-1) r S (Cb a wi) k b) ∨ (∃ b1, Sn un (-1) r S (Cb a wi) k b1 ∧ x = nI (vl wi W0 (Wk un b1 8)) ∧ ∀ b, Sn un (-1) r S (Cb a wi) k b → vl wi W0 (Wk un b1 8) ≤ vl wi W0 (Wk un b 8))
theorem behind_loop (hr : r < 8) (ha : a < 20) (hwi : wi = 0 ∨ wi = 1) (h0 : Full un (-1) r S b0) (hop : ¬ Cb a wi b0) (hm : ∀ b, Full un (-1) r S b → Tr un r b → Wk un b0 8 ≤ Wk un b 8) : ∀ (m F : Nat) (uv : MS) (x : Int32), NR un uv.row → uv.reached = S → Full un (-1) r S uv.byArc → Rk un (-1) r S uv.byArc 8 + m = Pd un (-1) r S 8 → m < F → Ls un r S a wi (Wk un b0 8) x (Rk un (-1) r S uv.byArc 8) →
    ∃ (v : Int32) (uv' : MS), f_X5_behind_24 F (nI r) (nI a) wi (nI (Ck un b0 8)) (nI (Bk b0 8)) x 1 uv = some (v, uv') ∧ meq uv uv' ∧ Ls un r S a wi (Wk un b0 8) v (Pd un (-1) r S 8) := by
  intro m
  induction m with
  | zero =>
    intro F uv x hN hS hb hm' hF hB
    have := Rk_lt hb 8 (Nat.le_refl _)
    omega
  | succ m ih =>
    intro F uv x hN hS hb hm' hF hB
    obtain ⟨F, rfl⟩ : ∃ k, F = k + 1 := ⟨F - 1, by omega⟩
    obtain ⟨k, hk⟩ : ∃ k, k = Rk un (-1) r S uv.byArc 8 := ⟨_, rfl⟩
    rw [← hk] at hm' hB
    have aft : ∀ (v : MS) (y : Int32), meq uv v → v.byArc = uv.byArc → v.reached = S → Ls un r S a wi (Wk un b0 8) y (k + 1) → ∃ (z : Int32) (uv' : MS), f_X5_behind_128 (f_X5_behind_24 F) (nI r) (nI a) wi (nI (Ck un b0 8)) (nI (Bk b0 8)) y v = some (z, uv') ∧ meq uv uv' ∧ Ls un r S a wi (Wk un b0 8) z (Pd un (-1) r S 8) := by
      intro v y v1 v2 v3 v4
      unfold f_X5_behind_128
      have hNv : NR un v.row := by rw [v1.1]; exact hN
      rcases nextChoice_ok (uv := v) hNv v3 (by rw [v2]; exact hb) with ⟨c, c1, c2, c3⟩ | ⟨c, c1, c2⟩
      · rw [c1, cl2_s]
        rw [v2, ← hk] at c3
        obtain ⟨t, ht⟩ : ∃ x, x = v.setByArc c := ⟨_, rfl⟩
        obtain ⟨x1, x2, x3, x4, x5, x6⟩ := MS.byA_e _ _ _ ht
        rw [← ht]
        obtain ⟨z, uv', g0, g1, g2⟩ := ih F t y (by rw [x1.1]; exact hNv) (x3.trans v3) (by rw [x2]; exact c2) (by rw [x2, c3]; omega) (by omega) (by rw [x2, c3]; exact v4)
        exact ⟨z, uv', g0, (v1.tr x1).tr g1, g2⟩
      · rw [c1, cl2_s]
        rw [v2, ← hk] at c2
        obtain ⟨t, ht⟩ : ∃ x, x = v.setByArc c := ⟨_, rfl⟩
        obtain ⟨x1, -⟩ := MS.byA_e _ _ _ ht
        rw [← ht]
        obtain ⟨F, rfl⟩ : ∃ k, F = k + 1 := ⟨F - 1, by omega⟩
        refine ⟨y, t, ?_, v1.tr x1, by rw [← c2]; exact v4⟩
        show f_X5_behind_B24 (f_X5_behind_24 F) (nI r) (nI a) wi _ _ y 0 t = _
        unfold f_X5_behind_B24
        rw [if_pos rfl]
    have same : ¬ (Tr un r uv.byArc ∧ Cb a wi uv.byArc) → Ls un r S a wi (Wk un b0 8) x (k + 1) := fun no => by
      have nn : ∀ b, Sn un (-1) r S (Cb a wi) (k + 1) b → Sn un (-1) r S (Cb a wi) k b := fun b hb' => by
        rcases hb'.next hb hk.symm with z | z
        · exact z
        · refine absurd ⟨Tr_cg hN.ng z hb'.1 hb'.2.1, ?_⟩ no
          have c := hb'.2.2.1
          unfold Cb at c ⊢
          rw [← Bk_cg 8 z]; exact c
      rcases hB with ⟨z1, z2⟩ | ⟨b1, z2, z3, z5⟩
      · exact Or.inl ⟨z1, fun b hb' => z2 b (nn b hb')⟩
      · exact Or.inr ⟨b1, z2.up, z3, fun b hb' => z5 b (nn b hb')⟩
    show ∃ v uv', f_X5_behind_B24 (f_X5_behind_24 F) (nI r) (nI a) wi (nI (Ck un b0 8)) (nI (Bk b0 8)) x 1 uv = some (v, uv') ∧ _
    unfold f_X5_behind_B24
    rw [if_neg i10]
    rcases isTree_ok hN hr hb with ⟨t1, w, t2, ⟨w1, w2, w3, w6, w7, w8⟩, w4, w5⟩ | ⟨t1, w, t2, ⟨w1, w2, w3, w6, w7, w8⟩⟩
    · rw [t2, cl2_s, if_neg i10, w5, bt_test _ (by omega)]
      have wm := hm uv.byArc hb t1
      have lx := W_lex (un := un) h0 hb
      have l1 := hb.i32 hN.ng
      have l2 := h0.i32 hN.ng
      have run : Cb a wi uv.byArc → ∃ (z : Int32) (uv' : MS), (if wi = 0 then (if nI (Bk uv.byArc 8) ≤ nI (Bk b0 8) then f_X5_behind_103 (f_X5_behind_24 F) (nI r) (nI a) wi (nI (Ck un b0 8)) (nI (Bk b0 8)) x (nI (Ck un uv.byArc 8) - nI (Ck un b0 8)) (-1) w else f_X5_behind_103 (f_X5_behind_24 F) (nI r) (nI a) wi (nI (Ck un b0 8)) (nI (Bk b0 8)) x (nI (Ck un uv.byArc 8) - nI (Ck un b0 8)) 0 w) else (if nI (Bk b0 8) ≤ nI (Bk uv.byArc 8) then f_X5_behind_103 (f_X5_behind_24 F) (nI r) (nI a) wi (nI (Ck un b0 8)) (nI (Bk b0 8)) x (nI (Ck un uv.byArc 8) - nI (Ck un b0 8)) 1 w else f_X5_behind_103 (f_X5_behind_24 F) (nI r) (nI a) wi (nI (Ck un b0 8)) (nI (Bk b0 8)) x (nI (Ck un uv.byArc 8) - nI (Ck un b0 8)) 0 w)) = some (z, uv') ∧ meq uv uv' ∧ Ls un r S a wi (Wk un b0 8) z (Pd un (-1) r S 8) := by
        intro cb
        have ne : Wk un b0 8 ≠ Wk un uv.byArc 8 := fun e => by
          have := (lx.2.mp e).2
          refine hop ?_
          unfold Cb at cb ⊢
          rw [this]; exact cb
        have lt := lx.1.mp (by omega)
        have cle : Ck un b0 8 ≤ Ck un uv.byArc 8 := by omega
        have cur : Sn un (-1) r S (Cb a wi) (k + 1) uv.byArc := ⟨hb, t1, cb, by omega⟩
        have vb : vl wi (Wk un b0 8) (Wk un uv.byArc 8) < 2 ^ 30 := by
          unfold vl Wk
          by_cases q : wi = 0
          · rw [if_pos q]; omega
          · rw [if_neg q]; omega
        have set : ∀ s0 s2 : Int32, s0 + s2 = nI (vl wi (Wk un b0 8) (Wk un uv.byArc 8)) → ∃ (z : Int32) (uv' : MS), f_X5_behind_103 (f_X5_behind_24 F) (nI r) (nI a) wi (nI (Ck un b0 8)) (nI (Bk b0 8)) x s0 s2 w = some (z, uv') ∧ meq uv uv' ∧ Ls un r S a wi (Wk un b0 8) z (Pd un (-1) r S 8) := by
          intro s0 s2 e
          unfold f_X5_behind_103 f_X5_behind_119 f_X5_behind_126
          rw [bnd_s, e]
          rcases hB with ⟨z1, z2⟩ | ⟨b1, z2, z3, z5⟩
          · rw [z1, if_pos rfl]
            refine aft w _ w1 w2 (w3.trans hS) (Or.inr ⟨uv.byArc, cur, rfl, fun b hb' => ?_⟩)
            rcases hb'.next hb hk.symm with z | z
            · exact absurd z (z2 b)
            · rw [Wk_cg 8 z]; exact Nat.le_refl _
          · have v1b : vl wi (Wk un b0 8) (Wk un b1 8) < 2 ^ 30 := by
              have l3 := z2.1.i32 hN.ng
              unfold vl Wk
              by_cases q : wi = 0
              · rw [if_pos q]; omega
              · rw [if_neg q]; omega
            rw [z3, if_neg (nI_nm1 (by omega))]
            by_cases le : vl wi (Wk un b0 8) (Wk un b1 8) ≤ vl wi (Wk un b0 8) (Wk un uv.byArc 8)
            · rw [if_pos ((nI_leI (by omega) (by omega)).mpr le)]
              refine aft w _ w1 w2 (w3.trans hS) (Or.inr ⟨b1, z2.up, rfl, fun b hb' => ?_⟩)
              rcases hb'.next hb hk.symm with z | z
              · exact z5 b z
              · rw [Wk_cg 8 z]; exact le
            · rw [if_neg (fun q => le ((nI_leI (by omega) (by omega)).mp q))]
              refine aft w _ w1 w2 (w3.trans hS) (Or.inr ⟨uv.byArc, cur, rfl, fun b hb' => ?_⟩)
              rcases hb'.next hb hk.symm with z | z
              · have := z5 b z
                omega
              · rw [Wk_cg 8 z]; exact Nat.le_refl _
        rw [pk_sub cle]
        by_cases q : wi = 0
        · rw [if_pos q]
          by_cases q2 : Bk uv.byArc 8 ≤ Bk b0 8
          · rw [if_pos ((nI_leI (by omega) (by omega)).mpr q2)]
            refine set _ _ ?_
            obtain ⟨d, hd⟩ : ∃ d, Ck un uv.byArc 8 - Ck un b0 8 = d + 1 := ⟨Ck un uv.byArc 8 - Ck un b0 8 - 1, by omega⟩
            rw [hd, pk_m1]
            have : vl wi (Wk un b0 8) (Wk un uv.byArc 8) = d := by
              unfold vl Wk
              rw [if_pos q]; omega
            rw [this]
          · rw [if_neg (fun z => q2 ((nI_leI (by omega) (by omega)).mp z))]
            refine set _ _ ?_
            rw [Int32.add_zero]
            have : vl wi (Wk un b0 8) (Wk un uv.byArc 8) = Ck un uv.byArc 8 - Ck un b0 8 := by
              unfold vl Wk
              rw [if_pos q]; omega
            rw [this]
        · rw [if_neg q]
          by_cases q2 : Bk b0 8 ≤ Bk uv.byArc 8
          · rw [if_pos ((nI_leI (by omega) (by omega)).mpr q2)]
            refine set _ _ ?_
            rw [nI_1]
            have : vl wi (Wk un b0 8) (Wk un uv.byArc 8) = Ck un uv.byArc 8 - Ck un b0 8 + 1 := by
              unfold vl Wk
              rw [if_neg q]; omega
            rw [this]
          · rw [if_neg (fun z => q2 ((nI_leI (by omega) (by omega)).mp z))]
            refine set _ _ ?_
            rw [Int32.add_zero]
            have : vl wi (Wk un b0 8) (Wk un uv.byArc 8) = Ck un uv.byArc 8 - Ck un b0 8 := by
              unfold vl Wk
              rw [if_neg q]; omega
            rw [this]
      unfold f_X5_behind_54
      rw [w4, w5]
      simp only [bnd_s]
      rcases hwi with e | e
      · rw [if_pos e]
        by_cases cb : bt (nI (Bk uv.byArc 8)) a = true
        · have nc : ¬ Cb a wi uv.byArc := by
            unfold Cb; rw [cb, e]; decide
          rw [if_pos cb, if_neg (by decide)]
          exact aft w x w1 w2 (w3.trans hS) (same (fun z => nc z.2))
        · have yc : Cb a wi uv.byArc := by
            unfold Cb; rw [Bool.eq_false_iff.mpr cb, e]; decide
          rw [if_neg cb, if_pos rfl]
          exact run yc
      · have e' : ¬ wi = 0 := by rw [e]; decide
        have run' := run
        rw [if_neg e'] at run'
        rw [if_neg e']
        by_cases cb : bt (nI (Bk uv.byArc 8)) a = true
        · have yc : Cb a wi uv.byArc := by
            unfold Cb; rw [cb, e]; decide
          rw [if_pos cb, if_pos rfl, if_neg e']
          exact run' yc
        · have nc : ¬ Cb a wi uv.byArc := by
            unfold Cb; rw [Bool.eq_false_iff.mpr cb, e]; decide
          rw [if_neg cb, if_neg (by decide)]
          exact aft w x w1 w2 (w3.trans hS) (same (fun z => nc z.2))
    · rw [t2, cl2_s, if_pos rfl]
      exact aft w x w1 w2 (w3.trans hS) (same (fun z => t1 z.1))
end
