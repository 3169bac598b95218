/-! the walk as a list -/
def kd1 (p : Int32) : List Nat := if p = -1 then [] else [p.toNatClampNeg]
def PW (L R : Nat → Int32) : Nat → List Nat → List Nat
  | 0, _ => []
  | _ + 1, [] => []
  | F + 1, x :: S => x :: PW L R F (kd1 (L x) ++ (kd1 (R x) ++ S))
def stk (f : Nat → Int32) : List Nat → Prop
  | [] => True
  | x :: S => f S.length = nI x ∧ stk f S
def rowl (f : Nat → Int32) : Nat → List Nat → Prop
  | _, [] => True
  | n, x :: l => f n = nI x ∧ rowl f (n + 1) l
noncomputable def lsz (c : Nat) (U lab : Nat → Int32) : List Nat → Nat
  | [] => 0
  | x :: S => sz c U lab x + lsz c U lab S
theorem stk_un {f : Nat → Int32} {v : Int32} : ∀ (S : List Nat) (k : Nat), S.length ≤ k → stk f S → stk (upd f k v) S
  | [], _, _, _ => trivial
  | x :: S, k, hk, h => by
    have hk' : S.length + 1 ≤ k := hk
    refine ⟨?_, stk_un S k (by omega) h.2⟩
    rw [pk_un (by omega)]; exact h.1
theorem rowl_un {f : Nat → Int32} {v : Int32} : ∀ (l : List Nat) (n k : Nat), (k < n ∨ n + l.length ≤ k) → rowl f n l → rowl (upd f k v) n l
  | [], _, _, _, _ => trivial
  | x :: l, n, k, hk, h => by
    have hk' : k < n ∨ n + (l.length + 1) ≤ k := hk
    refine ⟨?_, rowl_un l (n + 1) k (by omega) h.2⟩
    rw [pk_un (by omega)]; exact h.1
theorem rowl_ap {f : Nat → Int32} : ∀ (l l' : List Nat) (n : Nat), rowl f n l → rowl f (n + l.length) l' → rowl f n (l ++ l')
  | [], _, _, _, h => h
  | x :: l, l', n, h, h' => by
    refine ⟨h.1, rowl_ap l l' (n + 1) h.2 ?_⟩
    have e : n + 1 + l.length = n + (l.length + 1) := by omega
    rw [e]; exact h'
theorem rowl_cg {f g : Nat → Int32} : ∀ (l : List Nat) (n : Nat), (∀ k, n ≤ k → k < n + l.length → g k = f k) → rowl f n l → rowl g n l
  | [], _, _, _ => trivial
  | x :: l, n, e, h => by
    have e' : ∀ k, n ≤ k → k < n + (l.length + 1) → g k = f k := e
    refine ⟨?_, rowl_cg l (n + 1) (fun k h1 h2 => e' k (by omega) (by omega)) h.2⟩
    rw [e' n (by omega) (by omega)]; exact h.1
def psh (f : Nat → Int32) (k : Nat) (p : Int32) : Nat → Int32 := if p = -1 then f else upd f k p
theorem stk_psh {f : Nat → Int32} {p : Int32} (hp : ptr 300 p) {T : List Nat} (h : stk f T) : stk (psh f T.length p) (kd1 p ++ T) := by
  unfold psh kd1
  rcases hp with rfl | ⟨j, hj, rfl⟩
  · rw [if_pos rfl, if_pos rfl]; exact h
  · rw [if_neg (nI_nm1 (by omega)), if_neg (nI_nm1 (by omega)), nI_clamp (by omega)]
    exact ⟨pk_us, stk_un T _ (Nat.le_refl _) h⟩
theorem lsz_kd {c : Nat} {U lab : Nat → Int32} (p : Int32) (T : List Nat) : lsz c U lab (kd1 p ++ T) = szp c U lab p + lsz c U lab T := by
  unfold kd1 szp
  by_cases q : p = -1
  · rw [if_pos q, if_pos q]
    show lsz c U lab T = _
    omega
  · rw [if_neg q, if_neg q]; rfl
theorem lsz_len {c : Nat} {U lab : Nat → Int32} : ∀ (S : List Nat), (∀ x, x ∈ S → x < c ∧ lab x ≠ -1) → S.length ≤ lsz c U lab S
  | [], _ => Nat.le_refl _
  | x :: S, h => by
    have := lsz_len (c := c) (U := U) (lab := lab) S (fun y hy => h y (List.mem_cons_of_mem x hy))
    have := sz_pos (U := U) (h x List.mem_cons_self).1 (h x List.mem_cons_self).2
    show S.length + 1 ≤ sz c U lab x + lsz c U lab S
    omega
theorem kd_mem {c : Nat} {u : HS} {uv : MS} (h : HM 0 c u uv) {x : Nat} {S : List Nat} (hx : x < c) (ha : u.deskOf x ≠ -1) (hS : ∀ y, y ∈ S → y < c ∧ u.deskOf y ≠ -1) : ∀ y, y ∈ kd1 (u.left x) ++ (kd1 (u.right x) ++ S) → y < c ∧ u.deskOf y ≠ -1 := by
  have hc := h.1
  have hI := h.alv
  have k : ∀ p, (u.left x = p ∨ u.right x = p) → ptr c p → ∀ y, y ∈ kd1 p → y < c ∧ u.deskOf y ≠ -1 := by
    intro p hp hq y hy
    unfold kd1 at hy
    rcases hq with rfl | ⟨j, hj, rfl⟩
    · rw [if_pos rfl] at hy; cases hy
    · rw [if_neg (nI_nm1 (by omega)), nI_clamp (by omega)] at hy
      have e : y = j := List.mem_singleton.mp hy
      subst e
      exact ⟨hj, by rw [(hI.kid hc hx hj ha hp).1]; exact ha⟩
  have pt := h.ptrs hx ha
  intro y hy
  rcases List.mem_append.mp hy with w | w
  · exact k _ (Or.inl rfl) pt.1 y w
  · rcases List.mem_append.mp w with w | w
    · exact k _ (Or.inr rfl) pt.2 y w
    · exact hS y w
theorem kd_len (p : Int32) (T : List Nat) : (kd1 p ++ T).length = T.length + (if p = -1 then 0 else 1) := by
  unfold kd1
  by_cases q : p = -1
  · rw [if_pos q, if_pos q]; rfl
  · rw [if_neg q, if_neg q]; rfl
theorem walkL {c : Nat} {u : HS} {uv : MS} (h : HM 0 c u uv) : ∀ (m : Nat) (S : List Nat) (n : Nat) (ur : RS) (F : Nat), lsz c u.up u.deskOf S ≤ m → m < F → n + lsz c u.up u.deskOf S ≤ 300 → (∀ x, x ∈ S → x < c ∧ u.deskOf x ≠ -1) → stk ur.stack S →
    ∃ ur', f_X2_walk_19 u F (nI n) (nI S.length) ur = some (nI (n + (PW u.left u.right m S).length), ur') ∧ (∀ k, k < n → ur'.one k = ur.one k) ∧ rowl ur'.one n (PW u.left u.right m S) := by
  have hc := h.1
  have hI := h.alv
  have stop : ∀ (n F : Nat) (ur : RS), f_X2_walk_19 u (F + 1) (nI n) (nI 0) ur = some (nI n, ur) := by
    intro n F ur
    show f_X2_walk_B19 u (f_X2_walk_19 u F) (nI n) (nI 0) ur = _
    unfold f_X2_walk_B19
    rw [if_pos (show nI 0 ≤ 0 by decide)]
  intro m
  induction m with
  | zero =>
    intro S n ur F hm hF hn hS hk
    obtain ⟨F, rfl⟩ : ∃ k, F = k + 1 := ⟨F - 1, by omega⟩
    have := lsz_len (c := c) (U := u.up) (lab := u.deskOf) S hS
    cases S with
    | nil => exact ⟨ur, stop n F ur, fun _ _ => rfl, trivial⟩
    | cons x S =>
      have e : (x :: S).length = S.length + 1 := rfl
      omega
  | succ m ih =>
    intro S n ur F hm hF hn hS hk
    obtain ⟨F, rfl⟩ : ∃ k, F = k + 1 := ⟨F - 1, by omega⟩
    cases S with
    | nil => exact ⟨ur, stop n F ur, fun _ _ => rfl, trivial⟩
    | cons x S =>
      obtain ⟨x1, x2⟩ := hS x List.mem_cons_self
      have hS' : ∀ y, y ∈ S → y < c ∧ u.deskOf y ≠ -1 := fun y hy => hS y (List.mem_cons_of_mem x hy)
      have pt := h.ptrs x1 x2
      have ln := lsz_len (c := c) (U := u.up) (lab := u.deskOf) (x :: S) hS
      have e0 : (x :: S).length = S.length + 1 := rfl
      have e1 : lsz c u.up u.deskOf (x :: S) = sz c u.up u.deskOf x + lsz c u.up u.deskOf S := rfl
      have sr := sz_rec hc hI x1 x2
      have hm2 := kd_mem h x1 x2 hS'
      have e2 : lsz c u.up u.deskOf (kd1 (u.left x) ++ (kd1 (u.right x) ++ S)) + 1 = lsz c u.up u.deskOf (x :: S) := by
        rw [lsz_kd, lsz_kd, e1, sr]; omega
      have ln2 := lsz_len (c := c) (U := u.up) (lab := u.deskOf) _ hm2
      obtain ⟨ur1, h1⟩ : ∃ v, v = (ur.setOne (upd ur.one n (nI x))).setStack (psh (psh ur.stack S.length (u.right x)) (kd1 (u.right x) ++ S).length (u.left x)) := ⟨_, rfl⟩
      obtain ⟨s1, s2, s3⟩ := RS.wk_e _ _ _ _ h1
      have lR : (kd1 (u.right x) ++ S).length = S.length + (if u.right x = -1 then 0 else 1) := kd_len _ _
      have lL : (kd1 (u.left x) ++ (kd1 (u.right x) ++ S)).length = (kd1 (u.right x) ++ S).length + (if u.left x = -1 then 0 else 1) := kd_len _ _
      have step : f_X2_walk_19 u (F + 1) (nI n) (nI (S.length + 1)) ur = f_X2_walk_19 u F (nI (n + 1)) (nI (kd1 (u.left x) ++ (kd1 (u.right x) ++ S)).length) ur1 := by
        show f_X2_walk_B19 u (f_X2_walk_19 u F) (nI n) (nI (S.length + 1)) ur = _
        have c92 : ∀ (T : Nat) (g : Nat → Int32), T < 300 → f_X2_walk_92 u (f_X2_walk_19 u F) (nI (n + 1)) (nI T) (nI x) ((ur.setOne (upd ur.one n (nI x))).setStack g) = f_X2_walk_19 u F (nI (n + 1)) (nI (T + (if u.left x = -1 then 0 else 1))) ((ur.setOne (upd ur.one n (nI x))).setStack (psh g T (u.left x))) := by
          intro T g hT
          unfold f_X2_walk_92 f_X2_walk_132 psh
          simp (disch := omega) only [ckI, nI_clamp, bnd_s, nI_1]
          by_cases q : u.left x = -1
          · rw [if_pos q, if_pos q, if_pos q]; have eT : T + 0 = T := Nat.add_zero T
            rw [eT]
          · rw [if_neg q, if_neg q, if_neg q, if_neg (ge300 hT)]
            rw [RS.os]
            rfl
        unfold f_X2_walk_B19
        rw [if_neg (nI_nle (by omega) (by omega)), if_neg (ge300 (by omega)), pk_m1]
        simp (disch := omega) only [bnd_s, ckI, nI_clamp, hk.1, nI_1]
        have nostk : ur.setOne (upd ur.one n (nI x)) = (ur.setOne (upd ur.one n (nI x))).setStack ur.stack := rfl
        rw [lL, h1]
        by_cases q : u.right x = -1
        · rw [if_pos q, nostk, c92 S.length ur.stack (by omega)]
          have : (kd1 (u.right x) ++ S).length = S.length := by rw [lR, if_pos q, Nat.add_zero]
          rw [this]
          have : psh ur.stack S.length (u.right x) = ur.stack := if_pos q
          rw [this, RS.os]
        · rw [if_neg q, if_neg (ge300 (by omega))]
          have p0 : (ur.setOne (upd ur.one n (nI x))).setStack (upd (ur.setOne (upd ur.one n (nI x))).stack S.length (u.right x)) = (ur.setOne (upd ur.one n (nI x))).setStack (upd ur.stack S.length (u.right x)) := rfl
          have t : (kd1 (u.right x) ++ S).length = S.length + 1 := by rw [lR, if_neg q]
          rw [p0, c92 (S.length + 1) _ (by omega), t]
          have : psh ur.stack S.length (u.right x) = upd ur.stack S.length (u.right x) := if_neg q
          rw [this]
      rw [e0, step]
      have st : stk ur1.stack (kd1 (u.left x) ++ (kd1 (u.right x) ++ S)) := by
        rw [s2]
        exact stk_psh (ptr_mono pt.1 hc) (stk_psh (ptr_mono pt.2 hc) hk.2)
      obtain ⟨ur2, f0, f1, f2⟩ := ih _ (n + 1) ur1 F (by omega) (by omega) (by omega) hm2 st
      have ep : PW u.left u.right (m + 1) (x :: S) = x :: PW u.left u.right m (kd1 (u.left x) ++ (kd1 (u.right x) ++ S)) := rfl
      refine ⟨ur2, ?_, fun k hk' => ?_, ?_⟩
      · rw [f0, ep]
        have : n + 1 + (PW u.left u.right m (kd1 (u.left x) ++ (kd1 (u.right x) ++ S))).length = n + (x :: PW u.left u.right m (kd1 (u.left x) ++ (kd1 (u.right x) ++ S))).length := by
          show n + 1 + _ = n + (_ + 1); omega
        rw [this]
      · rw [f1 k (by omega), s1, pk_un (by omega)]
      · rw [ep]
        refine ⟨?_, f2⟩
        rw [f1 n (by omega), s1, pk_us]
