abbrev xT (κ : Nat → ClassId) : List (ClassId × FieldType) := [(κ 0, .int), (κ 1, .long), (κ 2, .boolean), (κ 3, .object "SpineDesks$Hall"), (κ 4, .object "SpineDesks$Net")]
def xPc (D : va_G) (κ : Nat → ClassId) (av : List Value) (w : va_W) (sz : Nat) : Array Value → State → Prop := va_Pc av (fun U => U.heap.size = sz ∧ va_P D vwCl w U.heap ∧ va_K D vwCl (xT κ) U ∧ va_D (fun _ => True) w)
def xB (D : va_G) (κ : Nat → ClassId) (A : Nat → Prop) (w1 : va_W) : Unit → State → Prop := fun _ t => va_P D vwCl w1 t.heap ∧ va_K D vwCl (xT κ) t ∧ va_D A w1
def xQi (D : va_G) (κ : Nat → ClassId) (r : Int32) (w1 : va_W) (A : Nat → Prop) : Array Value → State → Outcome → State → Prop := va_Qi (fun (r2 : Int32) (_ : Unit) => r2 = r) (xB D κ A w1) A
def xQl (D : va_G) (κ : Nat → ClassId) (r : Int64) (w1 : va_W) (A : Nat → Prop) : Array Value → State → Outcome → State → Prop := va_Ql (fun (r2 : Int64) (_ : Unit) => r2 = r) (xB D κ A w1) A
def xQv (D : va_G) (κ : Nat → ClassId) (w1 : va_W) (A : Nat → Prop) : Array Value → State → Outcome → State → Prop := va_Qv (fun (_ : Unit) => True) (xB D κ A w1) A
/-- the heap's facts in one: the cells, apart, what changed since H0 -/
def xG (D : va_G) (A : Nat → Prop) (H0 : Heap) (w : va_W) (H : Heap) (locs : List Loc) : Prop := va_P D vwCl w H ∧ va_D A w ∧ va_S A H0 H locs
theorem xPc_blind (D : va_G) (κ : Nat → ClassId) (av : List Value) (w : va_W) (sz : Nat) : FrameBlind (xPc D κ av w sz) := fun a U g mk q => by
  obtain ⟨q0, q1, qP, qK, qD⟩ := q
  exact ⟨q0, q1, qP, va_K.moved (u := U) (U := U.calling g mk a) (Vm.Alike.refl U.vm) qK, qD⟩
theorem x_ofW {l : Launch} {D : va_G} {κ : Nat → ClassId} {y : MethodName} {wsy ws' : List Cond} {rm : Room} {cc : ByteArray} {maxL : Nat} {ret : Option FieldType} {av : List Value} {w : va_W} {sz : Nat} {Qf : (Nat → Prop) → Array Value → State → Outcome → State → Prop}
    (hy : plainName y.cls = true) (hw : wsy = Cond.code y cc maxL ret :: ws') (hlen : (lg_sl av).length ≤ maxL)
    (body : ∀ (p : Program) (e : Env) (s : State) (m : MethodId) (below : List Frame) (meth : Method) (c : Code), p.tables.exec = Jvm.exec → c.code = cc → meth.sig.returnType = ret → meth.locks = false → c.maxLocals = maxL → s.vm.findClass y.cls = some m.cls → (∀ w ∈ wsy, w.before av.toArray s = true) → va_K D vwCl (xT κ) s →
      ∀ A : Nat → Prop, (∀ q : Nat, s.heap.size ≤ q → A q) → ∀ (H : Heap) (locs : List Loc), xG D A s.heap w H locs → ∀ ls : Array Slot, lv_has ls maxL (lv_args 0 av) → W p l e rm s m av.toArray below meth c H locs 0 0 (MQ below (Qf A) av.toArray s 0 0 A) (F0 m 0 ls [])) :
    Met l y wsy rm (xPc D κ av w sz) (Qf (va_A w sz)) 0 0 (va_A w sz) := by
  refine Met.ofW (cc := cc) (maxL := maxL) (ret := ret) hy hw ?_
  intro p e s m args below meth c s₁ B hml hv
  obtain ⟨rfl, hsz, hP, hK, hD0⟩ := hv
  subst hsz
  have hl := lv_entry av hlen
  rw [lg_entry_eq]
  exact body p e s m below meth c B.exec B.bytes B.returns B.notSynchronized hml (findClass_of_methodNamed B.named) (atoms_spec (ws := wsy) B.pre) hK _ (fun q h => Or.inr h) _ _ ⟨hP, hD0.self, va_S.rf⟩ _ hl
/-- a frame around a callee's cells -/
theorem x_frame {D : va_G} {A : Nat → Prop} {H0 H : Heap} {locs : List Loc} {w pre wc wc1 post : va_W} (hG : xG D A H0 w H locs) (hA : ∀ q : Nat, H0.size ≤ q → A q) (hw : w = pre ++ (wc ++ post)) :
    va_P D vwCl wc H ∧ va_D (fun _ => True) wc ∧ (∀ q, va_A wc H.size q → A q) ∧ ∀ H1 : Heap, (∀ q : Nat, q < H.size → ¬ va_A wc H.size q → H1[q]? = H[q]?) → va_P D vwCl wc1 H1 → va_D (va_A wc H.size) wc1 → va_P D vwCl (pre ++ (wc1 ++ post)) H1 ∧ va_D A (pre ++ (wc1 ++ post)) := by
  subst hw
  obtain ⟨hP, hD, hS⟩ := hG
  have i1 : ∀ (k : Nat) (q : Nat × va_E), pre[k]? = some q → (pre ++ (wc ++ post))[k]? = some q := fun k q h => by
    rw [List.getElem?_append_left (List.getElem?_eq_some_iff.mp h).1]; exact h
  have i2 : ∀ (k : Nat) (q : Nat × va_E), wc[k]? = some q → (pre ++ (wc ++ post))[pre.length + k]? = some q := fun k q h => by
    rw [List.getElem?_append_right (by omega), Nat.add_sub_cancel_left, List.getElem?_append_left (List.getElem?_eq_some_iff.mp h).1]; exact h
  have i3 : ∀ (k : Nat) (q : Nat × va_E), post[k]? = some q → (pre ++ (wc ++ post))[pre.length + (wc.length + k)]? = some q := fun k q h => by
    rw [List.getElem?_append_right (by omega), Nat.add_sub_cancel_left, List.getElem?_append_right (by omega), Nat.add_sub_cancel_left]; exact h
  have l1 : ∀ (k : Nat) (q : Nat × va_E), pre[k]? = some q → k < pre.length := fun k q h => (List.getElem?_eq_some_iff.mp h).1
  have l2 : ∀ (k : Nat) (q : Nat × va_E), wc[k]? = some q → k < wc.length := fun k q h => (List.getElem?_eq_some_iff.mp h).1
  have hF : ∀ q, va_A wc H.size q → A q := by
    rintro q (⟨k, e, h⟩ | h)
    · exact hD.2 _ _ (i2 k _ h)
    · exact hA q (Nat.le_trans hS.1 h)
  refine ⟨fun k q h => hP _ _ (i2 k q h), ⟨fun i j p q hi hj e => ?_, fun _ _ _ => trivial⟩, hF, ?_⟩
  · have := hD.1 _ _ p q (i2 i p hi) (i2 j q hj) e; omega
  · intro H1 hk hP1 hD1
    have ap1 : ∀ (k : Nat) (q : Nat × va_E), pre[k]? = some q → q.1 < H.size ∧ ¬ va_A wc H.size q.1 := fun k q h => by
      have hl := (hP _ _ (i1 k q h)).lt
      refine ⟨hl, ?_⟩
      rintro (⟨j, e, hj⟩ | h2)
      · have := hD.1 _ _ q (q.1, e) (i1 k q h) (i2 j _ hj) rfl
        have := l1 k q h; omega
      · omega
    have ap3 : ∀ (k : Nat) (q : Nat × va_E), post[k]? = some q → q.1 < H.size ∧ ¬ va_A wc H.size q.1 := fun k q h => by
      have hl := (hP _ _ (i3 k q h)).lt
      refine ⟨hl, ?_⟩
      rintro (⟨j, e, hj⟩ | h2)
      · have := hD.1 _ _ q (q.1, e) (i3 k q h) (i2 j _ hj) rfl
        have := l2 j _ hj; omega
      · omega
    refine ⟨va_P.app (fun k q h => (hP _ _ (i1 k q h)).kept (hk q.1 (ap1 k q h).1 (ap1 k q h).2)) (va_P.app hP1 (fun k q h => (hP _ _ (i3 k q h)).kept (hk q.1 (ap3 k q h).1 (ap3 k q h).2))), ?_⟩
    refine va_D.app ⟨fun i j p q hi hj e => hD.1 _ _ p q (i1 i p hi) (i1 j q hj) e, fun k q h => hD.2 _ _ (i1 k q h)⟩ (va_D.app (hD1.weaken (fun k q _ h => hF q.1 h)) ⟨fun i j p q hi hj e => ?_, fun k q h => hD.2 _ _ (i3 k q h)⟩ ?_) ?_
    · have := hD.1 _ _ p q (i3 i p hi) (i3 j q hj) e; omega
    · intro i j p q hi hj e
      exact (ap3 j q hj).2 (by rw [← e]; exact hD1.2 i p hi)
    · intro i j p q hi hj e
      rcases Nat.lt_or_ge j wc1.length with hlt | hge
      · rw [List.getElem?_append_left hlt] at hj
        exact (ap1 i p hi).2 (by rw [e]; exact hD1.2 j q hj)
      · rw [List.getElem?_append_right hge] at hj
        have := hD.1 _ _ p q (i1 i p hi) (i3 _ q hj) e
        have := l1 i p hi; omega
section XR
variable {p : Program} {l : Launch} {e : Env} {R : Room} {s : State} {m : MethodId} {args : Array Value} {below : List Frame} {meth : Method} {c : Code} {H : Heap} {locs : List Loc} {cells slots : Nat} {Q : State → Prop}
variable {cc : ByteArray} {pc : Nat} {ls : Array Slot} {rest : List Value} {D : va_G} {κ : Nat → ClassId} {A : Nat → Prop} {a : Nat} {w w1 : va_W} {H0 : Heap}
theorem x_get {own C : String} {T : u_T} {N ci index : Nat} {Ts : List Cond} (hx : p.tables.exec = Jvm.exec) (hb : c.code = cc) (hts : ∀ w ∈ Ts, w.before args s = true) (hin : ∀ w ∈ u_ws C T N, w ∈ Ts) (hown : s.vm.findClass own = some m.cls) (hK : va_K D vwCl (xT κ) s) (hG : xG D A H0 w H locs) (q0 : Nat) {fs : List Value} (he : w[q0]? = some (a, .inr (ci, fs))) (hc : vwCl[ci]? = some (C, T, N)) (k : Nat) (hk : k < N) (hlink : (Cond.fieldLink own index (T k).1 (T k).2.1 (T k).2.2.1).before args s = true) {v : Value} (hv : fs[k]? = some v) (hdg : decode cc pc = .ok (.getfield index, 3))
    (kk : W p l e R s m args below meth c H locs cells slots Q (F0 m (pc + 3) ls (v :: rest))) : W p l e R s m args below meth c H locs cells slots Q (F0 m pc ls (.ref a :: rest)) :=
  va_get hx hb hts hin hown hK hG.1 q0 he hc k hk hlink (fun _ h9 => h9) hv hdg kk
theorem x_put {own C : String} {T : u_T} {N ci index : Nat} {Ts : List Cond} (hx : p.tables.exec = Jvm.exec) (hb : c.code = cc) (hts : ∀ w ∈ Ts, w.before args s = true) (hin : ∀ w ∈ u_ws C T N, w ∈ Ts) (ty0 : Nat → FieldType) (hty : ∀ k, k < N → parseFieldDescriptor (T k).2.2.1 = some (ty0 k)) (hnm : ∀ a, a < N → ∀ b, b < N → a ≠ b → (T a).2.1 ≠ (T b).2.1) (hown : s.vm.findClass own = some m.cls) (hK : va_K D vwCl (xT κ) s) (hG : xG D A H0 w H locs) (q0 : Nat) {fs : List Value} (he : w[q0]? = some (a, .inr (ci, fs))) (hc : vwCl[ci]? = some (C, T, N)) (k : Nat) (hk : k < N) (hlink : (Cond.fieldLink own index (T k).1 (T k).2.1 (T k).2.2.1).before args s = true) (hfin : (T k).2.2.2 = false) {ty : FieldType} {v : Value} (hd : ty0 k = ty) (hn : narrow ty v = v) (hfit : fits ty v = true) (hl : k < fs.length) (hw : w.set q0 (a, .inr (ci, fs.set k v)) = w1)
    (hdg : decode cc pc = .ok (.putfield index, 3)) (kk : ∀ (H1 : Heap) (locs1 : List Loc), xG D A H0 w1 H1 locs1 → W p l e R s m args below meth c H1 locs1 cells slots Q (F0 m (pc + 3) ls rest)) : W p l e R s m args below meth c H locs cells slots Q (F0 m pc ls (v :: .ref a :: rest)) := by
  subst hw
  exact va_put hx hb hts hin ty0 hty hnm hown hK hG.1 hG.2.1 hG.2.2 q0 he hc k hk hlink (fun _ h9 => h9) hfin (by rw [← hd]; exact hty k hk) hn hfit hl hdg (fun H1 locs1 h1 h2 h3 => kk H1 locs1 ⟨h1, h2, h3⟩)
theorem x_iald (hx : p.tables.exec = Jvm.exec) (hb : c.code = cc) (hK : va_K D vwCl (xT κ) s) (hG : xG D A H0 w H locs) (q0 : Nat) {n : Nat} {f : Nat → Int32} (ha : w[q0]? = some (a, .inl (κ 0, n, .inl f))) {i v : Int32} (hv : v = f i.toNatClampNeg) (hin : vp_in i n) (hdg : decode cc pc = .ok (.iaload, 1))
    (kk : W p l e R s m args below meth c H locs cells slots Q (F0 m (pc + 1) ls (.int v :: rest))) : W p l e R s m args below meth c H locs cells slots Q (F0 m pc ls (.int i :: .ref a :: rest)) := by
  subst hv
  exact va_iald hx hb hK hG.1 q0 0 ha rfl hin hdg kk
theorem x_lald (hx : p.tables.exec = Jvm.exec) (hb : c.code = cc) (hK : va_K D vwCl (xT κ) s) (hG : xG D A H0 w H locs) (q0 : Nat) {n : Nat} {f : Nat → Int64} (ha : w[q0]? = some (a, .inl (κ 1, n, .inr (.inl f)))) {i : Int32} {v : Int64} (hv : v = f i.toNatClampNeg) (hin : vp_in i n) (hdg : decode cc pc = .ok (.laload, 1))
    (kk : W p l e R s m args below meth c H locs cells slots Q (F0 m (pc + 1) ls (.long v :: rest))) : W p l e R s m args below meth c H locs cells slots Q (F0 m pc ls (.int i :: .ref a :: rest)) := by
  subst hv
  exact va_lald hx hb hK hG.1 q0 1 ha rfl hin hdg kk
theorem x_zald (hx : p.tables.exec = Jvm.exec) (hb : c.code = cc) (hK : va_K D vwCl (xT κ) s) (hG : xG D A H0 w H locs) (q0 : Nat) {n : Nat} {f : Nat → Int32} (ha : w[q0]? = some (a, .inl (κ 2, n, .inl f))) {i v : Int32} (hv : v = f i.toNatClampNeg) (hin : vp_in i n) (hdg : decode cc pc = .ok (.baload, 1))
    (kk : W p l e R s m args below meth c H locs cells slots Q (F0 m (pc + 1) ls (.int v :: rest))) : W p l e R s m args below meth c H locs cells slots Q (F0 m pc ls (.int i :: .ref a :: rest)) := by
  subst hv
  exact va_zald hx hb hK hG.1 q0 2 ha rfl hin hdg kk
theorem x_iast (hx : p.tables.exec = Jvm.exec) (hb : c.code = cc) (hK : va_K D vwCl (xT κ) s) (hG : xG D A H0 w H locs) (q0 : Nat) {n : Nat} {f : Nat → Int32} (ha : w[q0]? = some (a, .inl (κ 0, n, .inl f))) {i x : Int32} (hw : w.set q0 (a, .inl (κ 0, n, .inl (upd f i.toNatClampNeg x))) = w1) (hin : vp_in i n) (hdg : decode cc pc = .ok (.iastore, 1))
    (kk : ∀ (H1 : Heap) (locs1 : List Loc), xG D A H0 w1 H1 locs1 → W p l e R s m args below meth c H1 locs1 cells slots Q (F0 m (pc + 1) ls rest)) : W p l e R s m args below meth c H locs cells slots Q (F0 m pc ls (.int x :: .int i :: .ref a :: rest)) := by
  subst hw
  exact va_iast hx hb hK hG.1 hG.2.1 hG.2.2 q0 0 ha rfl hin hdg (fun H1 locs1 h1 h2 h3 => kk H1 locs1 ⟨h1, h2, h3⟩)
theorem x_last (hx : p.tables.exec = Jvm.exec) (hb : c.code = cc) (hK : va_K D vwCl (xT κ) s) (hG : xG D A H0 w H locs) (q0 : Nat) {n : Nat} {f : Nat → Int64} (ha : w[q0]? = some (a, .inl (κ 1, n, .inr (.inl f)))) {i : Int32} {x : Int64} (hw : w.set q0 (a, .inl (κ 1, n, .inr (.inl (vp_updL f i.toNatClampNeg x)))) = w1) (hin : vp_in i n) (hdg : decode cc pc = .ok (.lastore, 1))
    (kk : ∀ (H1 : Heap) (locs1 : List Loc), xG D A H0 w1 H1 locs1 → W p l e R s m args below meth c H1 locs1 cells slots Q (F0 m (pc + 1) ls rest)) : W p l e R s m args below meth c H locs cells slots Q (F0 m pc ls (.long x :: .int i :: .ref a :: rest)) := by
  subst hw
  exact va_last hx hb hK hG.1 hG.2.1 hG.2.2 q0 1 ha rfl hin hdg (fun H1 locs1 h1 h2 h3 => kk H1 locs1 ⟨h1, h2, h3⟩)
theorem x_zast (hx : p.tables.exec = Jvm.exec) (hb : c.code = cc) (hK : va_K D vwCl (xT κ) s) (hG : xG D A H0 w H locs) (q0 : Nat) {n : Nat} {f : Nat → Int32} (ha : w[q0]? = some (a, .inl (κ 2, n, .inl f))) {i x : Int32} (hnar : vp_nar .boolean x = x) (hw : w.set q0 (a, .inl (κ 2, n, .inl (upd f i.toNatClampNeg x))) = w1) (hin : vp_in i n) (hdg : decode cc pc = .ok (.bastore, 1))
    (kk : ∀ (H1 : Heap) (locs1 : List Loc), xG D A H0 w1 H1 locs1 → W p l e R s m args below meth c H1 locs1 cells slots Q (F0 m (pc + 1) ls rest)) : W p l e R s m args below meth c H locs cells slots Q (F0 m pc ls (.int x :: .int i :: .ref a :: rest)) := by
  subst hw
  exact va_zast hx hb hK hG.1 hG.2.1 hG.2.2 q0 2 ha rfl hin hdg (fun H1 locs1 h1 h2 h3 => by rw [hnar] at h1 h2; exact kk H1 locs1 ⟨h1, h2, h3⟩)
theorem x_copyi {own : String} {index : Nat} (hx : p.tables.exec = Jvm.exec) (hb : c.code = cc) (hml : c.maxLocals = ls.size) (hown : s.vm.findClass own = some m.cls) (hlink : (Cond.methodLink own index arraycopyName).before args s = true) (hnat : (Cond.native arraycopyName).before args s = true) (hstat : (Cond.static arraycopyName).before args s = true) (hini : (Cond.initialized "java/lang/System").before args s = true)
    (hK : va_K D vwCl (xT κ) s) (hG : xG D A H0 w H locs) (q0 q1 : Nat) {a0 n0 n1 : Nat} {f g : Nat → Int32} (ha0 : w[q0]? = some (a0, .inl (κ 0, n0, .inl f))) (ha1 : w[q1]? = some (a, .inl (κ 0, n1, .inl g))) {n : Int32} (hw : w.set q1 (a, .inl (κ 0, n1, .inl (va_cpy f g 0 0 n.toNatClampNeg))) = w1) (hin : ¬ n < 0 ∧ n.toNatClampNeg ≤ n0 ∧ n.toNatClampNeg ≤ n1)
    (hframes : 1 ≤ R.frames) (hlocals : (rest.map fun v => v.category).sum + (nativeFrameWords "java/lang/System" "arraycopy" 5 + 11) ≤ R.locals) (hdg : decode cc pc = .ok (.invokestatic index, 3))
    (kk : ∀ (H1 : Heap) (locs1 : List Loc), xG D A H0 w1 H1 locs1 → W p l e R s m args below meth c H1 locs1 cells slots Q (F0 m (pc + 3) ls rest)) : W p l e R s m args below meth c H locs cells slots Q (F0 m pc ls (.int n :: .int 0 :: .ref a :: .int 0 :: .ref a0 :: rest)) := by
  subst hw
  have z : (0 : Int32).toNatClampNeg = 0 := by decide
  refine va_copyi hx hb hml hown hlink hnat hstat hini hK hG.1 hG.2.1 hG.2.2 q0 q1 0 0 ha0 ha1 rfl rfl rfl (sp := 0) (dp := 0) (by decide) (by decide) hin.1 (by rw [z]; omega) (by rw [z]; omega) (fun _ _ => rfl) hframes hlocals hdg (fun H1 locs1 h1 h2 h3 => ?_)
  rw [z] at h1 h2
  exact kk H1 locs1 ⟨h1, h2, h3⟩
theorem x_copyl {own : String} {index : Nat} (hx : p.tables.exec = Jvm.exec) (hb : c.code = cc) (hml : c.maxLocals = ls.size) (hown : s.vm.findClass own = some m.cls) (hlink : (Cond.methodLink own index arraycopyName).before args s = true) (hnat : (Cond.native arraycopyName).before args s = true) (hstat : (Cond.static arraycopyName).before args s = true) (hini : (Cond.initialized "java/lang/System").before args s = true)
    (hK : va_K D vwCl (xT κ) s) (hG : xG D A H0 w H locs) (q0 q1 : Nat) {a0 n0 n1 : Nat} {f g : Nat → Int64} (ha0 : w[q0]? = some (a0, .inl (κ 1, n0, .inr (.inl f)))) (ha1 : w[q1]? = some (a, .inl (κ 1, n1, .inr (.inl g)))) {n : Int32} (hw : w.set q1 (a, .inl (κ 1, n1, .inr (.inl (va_cpy f g 0 0 n.toNatClampNeg)))) = w1) (hin : ¬ n < 0 ∧ n.toNatClampNeg ≤ n0 ∧ n.toNatClampNeg ≤ n1)
    (hframes : 1 ≤ R.frames) (hlocals : (rest.map fun v => v.category).sum + (nativeFrameWords "java/lang/System" "arraycopy" 5 + 11) ≤ R.locals) (hdg : decode cc pc = .ok (.invokestatic index, 3))
    (kk : ∀ (H1 : Heap) (locs1 : List Loc), xG D A H0 w1 H1 locs1 → W p l e R s m args below meth c H1 locs1 cells slots Q (F0 m (pc + 3) ls rest)) : W p l e R s m args below meth c H locs cells slots Q (F0 m pc ls (.int n :: .int 0 :: .ref a :: .int 0 :: .ref a0 :: rest)) := by
  subst hw
  have z : (0 : Int32).toNatClampNeg = 0 := by decide
  refine va_copyl hx hb hml hown hlink hnat hstat hini hK hG.1 hG.2.1 hG.2.2 q0 q1 1 1 ha0 ha1 rfl rfl rfl (sp := 0) (dp := 0) (by decide) (by decide) hin.1 (by rw [z]; omega) (by rw [z]; omega) (fun _ _ => rfl) hframes hlocals hdg (fun H1 locs1 h1 h2 h3 => ?_)
  rw [z] at h1 h2
  exact kk H1 locs1 ⟨h1, h2, h3⟩
theorem x_alen (hx : p.tables.exec = Jvm.exec) (hb : c.code = cc) (hK : va_K D vwCl (xT κ) s) (hG : xG D A H0 w H locs) (q0 : Nat) {x : vp_A} (ha : w[q0]? = some (a, .inl (κ 0, x))) {v : Int32} (hv : Int32.ofNat x.1 = v) (hdg : decode cc pc = .ok (.arraylength, 1))
    (kk : W p l e R s m args below meth c H locs cells slots Q (F0 m (pc + 1) ls (.int v :: rest))) : W p l e R s m args below meth c H locs cells slots Q (F0 m pc ls (.ref a :: rest)) :=
  va_alen hx hb hK hG.1 q0 0 ha rfl hv hdg kk
theorem x_iret {A : Nat → Prop} {r r1 : Int32} (hx : p.tables.exec = Jvm.exec) (hb : c.code = cc) (hr : meth.sig.returnType = some .int) (hlocks : meth.locks = false) (hK : va_K D vwCl (xT κ) s) (hG : xG D A s.heap w H locs) (e1 : r = r1) (e2 : w = w1) (hdg : decode cc pc = .ok (.ireturn, 1)) :
    W p l e R s m args below meth c H locs cells slots (MQ below (xQi D κ r1 w1 A) args s cells slots A) (F0 m pc ls [.int r]) := by
  subst e1; subst e2
  exact W.iret (v := r) hx hb hr (fun t ht hW => ⟨⟨r, (), rfl, rfl, by rw [ht]; exact hG.1, va_K.moved hW.alike hK, hG.2.1⟩, hG.2.2.F ht⟩) hG.2.2.2.2 hdg hlocks
theorem x_zret {A : Nat → Prop} {r r1 : Int32} (hx : p.tables.exec = Jvm.exec) (hb : c.code = cc) (hr : meth.sig.returnType = some .boolean) (hlocks : meth.locks = false) (hK : va_K D vwCl (xT κ) s) (hG : xG D A s.heap w H locs) (hn : narrow .boolean (.int r) = .int r) (e1 : r = r1) (e2 : w = w1) (hdg : decode cc pc = .ok (.ireturn, 1)) :
    W p l e R s m args below meth c H locs cells slots (MQ below (xQi D κ r1 w1 A) args s cells slots A) (F0 m pc ls [.int r]) := by
  subst e1; subst e2
  exact W.zret (v := r) hx hb hr hn (fun t ht hW => ⟨⟨r, (), rfl, rfl, by rw [ht]; exact hG.1, va_K.moved hW.alike hK, hG.2.1⟩, hG.2.2.F ht⟩) hG.2.2.2.2 hdg hlocks
theorem x_lret {A : Nat → Prop} {r r1 : Int64} (hx : p.tables.exec = Jvm.exec) (hb : c.code = cc) (hr : meth.sig.returnType = some .long) (hlocks : meth.locks = false) (hK : va_K D vwCl (xT κ) s) (hG : xG D A s.heap w H locs) (e1 : r = r1) (e2 : w = w1) (hdg : decode cc pc = .ok (.lreturn, 1)) :
    W p l e R s m args below meth c H locs cells slots (MQ below (xQl D κ r1 w1 A) args s cells slots A) (F0 m pc ls [.long r]) := by
  subst e1; subst e2
  exact W.lret (v := r) hx hb hr (fun t ht hW => ⟨⟨r, (), rfl, rfl, by rw [ht]; exact hG.1, va_K.moved hW.alike hK, hG.2.1⟩, hG.2.2.F ht⟩) hG.2.2.2.2 hdg hlocks
theorem x_vret {A : Nat → Prop} (hx : p.tables.exec = Jvm.exec) (hb : c.code = cc) (hr : meth.sig.returnType = none) (hlocks : meth.locks = false) (hK : va_K D vwCl (xT κ) s) (hG : xG D A s.heap w H locs) (e2 : w = w1) (hdg : decode cc pc = .ok (.return_, 1)) :
    W p l e R s m args below meth c H locs cells slots (MQ below (xQv D κ w1 A) args s cells slots A) (F0 m pc ls []) := by
  subst e2
  exact W.vret hx hb hr (fun t ht hW => ⟨⟨(), rfl, trivial, by rw [ht]; exact hG.1, va_K.moved hW.alike hK, hG.2.1⟩, hG.2.2.F ht⟩) hG.2.2.2.2 hdg hlocks
variable {y : MethodName} {bytes : ByteArray} {maxL nL n index : Nat} {ret : Option FieldType} {wsy : List Cond} {rm : Room} {Ts : List Cond} {own C : String} {b : Addr} {As st0 : List Value} {pre wc wc1 post : va_W}
theorem x_callVi {r : Int32} (S : CallFix p m c cc nL s args Ts own) (hK : va_K D vwCl (xT κ) s) (hG : xG D A H0 w H locs) (hA : ∀ q : Nat, H0.size ≤ q → A q) (hw : w = pre ++ (wc ++ post)) (hw1 : w1 = pre ++ (wc1 ++ post))
    (hM : Met l y wsy rm (xPc D κ (.ref b :: As) wc H.size) (xQi D κ r wc1 (va_A wc H.size)) 0 0 (va_A wc H.size)) (cw : CallW R s args own C index y bytes maxL ret wsy rm 0 0 n) (q0 ci : Nat) {q : vw_C} {fs : List Value} (hq : wc[q0]? = some (b, .inr (ci, fs))) (hc : vwCl[ci]? = some q) (hC : q.1 = C)
    (hn : As.length = n) (hsz : ls.size = nL) (hst : st0 = As.reverse ++ .ref b :: rest) (hW : (rest.map fun v => v.category).sum ≤ 8) (hdg : decode cc pc = .ok (.invokevirtual index, 3)) (hcs : cells ≤ R.cells ∧ slots ≤ R.slots)
    (kk : ∀ (H1 : Heap) (locs1 : List Loc), xG D A H0 w1 H1 locs1 → W p l e R s m args below meth c H1 locs1 cells slots Q (F0 m (pc + 3) ls (.int r :: rest))) : W p l e R s m args below meth c H locs cells slots Q (F0 m pc ls st0) := by
  obtain ⟨hPc, hDc, hF, hj⟩ := x_frame (wc1 := wc1) hG hA hw
  subst hC
  refine va_calli (va_runV (As := As) (rest := rest) S hM cw ⟨xPc_blind D κ _ wc _, va_recv hK hPc hc hq, fun U hU hW => ⟨rfl, by rw [hU], by rw [hU]; exact hPc, va_K.moved hW.alike hK, hDc⟩⟩ rfl hn hsz hst (lv_room hW) hdg hcs) hG.2.2 (fun q _ h => hF q h) hF (fun r_2 u t H1 locs ht hvm hpost hB hz1 hk1 hS => ?_)
  subst hpost
  obtain ⟨hP1, hK1, hD1⟩ := hB
  rw [ht] at hP1
  obtain ⟨hP2, hD2⟩ := hj H1 hk1 hP1 hD1
  exact kk H1 locs (by rw [hw1]; exact ⟨hP2, hD2, hS⟩)
theorem x_callVl {r : Int64} (S : CallFix p m c cc nL s args Ts own) (hK : va_K D vwCl (xT κ) s) (hG : xG D A H0 w H locs) (hA : ∀ q : Nat, H0.size ≤ q → A q) (hw : w = pre ++ (wc ++ post)) (hw1 : w1 = pre ++ (wc1 ++ post))
    (hM : Met l y wsy rm (xPc D κ (.ref b :: As) wc H.size) (xQl D κ r wc1 (va_A wc H.size)) 0 0 (va_A wc H.size)) (cw : CallW R s args own C index y bytes maxL ret wsy rm 0 0 n) (q0 ci : Nat) {q : vw_C} {fs : List Value} (hq : wc[q0]? = some (b, .inr (ci, fs))) (hc : vwCl[ci]? = some q) (hC : q.1 = C)
    (hn : As.length = n) (hsz : ls.size = nL) (hst : st0 = As.reverse ++ .ref b :: rest) (hW : (rest.map fun v => v.category).sum ≤ 8) (hdg : decode cc pc = .ok (.invokevirtual index, 3)) (hcs : cells ≤ R.cells ∧ slots ≤ R.slots)
    (kk : ∀ (H1 : Heap) (locs1 : List Loc), xG D A H0 w1 H1 locs1 → W p l e R s m args below meth c H1 locs1 cells slots Q (F0 m (pc + 3) ls (.long r :: rest))) : W p l e R s m args below meth c H locs cells slots Q (F0 m pc ls st0) := by
  obtain ⟨hPc, hDc, hF, hj⟩ := x_frame (wc1 := wc1) hG hA hw
  subst hC
  refine va_calll (va_runV (As := As) (rest := rest) S hM cw ⟨xPc_blind D κ _ wc _, va_recv hK hPc hc hq, fun U hU hW => ⟨rfl, by rw [hU], by rw [hU]; exact hPc, va_K.moved hW.alike hK, hDc⟩⟩ rfl hn hsz hst (lv_room hW) hdg hcs) hG.2.2 (fun q _ h => hF q h) hF (fun r_2 u t H1 locs ht hvm hpost hB hz1 hk1 hS => ?_)
  subst hpost
  obtain ⟨hP1, hK1, hD1⟩ := hB
  rw [ht] at hP1
  obtain ⟨hP2, hD2⟩ := hj H1 hk1 hP1 hD1
  exact kk H1 locs (by rw [hw1]; exact ⟨hP2, hD2, hS⟩)
theorem x_callVv (S : CallFix p m c cc nL s args Ts own) (hK : va_K D vwCl (xT κ) s) (hG : xG D A H0 w H locs) (hA : ∀ q : Nat, H0.size ≤ q → A q) (hw : w = pre ++ (wc ++ post)) (hw1 : w1 = pre ++ (wc1 ++ post))
    (hM : Met l y wsy rm (xPc D κ (.ref b :: As) wc H.size) (xQv D κ wc1 (va_A wc H.size)) 0 0 (va_A wc H.size)) (cw : CallW R s args own C index y bytes maxL ret wsy rm 0 0 n) (q0 ci : Nat) {q : vw_C} {fs : List Value} (hq : wc[q0]? = some (b, .inr (ci, fs))) (hc : vwCl[ci]? = some q) (hC : q.1 = C)
    (hn : As.length = n) (hsz : ls.size = nL) (hst : st0 = As.reverse ++ .ref b :: rest) (hW : (rest.map fun v => v.category).sum ≤ 8) (hdg : decode cc pc = .ok (.invokevirtual index, 3)) (hcs : cells ≤ R.cells ∧ slots ≤ R.slots)
    (kk : ∀ (H1 : Heap) (locs1 : List Loc), xG D A H0 w1 H1 locs1 → W p l e R s m args below meth c H1 locs1 cells slots Q (F0 m (pc + 3) ls rest)) : W p l e R s m args below meth c H locs cells slots Q (F0 m pc ls st0) := by
  obtain ⟨hPc, hDc, hF, hj⟩ := x_frame (wc1 := wc1) hG hA hw
  subst hC
  refine va_callv (va_runV (As := As) (rest := rest) S hM cw ⟨xPc_blind D κ _ wc _, va_recv hK hPc hc hq, fun U hU hW => ⟨rfl, by rw [hU], by rw [hU]; exact hPc, va_K.moved hW.alike hK, hDc⟩⟩ rfl hn hsz hst (lv_room hW) hdg hcs) hG.2.2 (fun q _ h => hF q h) hF (fun u t H1 locs ht hvm hpost hB hz1 hk1 hS => ?_)
  obtain ⟨hP1, hK1, hD1⟩ := hB
  rw [ht] at hP1
  obtain ⟨hP2, hD2⟩ := hj H1 hk1 hP1 hD1
  exact kk H1 locs (by rw [hw1]; exact ⟨hP2, hD2, hS⟩)
theorem x_callSi {r : Int32} (S : CallFix p m c cc nL s args Ts own) (hK : va_K D vwCl (xT κ) s) (hG : xG D A H0 w H locs) (hA : ∀ q : Nat, H0.size ≤ q → A q) (hw : w = pre ++ (wc ++ post)) (hw1 : w1 = pre ++ (wc1 ++ post))
    (hM : Met l y wsy rm (xPc D κ As wc H.size) (xQi D κ r wc1 (va_A wc H.size)) 0 0 (va_A wc H.size)) (cw : CallB R s args own index y bytes maxL ret wsy rm 0 0 n ∧ (Cond.static y).before args s = true)
    (hn : As.length = n) (hsz : ls.size = nL) (hst : st0 = As.reverse ++ rest) (hW : (rest.map fun v => v.category).sum ≤ 8) (hdg : decode cc pc = .ok (.invokestatic index, 3)) (hcs : cells ≤ R.cells ∧ slots ≤ R.slots)
    (kk : ∀ (H1 : Heap) (locs1 : List Loc), xG D A H0 w1 H1 locs1 → W p l e R s m args below meth c H1 locs1 cells slots Q (F0 m (pc + 3) ls (.int r :: rest))) : W p l e R s m args below meth c H locs cells slots Q (F0 m pc ls st0) := by
  obtain ⟨hPc, hDc, hF, hj⟩ := x_frame (wc1 := wc1) hG hA hw
  refine va_calli (va_runS (As := As) (rest := rest) S hM cw ⟨xPc_blind D κ _ wc _, fun U hU hW => ⟨rfl, by rw [hU], by rw [hU]; exact hPc, va_K.moved hW.alike hK, hDc⟩⟩ rfl hn hsz hst (lv_room hW) hdg hcs) hG.2.2 (fun q _ h => hF q h) hF (fun r_2 u t H1 locs ht hvm hpost hB hz1 hk1 hS => ?_)
  subst hpost
  obtain ⟨hP1, hK1, hD1⟩ := hB
  rw [ht] at hP1
  obtain ⟨hP2, hD2⟩ := hj H1 hk1 hP1 hD1
  exact kk H1 locs (by rw [hw1]; exact ⟨hP2, hD2, hS⟩)
theorem x_callSv (S : CallFix p m c cc nL s args Ts own) (hK : va_K D vwCl (xT κ) s) (hG : xG D A H0 w H locs) (hA : ∀ q : Nat, H0.size ≤ q → A q) (hw : w = pre ++ (wc ++ post)) (hw1 : w1 = pre ++ (wc1 ++ post))
    (hM : Met l y wsy rm (xPc D κ As wc H.size) (xQv D κ wc1 (va_A wc H.size)) 0 0 (va_A wc H.size)) (cw : CallB R s args own index y bytes maxL ret wsy rm 0 0 n ∧ (Cond.static y).before args s = true)
    (hn : As.length = n) (hsz : ls.size = nL) (hst : st0 = As.reverse ++ rest) (hW : (rest.map fun v => v.category).sum ≤ 8) (hdg : decode cc pc = .ok (.invokestatic index, 3)) (hcs : cells ≤ R.cells ∧ slots ≤ R.slots)
    (kk : ∀ (H1 : Heap) (locs1 : List Loc), xG D A H0 w1 H1 locs1 → W p l e R s m args below meth c H1 locs1 cells slots Q (F0 m (pc + 3) ls rest)) : W p l e R s m args below meth c H locs cells slots Q (F0 m pc ls st0) := by
  obtain ⟨hPc, hDc, hF, hj⟩ := x_frame (wc1 := wc1) hG hA hw
  refine va_callv (va_runS (As := As) (rest := rest) S hM cw ⟨xPc_blind D κ _ wc _, fun U hU hW => ⟨rfl, by rw [hU], by rw [hU]; exact hPc, va_K.moved hW.alike hK, hDc⟩⟩ rfl hn hsz hst (lv_room hW) hdg hcs) hG.2.2 (fun q _ h => hF q h) hF (fun u t H1 locs ht hvm hpost hB hz1 hk1 hS => ?_)
  obtain ⟨hP1, hK1, hD1⟩ := hB
  rw [ht] at hP1
  obtain ⟨hP2, hD2⟩ := hj H1 hk1 hP1 hD1
  exact kk H1 locs (by rw [hw1]; exact ⟨hP2, hD2, hS⟩)
end XR
theorem x_sw {x : Int32} {k : Nat} (hk : k < 100) (h : ∀ j : Nat, j ≤ k → ¬ x = nI j) : x.toInt < 0 ∨ (k : Int) < x.toInt := by
  rcases Int.lt_or_le x.toInt 0 with q | q
  · exact Or.inl q
  · refine Or.inr (Int.lt_of_not_ge fun q2 => ?_)
    obtain ⟨j, hj⟩ := Int.eq_ofNat_of_zero_le q
    refine h j (by omega) ?_
    apply Int32.toInt_inj.mp
    rw [hj, nI_toInt (by omega)]

