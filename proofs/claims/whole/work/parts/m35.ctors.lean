/-! rows for the methods that make cells -/
theorem x_ofWG {l : Launch} {D : va_G} {κ : Nat → ClassId} {y : MethodName} {wsy ws' : List Cond} {rm : Room} {cc : ByteArray} {maxL mc ms : Nat} {ret : Option FieldType} {av : List Value} {w : va_W} {sz : Nat} {X : State → Prop} {Qf : (Nat → Prop) → Array Value → State → Outcome → State → Prop}
    (hy : plainName y.cls = true) (hw : wsy = Cond.code y cc maxL ret :: ws') (hlen : (lg_sl av).length ≤ maxL)
    (body : ∀ (p : Program) (e : Env) (s : State) (m : MethodId) (below : List Frame) (meth : Method) (c : Code), p.tables.exec = Jvm.exec → c.code = cc → meth.sig.returnType = ret → meth.locks = false → c.maxLocals = maxL → meth.name = y.name → s.vm.findClass y.cls = some m.cls → (∀ w ∈ wsy, w.before av.toArray s = true) → va_K D vwCl (xT κ) s → X s →
      ∀ A : Nat → Prop, (∀ q : Nat, s.heap.size ≤ q → A q) → ∀ (H : Heap) (locs : List Loc), xG D A s.heap w H locs → ∀ ls : Array Slot, lv_has ls maxL (lv_args 0 av) → W p l e rm s m av.toArray below meth c H locs 0 0 (MQ below (Qf A) av.toArray s mc ms A) (F0 m 0 ls [])) :
    Met l y wsy rm (fun a U => xPc D κ av w sz a U ∧ X U) (Qf (va_A w sz)) mc ms (va_A w sz) := by
  refine Met.ofW (cc := cc) (maxL := maxL) (ret := ret) hy hw ?_
  intro p e s m args below meth c s₁ B hml hv
  obtain ⟨⟨rfl, hsz, hP, hK, hD0⟩, hX⟩ := hv
  subst hsz
  have hl := lv_entry av hlen
  rw [lg_entry_eq]
  exact body p e s m below meth c B.exec B.bytes B.returns B.notSynchronized hml (name_of_methodNamed B.named B.method).1 (findClass_of_methodNamed B.named) (atoms_spec (ws := wsy) B.pre) hK hX _ (fun q h => Or.inr h) _ _ ⟨hP, hD0.self, va_S.rf⟩ _ hl
theorem xG_sub {D : va_G} {A : Nat → Prop} {H0 H : Heap} {w w' : va_W} {locs : List Loc} (hG : xG D A H0 w H locs) (is : List Nat) (h1 : is.filterMap (fun i => w[i]?) = w') (hn : va_nd is = true) (h2 : is.map (fun i => w[i]?) = w'.map some) : xG D A H0 w' H locs := ⟨hG.1.sub is h1, hG.2.1.sub is hn h2, hG.2.2⟩
theorem xG_perm {D : va_G} {A : Nat → Prop} {H0 H : Heap} {w w' : va_W} {locs : List Loc} (hp : w.Perm w') (hG : xG D A H0 w H locs) : xG D A H0 w' H locs := by
  obtain ⟨hP, hD, hS⟩ := hG
  have nd : w.Pairwise (fun p q => p.1 ≠ q.1) := List.pairwise_iff_getElem.mpr (fun i j hi hj hij e => by
    have := hD.1 i j w[i] w[j] (List.getElem?_eq_getElem hi) (List.getElem?_eq_getElem hj) e
    omega)
  have nd' : w'.Pairwise (fun p q => p.1 ≠ q.1) := (List.Perm.pairwise_iff (R := fun p q => p.1 ≠ q.1) (fun h => Ne.symm h) hp).mp nd
  refine ⟨fun k q hk => ?_, ⟨fun i j p q hi hj e => ?_, fun k q hk => ?_⟩, hS⟩
  · obtain ⟨i, hi⟩ := List.getElem?_of_mem (hp.mem_iff.mpr (List.mem_of_getElem? hk))
    exact hP i q hi
  · obtain ⟨hil, rfl⟩ := List.getElem?_eq_some_iff.mp hi
    obtain ⟨hjl, rfl⟩ := List.getElem?_eq_some_iff.mp hj
    rcases Nat.lt_trichotomy i j with h | h | h
    · exact absurd e (List.pairwise_iff_getElem.mp nd' i j hil hjl h)
    · exact h
    · exact absurd e.symm (List.pairwise_iff_getElem.mp nd' j i hjl hil h)
  · obtain ⟨i, hi⟩ := List.getElem?_of_mem (hp.mem_iff.mpr (List.mem_of_getElem? hk))
    exact hD.2 i q hi
section XN
variable {p : Program} {l : Launch} {e : Env} {R : Room} {s : State} {m : MethodId} {args : Array Value} {below : List Frame} {meth : Method} {c : Code} {H : Heap} {locs : List Loc} {cells slots : Nat} {Q : State → Prop}
variable {cc : ByteArray} {pc : Nat} {ls : Array Slot} {rest : List Value} {D : va_G} {κ : Nat → ClassId} {A : Nat → Prop} {a : Nat} {w w1 : va_W} {H0 : Heap}
theorem x_newai (hx : p.tables.exec = Jvm.exec) (hb : c.code = cc) (harr : (Cond.arrayClass .int).before args s = true) (hK : va_K D vwCl (xT κ) s) (hG : xG D A H0 w H locs) (hA : ∀ q : Nat, H0.size ≤ q → A q) {n : Int32} {N : Nat} (hn : ¬ n < 0) (hN : n.toNatClampNeg = N) (hby : N * componentBytes .int ≤ 536870912) (hcells : cells + 1 ≤ R.cells) (hslots : slots + N ≤ R.slots) (hdg : decode cc pc = .ok (.newarray .int, 2))
    (kk : ∀ (q : Nat) (H1 : Heap), xG D A H0 (w ++ [(q, .inl (κ 0, N, .inl (fun _ => 0)))]) H1 locs → W p l e R s m args below meth c H1 locs (cells + 1) (slots + N) Q (F0 m (pc + 2) ls (.ref q :: rest))) : W p l e R s m args below meth c H locs cells slots Q (F0 m pc ls (.int n :: rest)) := by
  refine va_newa (atype := .int) (ty := .int) (a0 := (N, .inl (fun _ => 0))) hx hb harr rfl hK hG.1 hG.2.1 hG.2.2 hA (fun _ => rfl) hn hN hby hcells hslots hdg (fun q cA H1 h1 h2 h3 h4 => ?_)
  have e1 : cA = κ 0 := Option.some.inj ((h1.2 5 (cA, .int) rfl).2.symm.trans (hK.2 0 (κ 0, .int) rfl).2)
  subst e1
  exact kk q H1 ⟨h2, h3, h4⟩
theorem x_newal (hx : p.tables.exec = Jvm.exec) (hb : c.code = cc) (harr : (Cond.arrayClass .long).before args s = true) (hK : va_K D vwCl (xT κ) s) (hG : xG D A H0 w H locs) (hA : ∀ q : Nat, H0.size ≤ q → A q) {n : Int32} {N : Nat} (hn : ¬ n < 0) (hN : n.toNatClampNeg = N) (hby : N * componentBytes .long ≤ 536870912) (hcells : cells + 1 ≤ R.cells) (hslots : slots + N ≤ R.slots) (hdg : decode cc pc = .ok (.newarray .long, 2))
    (kk : ∀ (q : Nat) (H1 : Heap), xG D A H0 (w ++ [(q, .inl (κ 1, N, .inr (.inl (fun _ => 0))))]) H1 locs → W p l e R s m args below meth c H1 locs (cells + 1) (slots + N) Q (F0 m (pc + 2) ls (.ref q :: rest))) : W p l e R s m args below meth c H locs cells slots Q (F0 m pc ls (.int n :: rest)) := by
  refine va_newa (atype := .long) (ty := .long) (a0 := (N, .inr (.inl (fun _ => 0)))) hx hb harr rfl hK hG.1 hG.2.1 hG.2.2 hA (fun _ => rfl) hn hN hby hcells hslots hdg (fun q cA H1 h1 h2 h3 h4 => ?_)
  have e1 : cA = κ 1 := Option.some.inj ((h1.2 5 (cA, .long) rfl).2.symm.trans (hK.2 1 (κ 1, .long) rfl).2)
  subst e1
  exact kk q H1 ⟨h2, h3, h4⟩
theorem x_newaz (hx : p.tables.exec = Jvm.exec) (hb : c.code = cc) (harr : (Cond.arrayClass .boolean).before args s = true) (hK : va_K D vwCl (xT κ) s) (hG : xG D A H0 w H locs) (hA : ∀ q : Nat, H0.size ≤ q → A q) {n : Int32} {N : Nat} (hn : ¬ n < 0) (hN : n.toNatClampNeg = N) (hby : N * componentBytes .boolean ≤ 536870912) (hcells : cells + 1 ≤ R.cells) (hslots : slots + N ≤ R.slots) (hdg : decode cc pc = .ok (.newarray .boolean, 2))
    (kk : ∀ (q : Nat) (H1 : Heap), xG D A H0 (w ++ [(q, .inl (κ 2, N, .inl (fun _ => 0)))]) H1 locs → W p l e R s m args below meth c H1 locs (cells + 1) (slots + N) Q (F0 m (pc + 2) ls (.ref q :: rest))) : W p l e R s m args below meth c H locs cells slots Q (F0 m pc ls (.int n :: rest)) := by
  refine va_newa (atype := .boolean) (ty := .boolean) (a0 := (N, .inl (fun _ => 0))) hx hb harr rfl hK hG.1 hG.2.1 hG.2.2 hA (fun _ => rfl) hn hN hby hcells hslots hdg (fun q cA H1 h1 h2 h3 h4 => ?_)
  have e1 : cA = κ 2 := Option.some.inj ((h1.2 5 (cA, .boolean) rfl).2.symm.trans (hK.2 2 (κ 2, .boolean) rfl).2)
  subst e1
  exact kk q H1 ⟨h2, h3, h4⟩
theorem x_newqH {own : String} {index : Nat} (hx : p.tables.exec = Jvm.exec) (hb : c.code = cc) (hown : s.vm.findClass own = some m.cls) (hcl : (Cond.classLink own index "SpineDesks$Hall").before args s = true) (hov : va_AO "SpineDesks$Hall" s) (hK : va_K D vwCl (xT κ) s) (hG : xG D A H0 w H locs) (hA : ∀ q : Nat, H0.size ≤ q → A q) {n : Int32} {N : Nat} (hn : ¬ n < 0) (hN : n.toNatClampNeg = N) (hby : N * 4 ≤ 536870912) (hcells : cells + 1 ≤ R.cells) (hslots : slots + N ≤ R.slots) (hdg : decode cc pc = .ok (.anewarray index, 3))
    (kk : ∀ (q : Nat) (H1 : Heap), xG D A H0 (w ++ [(q, .inl (κ 3, N, .inr (.inr (.inr (.inr (fun _ => none))))))]) H1 locs → W p l e R s m args below meth c H1 locs (cells + 1) (slots + N) Q (F0 m (pc + 3) ls (.ref q :: rest))) : W p l e R s m args below meth c H locs cells slots Q (F0 m pc ls (.int n :: rest)) := by
  refine va_newq hx hb hown hcl hov hK hG.1 hG.2.1 hG.2.2 hA hn hN hby hcells hslots hdg (fun q cA H1 h1 h2 h3 h4 => ?_)
  obtain ⟨_, _, _, _, _, g1⟩ := (h1.2 5 (cA, .object "SpineDesks$Hall") rfl).2
  obtain ⟨_, _, _, _, _, g2⟩ := (hK.2 3 (κ 3, .object "SpineDesks$Hall") rfl).2
  have e1 : cA = κ 3 := Option.some.inj (g1.symm.trans g2)
  subst e1
  exact kk q H1 ⟨h2, h3, h4⟩
theorem x_newqN {own : String} {index : Nat} (hx : p.tables.exec = Jvm.exec) (hb : c.code = cc) (hown : s.vm.findClass own = some m.cls) (hcl : (Cond.classLink own index "SpineDesks$Net").before args s = true) (hov : va_AO "SpineDesks$Net" s) (hK : va_K D vwCl (xT κ) s) (hG : xG D A H0 w H locs) (hA : ∀ q : Nat, H0.size ≤ q → A q) {n : Int32} {N : Nat} (hn : ¬ n < 0) (hN : n.toNatClampNeg = N) (hby : N * 4 ≤ 536870912) (hcells : cells + 1 ≤ R.cells) (hslots : slots + N ≤ R.slots) (hdg : decode cc pc = .ok (.anewarray index, 3))
    (kk : ∀ (q : Nat) (H1 : Heap), xG D A H0 (w ++ [(q, .inl (κ 4, N, .inr (.inr (.inr (.inr (fun _ => none))))))]) H1 locs → W p l e R s m args below meth c H1 locs (cells + 1) (slots + N) Q (F0 m (pc + 3) ls (.ref q :: rest))) : W p l e R s m args below meth c H locs cells slots Q (F0 m pc ls (.int n :: rest)) := by
  refine va_newq hx hb hown hcl hov hK hG.1 hG.2.1 hG.2.2 hA hn hN hby hcells hslots hdg (fun q cA H1 h1 h2 h3 h4 => ?_)
  obtain ⟨_, _, _, _, _, g1⟩ := (h1.2 5 (cA, .object "SpineDesks$Net") rfl).2
  obtain ⟨_, _, _, _, _, g2⟩ := (hK.2 4 (κ 4, .object "SpineDesks$Net") rfl).2
  have e1 : cA = κ 4 := Option.some.inj (g1.symm.trans g2)
  subst e1
  exact kk q H1 ⟨h2, h3, h4⟩
theorem x_putF {own C : String} {T : u_T} {N ci index : Nat} {Ts : List Cond} (hx : p.tables.exec = Jvm.exec) (hb : c.code = cc) (hts : ∀ w ∈ Ts, w.before args s = true) (hin : ∀ w ∈ u_ws C T N, w ∈ Ts) (ty0 : Nat → FieldType) (hty : ∀ k, k < N → parseFieldDescriptor (T k).2.2.1 = some (ty0 k)) (hnm : ∀ a, a < N → ∀ b, b < N → a ≠ b → (T a).2.1 ≠ (T b).2.1) (hown : s.vm.findClass own = some m.cls) (hK : va_K D vwCl (xT κ) s) (hG : xG D A H0 w H locs) (q0 : Nat) {fs : List Value} (he : w[q0]? = some (a, .inr (ci, fs))) (hc : vwCl[ci]? = some (C, T, N)) (k : Nat) (hk : k < N) (hlink : (Cond.fieldLink own index (T k).1 (T k).2.1 (T k).2.2.1).before args s = true) (hfin : (T k).2.2.2 = true) (hin2 : meth.name = "<init>") (hdecl : (T k).1 = own) {ty : FieldType} {v : Value} (hd : ty0 k = ty) (hn : narrow ty v = v) (hfit : fits ty v = true) (hl : k < fs.length) (hw : w.set q0 (a, .inr (ci, fs.set k v)) = w1)
    (hdg : decode cc pc = .ok (.putfield index, 3)) (kk : ∀ (H1 : Heap) (locs1 : List Loc), xG D A H0 w1 H1 locs1 → W p l e R s m args below meth c H1 locs1 cells slots Q (F0 m (pc + 3) ls rest)) : W p l e R s m args below meth c H locs cells slots Q (F0 m pc ls (v :: .ref a :: rest)) := by
  subst hw
  exact va_putF hx hb hts hin ty0 hty hnm hown hK hG.1 hG.2.1 hG.2.2 q0 he hc k hk hlink (fun _ h9 => h9) hfin hin2 hdecl (by rw [← hd]; exact hty k hk) hn hfit hl hdg (fun H1 locs1 h1 h2 h3 => kk H1 locs1 ⟨h1, h2, h3⟩)
theorem x_new {own C : String} {T : u_T} {N ci index : Nat} {Ts : List Cond} (hx : p.tables.exec = Jvm.exec) (hb : c.code = cc) (hts : ∀ w ∈ Ts, w.before args s = true) (hin : ∀ w ∈ u_ws C T N, w ∈ Ts) (ty : Nat → FieldType) (hty : ∀ k, k < N → parseFieldDescriptor (T k).2.2.1 = some (ty k)) (hown : s.vm.findClass own = some m.cls) (hcl : (Cond.classLink own index C).before args s = true) (hinst : (Cond.instantiable C N).before args s = true) (hini : (Cond.initialized C).before args s = true)
    (hK : va_K D vwCl (xT κ) s) (hG : xG D A H0 w H locs) (hA : ∀ q : Nat, H0.size ≤ q → A q) (hc : vwCl[ci]? = some (C, T, N)) {fs : List Value} (hfs : (List.range N).all (fun j => decide (defaultValue (ty j) = vp_V fs j)) = true) (hcells : cells + 1 ≤ R.cells) (hslots : slots + N ≤ R.slots) (hdg : decode cc pc = .ok (.new index, 3))
    (kk : ∀ (q : Nat) (H1 : Heap), xG D A H0 (w ++ [(q, .inr (ci, fs))]) H1 locs → W p l e R s m args below meth c H1 locs (cells + 1) (slots + N) Q (F0 m (pc + 3) ls (.ref q :: rest))) : W p l e R s m args below meth c H locs cells slots Q (F0 m pc ls rest) :=
  va_new hx hb hts hin ty hty hown hcl hinst hini hK hG.1 hG.2.1 hG.2.2 hA hc (fun j hj => of_decide_eq_true (List.all_eq_true.mp hfs j (List.mem_range.mpr hj))) hcells hslots hdg (fun q H1 h1 h2 h3 => kk q H1 ⟨h1, h2, h3⟩)
/-- a constructor is called: its cell becomes its world, at addresses of its own choice -/
theorem x_callI {S : Type} {y : MethodName} {bytes : ByteArray} {maxL nL n index mc ms : Nat} {wsy : List Cond} {rm : Room} {Ts : List Cond} {own : String} {b : Addr} {As st0 : List Value} {pre wc post : va_W} {X : State → Prop} {post1 : S → Prop} {F : S → va_W}
    (Sx : CallFix p m c cc nL s args Ts own) (hK : va_K D vwCl (xT κ) s) (hX : ∀ U : State, s.vm.Alike U.vm → X U) (hXb : ∀ (U : State) (g : JFrame) (mk : MethodId) (a : Array Value), X U → X (U.calling g mk a)) (hG : xG D A H0 w H locs) (hA : ∀ q : Nat, H0.size ≤ q → A q) (hw : w = pre ++ (wc ++ post))
    (hM : Met l y wsy rm (fun a U => xPc D κ (.ref b :: As) wc H.size a U ∧ X U) (va_Qv post1 (fun u t => va_P D vwCl (F u) t.heap ∧ va_K D vwCl (xT κ) t ∧ va_D (va_A wc H.size) (F u)) (va_A wc H.size)) mc ms (va_A wc H.size)) (cw : CallB R s args own index y bytes maxL none wsy rm mc ms n ∧ y.name = "<init>" ∧ (Cond.instanceMethod y).before args s = true)
    (hn : As.length = n) (hsz : ls.size = nL) (hst : st0 = As.reverse ++ .ref b :: rest) (hW : (rest.map fun v => v.category).sum ≤ 8) (hdg : decode cc pc = .ok (.invokespecial index, 3)) (hcs : cells + mc ≤ R.cells ∧ slots + ms ≤ R.slots)
    (kk : ∀ (u : S) (H1 : Heap) (locs1 : List Loc), post1 u → xG D A H0 (pre ++ (F u ++ post)) H1 locs1 → W p l e R s m args below meth c H1 locs1 (cells + mc) (slots + ms) Q (F0 m (pc + 3) ls rest)) : W p l e R s m args below meth c H locs cells slots Q (F0 m pc ls st0) := by
  obtain ⟨hPc, hDc, hF, -⟩ := x_frame (wc1 := wc) hG hA hw
  refine va_callv (va_runI (As := As) (rest := rest) Sx hM cw ⟨fun a U g mk q => ⟨xPc_blind D κ _ wc _ a U g mk q.1, hXb U g mk a q.2⟩, fun U hU hW => ⟨⟨rfl, by rw [hU], by rw [hU]; exact hPc, va_K.moved hW.alike hK, hDc⟩, hX U hW.alike⟩⟩ rfl hn hsz hst (lv_room hW) hdg hcs) hG.2.2 (fun q _ h => hF q h) hF (fun u t H1 locs ht hvm hpost hB hz1 hk1 hS => ?_)
  obtain ⟨hP1, hK1, hD1⟩ := hB
  rw [ht] at hP1
  obtain ⟨-, -, -, hj⟩ := x_frame (wc1 := F u) hG hA hw
  obtain ⟨hP2, hD2⟩ := hj H1 hk1 hP1 hD1
  exact kk u H1 locs hpost ⟨hP2, hD2, hS⟩
end XN

/-- a row filled with one number -/
def fillF (N : Nat) (v : Int32) (f : Nat → Int32) : Nat → Int32 := fun j => if j < N then v else f j
theorem fillF_0 (v : Int32) (f : Nat → Int32) : fillF 0 v f = f := by funext j; simp [fillF]
theorem fillF_s (i : Nat) (v : Int32) (f : Nat → Int32) : upd (fillF i v f) i v = fillF (i + 1) v f := by
  funext j
  unfold upd fillF
  by_cases h : j = i
  · subst h; simp
  · rw [if_neg h]
    by_cases h2 : j < i
    · rw [if_pos h2, if_pos (by omega)]
    · rw [if_neg h2, if_neg (by omega)]
set_option maxRecDepth 100000 in
set_option maxHeartbeats 4000000 in
theorem c_fill (l : Launch) (D : va_G) (κ : Nat → ClassId) (q N : Nat) (hN : N < 5000) (sz : Nat) (p1 : Int32) (f : Nat → Int32) : Met l yJ7_fill_53178 wsJ7_fill_53178 ({ frames := 0, cells := 0, slots := 0, locals := 0 } : Room) (xPc D κ [.ref q, .int p1] [(q, .inl (κ 0, N, .inl f))] sz) (xQv D κ [(q, .inl (κ 0, N, .inl (fillF N p1 f)))] (va_A [(q, .inl (κ 0, N, .inl f))] sz)) 0 0 (va_A [(q, .inl (κ 0, N, .inl f))] sz) := by
  refine x_ofW (cc := cJ7_fill_53178) (maxL := 4) (ret := none) (Qf := fun A => xQv D κ [(q, .inl (κ 0, N, .inl (fillF N p1 f)))] A) (by decide) rfl (Nat.le_of_ble_eq_true rfl) ?_
  intro p e s m below meth c hx hb hr hlk hml hown hts hK A hA H locs hG ls hl
  have hown : s.vm.findClass RJ7 = some m.cls := hown
  have hl : lv_has ls 4 [(0, .ref q), (1, .int p1)] := hl
  have L5 : ∀ (n i : Nat), i ≤ N → N - i < n → ∀ (H : Heap) (locs : List Loc) (ls : Array Slot), xG D A s.heap [(q, .inl (κ 0, N, .inl (fillF i p1 f)))] H locs → lv_has ls 4 [(0, .ref q), (1, .int p1), (2, .int (nI i)), (3, .int (nI N))] → W p l e ({ frames := 0, cells := 0, slots := 0, locals := 0 } : Room) s m (([.ref q, .int p1] : List Value).toArray) below meth c H locs 0 0 (MQ below (xQv D κ [(q, .inl (κ 0, N, .inl (fillF N p1 f)))] A) (([.ref q, .int p1] : List Value).toArray) s 0 0 A) (F0 m 5 ls []) := by
    intro n
    induction n with
    | zero => intro i h1 h2; exact absurd h2 (by omega)
    | succ n ih =>
      intro i hi hn H locs ls hG hl
      refine lv_iload_n hx hb dJ7_fill_53178_5 rfl (lv_at hl 2 rfl) ?_
      refine lv_iload_n hx hb dJ7_fill_53178_6 rfl (lv_at hl 3 rfl) ?_
      refine lv_icmp_ge (tgt := 20) hx hb dJ7_fill_53178_7 (by decide) (fun c1 => ?_) (fun c1 => ?_)
      · have e1 : i = N := by
          have := (nI_leI (by omega) (by omega)).mp c1
          omega
        subst e1
        exact x_vret hx hb hr hlk hK hG rfl dJ7_fill_53178_20
      · have e1 : i < N := Nat.lt_of_not_le fun q => c1 ((nI_leI (by omega) (by omega)).mpr q)
        refine lv_aload_n hx hb dJ7_fill_53178_10 rfl (lv_at hl 0 rfl) ?_
        refine lv_iload_n hx hb dJ7_fill_53178_11 rfl (lv_at hl 2 rfl) ?_
        refine lv_iload_n hx hb dJ7_fill_53178_12 rfl (lv_at hl 1 rfl) ?_
        refine x_iast hx hb hK hG 0 rfl (w1 := [(q, .inl (κ 0, N, .inl (fillF (i + 1) p1 f)))]) (by rw [nI_clamp (by omega), fillF_s]; rfl) (vp_in_nI e1 (by omega)) dJ7_fill_53178_13 (fun H locs hG => ?_)
        refine lv_iinc (v := nI (i + 1)) (lv' := [(2, .int (nI (i + 1))), (0, .ref q), (1, .int p1), (3, .int (nI N))]) hx hb dJ7_fill_53178_14 hl (k := 2) rfl (by rw [nI_succ]; rfl) (by decide) rfl (fun ls hl => ?_)
        refine lv_goto (tgt := 5) hx hb dJ7_fill_53178_17 (by decide) ?_
        exact ih (i + 1) e1 (by omega) H locs ls hG (lv_sub hl [1, 2, 0, 3] rfl)
  refine lv_iconst (v := 0) hx hb dJ7_fill_53178_0 (by decide) ?_
  refine lv_istore_n (lv' := [(2, .int 0), (0, .ref q), (1, .int p1)]) hx hb dJ7_fill_53178_1 rfl hl (by decide) rfl (fun ls hl => ?_)
  refine lv_aload_n hx hb dJ7_fill_53178_2 rfl (lv_at hl 1 rfl) ?_
  refine x_alen hx hb hK hG 0 rfl (v := nI N) rfl dJ7_fill_53178_3 ?_
  refine lv_istore_n (lv' := [(3, .int (nI N)), (2, .int 0), (0, .ref q), (1, .int p1)]) hx hb dJ7_fill_53178_4 rfl hl (by decide) rfl (fun ls hl => ?_)
  exact L5 (N + 1) 0 (Nat.zero_le _) (by omega) H locs ls (by rw [fillF_0]; exact hG) (lv_sub hl [2, 3, 1, 0] rfl)

def HZ : HS := (0, 0, 0, 0, 0, fillF 6 (-1) (fun _ => 0), fun _ => 0, fun _ => 0, fun _ => 0, fun _ => 0, fun _ => 0, fun _ => 0, fun _ => 0, fun _ => 0, fun _ => 0, fun _ => 0, fun _ => 0)
def NZ : NS := (fillF 20 (-1) (fun _ => 0), fun _ => 0, fun _ => 0)
def RZ : RS := (fun _ => 0, fun _ => 0, fun _ => 0, fun _ => 0, fun _ => 0)
def SZ : SS := (fun _ => 0, 0, 0, 0, 0, 0, 0)
def OZ : OS := (fun _ => 0, fun _ => none, fun _ => none, none)
def MZ : MS := (0, fun _ => 0, fun _ => 0, fun _ => 0, fun _ => 0, fun _ => 0, fun _ => 0, fun _ => 0, fun _ => 0, 0, 0, fun _ => 0, fun _ => 0, 0, fun _ => 0, fun _ => 0, fun _ => 0, fun _ => 0, fun _ => 0, fun _ => 0, fun _ => 0, 0, 0, 0, 0, 0, 0)
set_option maxRecDepth 100000 in
set_option maxHeartbeats 4000000 in
theorem c_X0_init (l : Launch) (D : va_G) (κ : Nat → ClassId) (o : Nat) (sz : Nat) : Met l yX0_init wsX0_init ({ frames := 1, cells := 12, slots := 2526, locals := 23 } : Room) (fun a U => xPc D κ [.ref o] [(o, .inr (0, [.int 0, .int 0, .int 0, .int 0, .int 0, .null, .null, .null, .null, .null, .null, .null, .null, .null, .null, .null, .null]))] sz a U ∧ True) (va_Qv (fun b : Nat → Nat => b 0 = o) (fun (b : Nat → Nat) t => va_P D vwCl (WH κ b HZ) t.heap ∧ va_K D vwCl (xT κ) t ∧ va_D (va_A [(o, .inr (0, [.int 0, .int 0, .int 0, .int 0, .int 0, .null, .null, .null, .null, .null, .null, .null, .null, .null, .null, .null, .null]))] sz) (WH κ b HZ)) (va_A [(o, .inr (0, [.int 0, .int 0, .int 0, .int 0, .int 0, .null, .null, .null, .null, .null, .null, .null, .null, .null, .null, .null, .null]))] sz)) 12 2526 (va_A [(o, .inr (0, [.int 0, .int 0, .int 0, .int 0, .int 0, .null, .null, .null, .null, .null, .null, .null, .null, .null, .null, .null, .null]))] sz) := by
  refine x_ofWG (X := fun _ => True) (cc := cX0_init) (maxL := 1) (ret := none) (Qf := fun A => va_Qv (fun b : Nat → Nat => b 0 = o) (fun (b : Nat → Nat) t => va_P D vwCl (WH κ b HZ) t.heap ∧ va_K D vwCl (xT κ) t ∧ va_D A (WH κ b HZ)) A) (by decide) rfl (Nat.le_of_ble_eq_true rfl) ?_
  intro p e s m below meth c hx hb hr hlk hml hnm hown hts hK _ A hA H locs hG ls hl
  have hl : lv_has ls 1 [(0, .ref o)] := hl
  have hown : s.vm.findClass RX0 = some m.cls := hown
  have hin : meth.name = "<init>" := hnm
  have iX0 : ∀ w ∈ u_ws RX0 TX0 17, w ∈ wsX0_init := fun _ h => List.mem_cons_of_mem _ (List.mem_append_right _ h)
  have k21 := hts (.fieldLink RX0 21 "SpineDesks$Hall" "keyOf" "[J") (List.mem_of_getElem? (i := 7) rfl)
  have k25 := hts (.fieldLink RX0 25 "SpineDesks$Hall" "tagOf" "[I") (List.mem_of_getElem? (i := 8) rfl)
  have k28 := hts (.fieldLink RX0 28 "SpineDesks$Hall" "deskOf" "[I") (List.mem_of_getElem? (i := 9) rfl)
  have k31 := hts (.fieldLink RX0 31 "SpineDesks$Hall" "crossed" "[I") (List.mem_of_getElem? (i := 10) rfl)
  have k34 := hts (.fieldLink RX0 34 "SpineDesks$Hall" "left" "[I") (List.mem_of_getElem? (i := 11) rfl)
  have k37 := hts (.fieldLink RX0 37 "SpineDesks$Hall" "right" "[I") (List.mem_of_getElem? (i := 12) rfl)
  have k40 := hts (.fieldLink RX0 40 "SpineDesks$Hall" "up" "[I") (List.mem_of_getElem? (i := 13) rfl)
  have k43 := hts (.fieldLink RX0 43 "SpineDesks$Hall" "rank" "[I") (List.mem_of_getElem? (i := 14) rfl)
  have k46 := hts (.fieldLink RX0 46 "SpineDesks$Hall" "logItem" "[I") (List.mem_of_getElem? (i := 15) rfl)
  have k49 := hts (.fieldLink RX0 49 "SpineDesks$Hall" "logKey" "[J") (List.mem_of_getElem? (i := 16) rfl)
  have k52 := hts (.fieldLink RX0 52 "SpineDesks$Hall" "logDesk" "[I") (List.mem_of_getElem? (i := 17) rfl)
  have k9 := hts (.fieldLink RX0 9 "SpineDesks$Hall" "root" "[I") (List.mem_of_getElem? (i := 5) rfl)
  have kai := hts (.arrayClass .int) (List.mem_of_getElem? (i := 4) rfl)
  have kal := hts (.arrayClass .long) (List.mem_of_getElem? (i := 6) rfl)
  have kco := hts (.code objectInit ⟨#[0xb1]⟩ 1 none) (List.mem_of_getElem? (i := 3) rfl)
  have kio := hts (.instanceMethod objectInit) (List.mem_of_getElem? (i := 2) rfl)
  have kl3 := hts (.methodLink RX0 3 objectInit) (List.mem_of_getElem? (i := 1) rfl)
  refine lv_aload_n hx hb dX0_init_0 rfl (lv_at hl 0 rfl) ?_
  refine W.objInit hx hb hown kl3 kio kco rfl (by rw [hml]; exact hl.1) rfl dX0_init_1 (Nat.le_of_ble_eq_true rfl) (Nat.le_of_ble_eq_true rfl) ?_
  refine W.eq (g2 := F0 m 4 ls []) rfl ?_
  refine lv_aload_n hx hb dX0_init_4 rfl (lv_at hl 0 rfl) ?_
  refine lv_bipush (v := 6) hx hb dX0_init_5 (by decide) ?_
  refine x_newai hx hb kai hK hG hA (n := 6) (N := 6) (by decide) (by decide) (Nat.le_of_ble_eq_true rfl) (Nat.le_of_ble_eq_true rfl) (Nat.le_of_ble_eq_true rfl) dX0_init_7 (fun q7 H hG => ?_)
  replace hG : xG D A s.heap [(o, .inr (0, [.int 0, .int 0, .int 0, .int 0, .int 0, .null, .null, .null, .null, .null, .null, .null, .null, .null, .null, .null, .null])), (q7, .inl (κ 0, 6, .inl (fun _ => 0)))] H locs := hG
  refine W.widen (k := 1) (n := 6) (Nat.le_of_ble_eq_true rfl) (Nat.le_of_ble_eq_true rfl) ?_
  refine x_putF (C := RX0) (T := TX0) (N := 17) (ci := 0) hx hb hts iX0 tyX0 tyX0_ok nmX0 hown hK hG 0 rfl rfl 5 (by decide) k9 rfl hin rfl rfl rfl rfl (Nat.le_of_ble_eq_true rfl) (w1 := [(o, .inr (0, [.int 0, .int 0, .int 0, .int 0, .int 0, .ref q7, .null, .null, .null, .null, .null, .null, .null, .null, .null, .null, .null])), (q7, .inl (κ 0, 6, .inl (fun _ => 0)))]) rfl dX0_init_9 (fun H locs hG => ?_)
  refine lv_aload_n hx hb dX0_init_12 rfl (lv_at hl 0 rfl) ?_
  refine x_get (C := RX0) (T := TX0) (N := 17) (ci := 0) hx hb hts iX0 hown hK hG 0 rfl rfl 5 (by decide) k9 (v := .ref q7) rfl dX0_init_13 ?_
  refine lv_iconst (v := (-1)) hx hb dX0_init_16 (by decide) ?_
  refine x_callSv (pre := [(o, .inr (0, [.int 0, .int 0, .int 0, .int 0, .int 0, .ref q7, .null, .null, .null, .null, .null, .null, .null, .null, .null, .null, .null]))]) (wc := [(q7, .inl (κ 0, 6, .inl (fun _ => 0)))]) (wc1 := [(q7, .inl (κ 0, 6, .inl (fillF 6 (-1) (fun _ => 0))))]) (post := []) (As := [.ref q7, .int (-1)]) (rest := []) (w1 := [(o, .inr (0, [.int 0, .int 0, .int 0, .int 0, .int 0, .ref q7, .null, .null, .null, .null, .null, .null, .null, .null, .null, .null, .null])), (q7, .inl (κ 0, 6, .inl (fillF 6 (-1) (fun _ => 0))))]) ⟨hx, hb, hml, hown, hts⟩ hK hG hA rfl rfl (c_fill l D κ q7 6 (by decide) H.size (-1) (fun _ => 0)) (va_cwS 2 hts gX0_init_J7_fill_53178 rfl rfl rfl (by decide +kernel) ⟨Nat.le_of_ble_eq_true rfl, Nat.le_of_ble_eq_true rfl⟩) rfl hl.1 rfl (Nat.le_of_ble_eq_true rfl) dX0_init_17 ⟨Nat.le_of_ble_eq_true rfl, Nat.le_of_ble_eq_true rfl⟩ (fun H locs hG => ?_)
  refine lv_aload_n hx hb dX0_init_20 rfl (lv_at hl 0 rfl) ?_
  refine lv_sipush (v := 300) hx hb dX0_init_21 (by decide) ?_
  refine x_newal hx hb kal hK hG hA (n := 300) (N := 300) (by decide) (by decide) (Nat.le_of_ble_eq_true rfl) (Nat.le_of_ble_eq_true rfl) (Nat.le_of_ble_eq_true rfl) dX0_init_24 (fun q24 H hG => ?_)
  replace hG : xG D A s.heap [(o, .inr (0, [.int 0, .int 0, .int 0, .int 0, .int 0, .ref q7, .null, .null, .null, .null, .null, .null, .null, .null, .null, .null, .null])), (q7, .inl (κ 0, 6, .inl (fillF 6 (-1) (fun _ => 0)))), (q24, .inl (κ 1, 300, .inr (.inl (fun _ => 0))))] H locs := hG
  refine W.widen (k := 2) (n := 306) (Nat.le_of_ble_eq_true rfl) (Nat.le_of_ble_eq_true rfl) ?_
  refine x_putF (C := RX0) (T := TX0) (N := 17) (ci := 0) hx hb hts iX0 tyX0 tyX0_ok nmX0 hown hK hG 0 rfl rfl 6 (by decide) k21 rfl hin rfl rfl rfl rfl (Nat.le_of_ble_eq_true rfl) (w1 := [(o, .inr (0, [.int 0, .int 0, .int 0, .int 0, .int 0, .ref q7, .ref q24, .null, .null, .null, .null, .null, .null, .null, .null, .null, .null])), (q7, .inl (κ 0, 6, .inl (fillF 6 (-1) (fun _ => 0)))), (q24, .inl (κ 1, 300, .inr (.inl (fun _ => 0))))]) rfl dX0_init_26 (fun H locs hG => ?_)
  refine lv_aload_n hx hb dX0_init_29 rfl (lv_at hl 0 rfl) ?_
  refine lv_sipush (v := 300) hx hb dX0_init_30 (by decide) ?_
  refine x_newai hx hb kai hK hG hA (n := 300) (N := 300) (by decide) (by decide) (Nat.le_of_ble_eq_true rfl) (Nat.le_of_ble_eq_true rfl) (Nat.le_of_ble_eq_true rfl) dX0_init_33 (fun q33 H hG => ?_)
  replace hG : xG D A s.heap [(o, .inr (0, [.int 0, .int 0, .int 0, .int 0, .int 0, .ref q7, .ref q24, .null, .null, .null, .null, .null, .null, .null, .null, .null, .null])), (q7, .inl (κ 0, 6, .inl (fillF 6 (-1) (fun _ => 0)))), (q24, .inl (κ 1, 300, .inr (.inl (fun _ => 0)))), (q33, .inl (κ 0, 300, .inl (fun _ => 0)))] H locs := hG
  refine W.widen (k := 3) (n := 606) (Nat.le_of_ble_eq_true rfl) (Nat.le_of_ble_eq_true rfl) ?_
  refine x_putF (C := RX0) (T := TX0) (N := 17) (ci := 0) hx hb hts iX0 tyX0 tyX0_ok nmX0 hown hK hG 0 rfl rfl 7 (by decide) k25 rfl hin rfl rfl rfl rfl (Nat.le_of_ble_eq_true rfl) (w1 := [(o, .inr (0, [.int 0, .int 0, .int 0, .int 0, .int 0, .ref q7, .ref q24, .ref q33, .null, .null, .null, .null, .null, .null, .null, .null, .null])), (q7, .inl (κ 0, 6, .inl (fillF 6 (-1) (fun _ => 0)))), (q24, .inl (κ 1, 300, .inr (.inl (fun _ => 0)))), (q33, .inl (κ 0, 300, .inl (fun _ => 0)))]) rfl dX0_init_35 (fun H locs hG => ?_)
  refine lv_aload_n hx hb dX0_init_38 rfl (lv_at hl 0 rfl) ?_
  refine lv_sipush (v := 300) hx hb dX0_init_39 (by decide) ?_
  refine x_newai hx hb kai hK hG hA (n := 300) (N := 300) (by decide) (by decide) (Nat.le_of_ble_eq_true rfl) (Nat.le_of_ble_eq_true rfl) (Nat.le_of_ble_eq_true rfl) dX0_init_42 (fun q42 H hG => ?_)
  replace hG : xG D A s.heap [(o, .inr (0, [.int 0, .int 0, .int 0, .int 0, .int 0, .ref q7, .ref q24, .ref q33, .null, .null, .null, .null, .null, .null, .null, .null, .null])), (q7, .inl (κ 0, 6, .inl (fillF 6 (-1) (fun _ => 0)))), (q24, .inl (κ 1, 300, .inr (.inl (fun _ => 0)))), (q33, .inl (κ 0, 300, .inl (fun _ => 0))), (q42, .inl (κ 0, 300, .inl (fun _ => 0)))] H locs := hG
  refine W.widen (k := 4) (n := 906) (Nat.le_of_ble_eq_true rfl) (Nat.le_of_ble_eq_true rfl) ?_
  refine x_putF (C := RX0) (T := TX0) (N := 17) (ci := 0) hx hb hts iX0 tyX0 tyX0_ok nmX0 hown hK hG 0 rfl rfl 8 (by decide) k28 rfl hin rfl rfl rfl rfl (Nat.le_of_ble_eq_true rfl) (w1 := [(o, .inr (0, [.int 0, .int 0, .int 0, .int 0, .int 0, .ref q7, .ref q24, .ref q33, .ref q42, .null, .null, .null, .null, .null, .null, .null, .null])), (q7, .inl (κ 0, 6, .inl (fillF 6 (-1) (fun _ => 0)))), (q24, .inl (κ 1, 300, .inr (.inl (fun _ => 0)))), (q33, .inl (κ 0, 300, .inl (fun _ => 0))), (q42, .inl (κ 0, 300, .inl (fun _ => 0)))]) rfl dX0_init_44 (fun H locs hG => ?_)
  refine lv_aload_n hx hb dX0_init_47 rfl (lv_at hl 0 rfl) ?_
  refine lv_sipush (v := 300) hx hb dX0_init_48 (by decide) ?_
  refine x_newai hx hb kai hK hG hA (n := 300) (N := 300) (by decide) (by decide) (Nat.le_of_ble_eq_true rfl) (Nat.le_of_ble_eq_true rfl) (Nat.le_of_ble_eq_true rfl) dX0_init_51 (fun q51 H hG => ?_)
  replace hG : xG D A s.heap [(o, .inr (0, [.int 0, .int 0, .int 0, .int 0, .int 0, .ref q7, .ref q24, .ref q33, .ref q42, .null, .null, .null, .null, .null, .null, .null, .null])), (q7, .inl (κ 0, 6, .inl (fillF 6 (-1) (fun _ => 0)))), (q24, .inl (κ 1, 300, .inr (.inl (fun _ => 0)))), (q33, .inl (κ 0, 300, .inl (fun _ => 0))), (q42, .inl (κ 0, 300, .inl (fun _ => 0))), (q51, .inl (κ 0, 300, .inl (fun _ => 0)))] H locs := hG
  refine W.widen (k := 5) (n := 1206) (Nat.le_of_ble_eq_true rfl) (Nat.le_of_ble_eq_true rfl) ?_
  refine x_putF (C := RX0) (T := TX0) (N := 17) (ci := 0) hx hb hts iX0 tyX0 tyX0_ok nmX0 hown hK hG 0 rfl rfl 9 (by decide) k31 rfl hin rfl rfl rfl rfl (Nat.le_of_ble_eq_true rfl) (w1 := [(o, .inr (0, [.int 0, .int 0, .int 0, .int 0, .int 0, .ref q7, .ref q24, .ref q33, .ref q42, .ref q51, .null, .null, .null, .null, .null, .null, .null])), (q7, .inl (κ 0, 6, .inl (fillF 6 (-1) (fun _ => 0)))), (q24, .inl (κ 1, 300, .inr (.inl (fun _ => 0)))), (q33, .inl (κ 0, 300, .inl (fun _ => 0))), (q42, .inl (κ 0, 300, .inl (fun _ => 0))), (q51, .inl (κ 0, 300, .inl (fun _ => 0)))]) rfl dX0_init_53 (fun H locs hG => ?_)
  refine lv_aload_n hx hb dX0_init_56 rfl (lv_at hl 0 rfl) ?_
  refine lv_sipush (v := 300) hx hb dX0_init_57 (by decide) ?_
  refine x_newai hx hb kai hK hG hA (n := 300) (N := 300) (by decide) (by decide) (Nat.le_of_ble_eq_true rfl) (Nat.le_of_ble_eq_true rfl) (Nat.le_of_ble_eq_true rfl) dX0_init_60 (fun q60 H hG => ?_)
  replace hG : xG D A s.heap [(o, .inr (0, [.int 0, .int 0, .int 0, .int 0, .int 0, .ref q7, .ref q24, .ref q33, .ref q42, .ref q51, .null, .null, .null, .null, .null, .null, .null])), (q7, .inl (κ 0, 6, .inl (fillF 6 (-1) (fun _ => 0)))), (q24, .inl (κ 1, 300, .inr (.inl (fun _ => 0)))), (q33, .inl (κ 0, 300, .inl (fun _ => 0))), (q42, .inl (κ 0, 300, .inl (fun _ => 0))), (q51, .inl (κ 0, 300, .inl (fun _ => 0))), (q60, .inl (κ 0, 300, .inl (fun _ => 0)))] H locs := hG
  refine W.widen (k := 6) (n := 1506) (Nat.le_of_ble_eq_true rfl) (Nat.le_of_ble_eq_true rfl) ?_
  refine x_putF (C := RX0) (T := TX0) (N := 17) (ci := 0) hx hb hts iX0 tyX0 tyX0_ok nmX0 hown hK hG 0 rfl rfl 10 (by decide) k34 rfl hin rfl rfl rfl rfl (Nat.le_of_ble_eq_true rfl) (w1 := [(o, .inr (0, [.int 0, .int 0, .int 0, .int 0, .int 0, .ref q7, .ref q24, .ref q33, .ref q42, .ref q51, .ref q60, .null, .null, .null, .null, .null, .null])), (q7, .inl (κ 0, 6, .inl (fillF 6 (-1) (fun _ => 0)))), (q24, .inl (κ 1, 300, .inr (.inl (fun _ => 0)))), (q33, .inl (κ 0, 300, .inl (fun _ => 0))), (q42, .inl (κ 0, 300, .inl (fun _ => 0))), (q51, .inl (κ 0, 300, .inl (fun _ => 0))), (q60, .inl (κ 0, 300, .inl (fun _ => 0)))]) rfl dX0_init_62 (fun H locs hG => ?_)
  refine lv_aload_n hx hb dX0_init_65 rfl (lv_at hl 0 rfl) ?_
  refine lv_sipush (v := 300) hx hb dX0_init_66 (by decide) ?_
  refine x_newai hx hb kai hK hG hA (n := 300) (N := 300) (by decide) (by decide) (Nat.le_of_ble_eq_true rfl) (Nat.le_of_ble_eq_true rfl) (Nat.le_of_ble_eq_true rfl) dX0_init_69 (fun q69 H hG => ?_)
  replace hG : xG D A s.heap [(o, .inr (0, [.int 0, .int 0, .int 0, .int 0, .int 0, .ref q7, .ref q24, .ref q33, .ref q42, .ref q51, .ref q60, .null, .null, .null, .null, .null, .null])), (q7, .inl (κ 0, 6, .inl (fillF 6 (-1) (fun _ => 0)))), (q24, .inl (κ 1, 300, .inr (.inl (fun _ => 0)))), (q33, .inl (κ 0, 300, .inl (fun _ => 0))), (q42, .inl (κ 0, 300, .inl (fun _ => 0))), (q51, .inl (κ 0, 300, .inl (fun _ => 0))), (q60, .inl (κ 0, 300, .inl (fun _ => 0))), (q69, .inl (κ 0, 300, .inl (fun _ => 0)))] H locs := hG
  refine W.widen (k := 7) (n := 1806) (Nat.le_of_ble_eq_true rfl) (Nat.le_of_ble_eq_true rfl) ?_
  refine x_putF (C := RX0) (T := TX0) (N := 17) (ci := 0) hx hb hts iX0 tyX0 tyX0_ok nmX0 hown hK hG 0 rfl rfl 11 (by decide) k37 rfl hin rfl rfl rfl rfl (Nat.le_of_ble_eq_true rfl) (w1 := [(o, .inr (0, [.int 0, .int 0, .int 0, .int 0, .int 0, .ref q7, .ref q24, .ref q33, .ref q42, .ref q51, .ref q60, .ref q69, .null, .null, .null, .null, .null])), (q7, .inl (κ 0, 6, .inl (fillF 6 (-1) (fun _ => 0)))), (q24, .inl (κ 1, 300, .inr (.inl (fun _ => 0)))), (q33, .inl (κ 0, 300, .inl (fun _ => 0))), (q42, .inl (κ 0, 300, .inl (fun _ => 0))), (q51, .inl (κ 0, 300, .inl (fun _ => 0))), (q60, .inl (κ 0, 300, .inl (fun _ => 0))), (q69, .inl (κ 0, 300, .inl (fun _ => 0)))]) rfl dX0_init_71 (fun H locs hG => ?_)
  refine lv_aload_n hx hb dX0_init_74 rfl (lv_at hl 0 rfl) ?_
  refine lv_sipush (v := 300) hx hb dX0_init_75 (by decide) ?_
  refine x_newai hx hb kai hK hG hA (n := 300) (N := 300) (by decide) (by decide) (Nat.le_of_ble_eq_true rfl) (Nat.le_of_ble_eq_true rfl) (Nat.le_of_ble_eq_true rfl) dX0_init_78 (fun q78 H hG => ?_)
  replace hG : xG D A s.heap [(o, .inr (0, [.int 0, .int 0, .int 0, .int 0, .int 0, .ref q7, .ref q24, .ref q33, .ref q42, .ref q51, .ref q60, .ref q69, .null, .null, .null, .null, .null])), (q7, .inl (κ 0, 6, .inl (fillF 6 (-1) (fun _ => 0)))), (q24, .inl (κ 1, 300, .inr (.inl (fun _ => 0)))), (q33, .inl (κ 0, 300, .inl (fun _ => 0))), (q42, .inl (κ 0, 300, .inl (fun _ => 0))), (q51, .inl (κ 0, 300, .inl (fun _ => 0))), (q60, .inl (κ 0, 300, .inl (fun _ => 0))), (q69, .inl (κ 0, 300, .inl (fun _ => 0))), (q78, .inl (κ 0, 300, .inl (fun _ => 0)))] H locs := hG
  refine W.widen (k := 8) (n := 2106) (Nat.le_of_ble_eq_true rfl) (Nat.le_of_ble_eq_true rfl) ?_
  refine x_putF (C := RX0) (T := TX0) (N := 17) (ci := 0) hx hb hts iX0 tyX0 tyX0_ok nmX0 hown hK hG 0 rfl rfl 12 (by decide) k40 rfl hin rfl rfl rfl rfl (Nat.le_of_ble_eq_true rfl) (w1 := [(o, .inr (0, [.int 0, .int 0, .int 0, .int 0, .int 0, .ref q7, .ref q24, .ref q33, .ref q42, .ref q51, .ref q60, .ref q69, .ref q78, .null, .null, .null, .null])), (q7, .inl (κ 0, 6, .inl (fillF 6 (-1) (fun _ => 0)))), (q24, .inl (κ 1, 300, .inr (.inl (fun _ => 0)))), (q33, .inl (κ 0, 300, .inl (fun _ => 0))), (q42, .inl (κ 0, 300, .inl (fun _ => 0))), (q51, .inl (κ 0, 300, .inl (fun _ => 0))), (q60, .inl (κ 0, 300, .inl (fun _ => 0))), (q69, .inl (κ 0, 300, .inl (fun _ => 0))), (q78, .inl (κ 0, 300, .inl (fun _ => 0)))]) rfl dX0_init_80 (fun H locs hG => ?_)
  refine lv_aload_n hx hb dX0_init_83 rfl (lv_at hl 0 rfl) ?_
  refine lv_sipush (v := 300) hx hb dX0_init_84 (by decide) ?_
  refine x_newai hx hb kai hK hG hA (n := 300) (N := 300) (by decide) (by decide) (Nat.le_of_ble_eq_true rfl) (Nat.le_of_ble_eq_true rfl) (Nat.le_of_ble_eq_true rfl) dX0_init_87 (fun q87 H hG => ?_)
  replace hG : xG D A s.heap [(o, .inr (0, [.int 0, .int 0, .int 0, .int 0, .int 0, .ref q7, .ref q24, .ref q33, .ref q42, .ref q51, .ref q60, .ref q69, .ref q78, .null, .null, .null, .null])), (q7, .inl (κ 0, 6, .inl (fillF 6 (-1) (fun _ => 0)))), (q24, .inl (κ 1, 300, .inr (.inl (fun _ => 0)))), (q33, .inl (κ 0, 300, .inl (fun _ => 0))), (q42, .inl (κ 0, 300, .inl (fun _ => 0))), (q51, .inl (κ 0, 300, .inl (fun _ => 0))), (q60, .inl (κ 0, 300, .inl (fun _ => 0))), (q69, .inl (κ 0, 300, .inl (fun _ => 0))), (q78, .inl (κ 0, 300, .inl (fun _ => 0))), (q87, .inl (κ 0, 300, .inl (fun _ => 0)))] H locs := hG
  refine W.widen (k := 9) (n := 2406) (Nat.le_of_ble_eq_true rfl) (Nat.le_of_ble_eq_true rfl) ?_
  refine x_putF (C := RX0) (T := TX0) (N := 17) (ci := 0) hx hb hts iX0 tyX0 tyX0_ok nmX0 hown hK hG 0 rfl rfl 13 (by decide) k43 rfl hin rfl rfl rfl rfl (Nat.le_of_ble_eq_true rfl) (w1 := [(o, .inr (0, [.int 0, .int 0, .int 0, .int 0, .int 0, .ref q7, .ref q24, .ref q33, .ref q42, .ref q51, .ref q60, .ref q69, .ref q78, .ref q87, .null, .null, .null])), (q7, .inl (κ 0, 6, .inl (fillF 6 (-1) (fun _ => 0)))), (q24, .inl (κ 1, 300, .inr (.inl (fun _ => 0)))), (q33, .inl (κ 0, 300, .inl (fun _ => 0))), (q42, .inl (κ 0, 300, .inl (fun _ => 0))), (q51, .inl (κ 0, 300, .inl (fun _ => 0))), (q60, .inl (κ 0, 300, .inl (fun _ => 0))), (q69, .inl (κ 0, 300, .inl (fun _ => 0))), (q78, .inl (κ 0, 300, .inl (fun _ => 0))), (q87, .inl (κ 0, 300, .inl (fun _ => 0)))]) rfl dX0_init_89 (fun H locs hG => ?_)
  refine lv_aload_n hx hb dX0_init_92 rfl (lv_at hl 0 rfl) ?_
  refine lv_bipush (v := 40) hx hb dX0_init_93 (by decide) ?_
  refine x_newai hx hb kai hK hG hA (n := 40) (N := 40) (by decide) (by decide) (Nat.le_of_ble_eq_true rfl) (Nat.le_of_ble_eq_true rfl) (Nat.le_of_ble_eq_true rfl) dX0_init_95 (fun q95 H hG => ?_)
  replace hG : xG D A s.heap [(o, .inr (0, [.int 0, .int 0, .int 0, .int 0, .int 0, .ref q7, .ref q24, .ref q33, .ref q42, .ref q51, .ref q60, .ref q69, .ref q78, .ref q87, .null, .null, .null])), (q7, .inl (κ 0, 6, .inl (fillF 6 (-1) (fun _ => 0)))), (q24, .inl (κ 1, 300, .inr (.inl (fun _ => 0)))), (q33, .inl (κ 0, 300, .inl (fun _ => 0))), (q42, .inl (κ 0, 300, .inl (fun _ => 0))), (q51, .inl (κ 0, 300, .inl (fun _ => 0))), (q60, .inl (κ 0, 300, .inl (fun _ => 0))), (q69, .inl (κ 0, 300, .inl (fun _ => 0))), (q78, .inl (κ 0, 300, .inl (fun _ => 0))), (q87, .inl (κ 0, 300, .inl (fun _ => 0))), (q95, .inl (κ 0, 40, .inl (fun _ => 0)))] H locs := hG
  refine W.widen (k := 10) (n := 2446) (Nat.le_of_ble_eq_true rfl) (Nat.le_of_ble_eq_true rfl) ?_
  refine x_putF (C := RX0) (T := TX0) (N := 17) (ci := 0) hx hb hts iX0 tyX0 tyX0_ok nmX0 hown hK hG 0 rfl rfl 14 (by decide) k46 rfl hin rfl rfl rfl rfl (Nat.le_of_ble_eq_true rfl) (w1 := [(o, .inr (0, [.int 0, .int 0, .int 0, .int 0, .int 0, .ref q7, .ref q24, .ref q33, .ref q42, .ref q51, .ref q60, .ref q69, .ref q78, .ref q87, .ref q95, .null, .null])), (q7, .inl (κ 0, 6, .inl (fillF 6 (-1) (fun _ => 0)))), (q24, .inl (κ 1, 300, .inr (.inl (fun _ => 0)))), (q33, .inl (κ 0, 300, .inl (fun _ => 0))), (q42, .inl (κ 0, 300, .inl (fun _ => 0))), (q51, .inl (κ 0, 300, .inl (fun _ => 0))), (q60, .inl (κ 0, 300, .inl (fun _ => 0))), (q69, .inl (κ 0, 300, .inl (fun _ => 0))), (q78, .inl (κ 0, 300, .inl (fun _ => 0))), (q87, .inl (κ 0, 300, .inl (fun _ => 0))), (q95, .inl (κ 0, 40, .inl (fun _ => 0)))]) rfl dX0_init_97 (fun H locs hG => ?_)
  refine lv_aload_n hx hb dX0_init_100 rfl (lv_at hl 0 rfl) ?_
  refine lv_bipush (v := 40) hx hb dX0_init_101 (by decide) ?_
  refine x_newal hx hb kal hK hG hA (n := 40) (N := 40) (by decide) (by decide) (Nat.le_of_ble_eq_true rfl) (Nat.le_of_ble_eq_true rfl) (Nat.le_of_ble_eq_true rfl) dX0_init_103 (fun q103 H hG => ?_)
  replace hG : xG D A s.heap [(o, .inr (0, [.int 0, .int 0, .int 0, .int 0, .int 0, .ref q7, .ref q24, .ref q33, .ref q42, .ref q51, .ref q60, .ref q69, .ref q78, .ref q87, .ref q95, .null, .null])), (q7, .inl (κ 0, 6, .inl (fillF 6 (-1) (fun _ => 0)))), (q24, .inl (κ 1, 300, .inr (.inl (fun _ => 0)))), (q33, .inl (κ 0, 300, .inl (fun _ => 0))), (q42, .inl (κ 0, 300, .inl (fun _ => 0))), (q51, .inl (κ 0, 300, .inl (fun _ => 0))), (q60, .inl (κ 0, 300, .inl (fun _ => 0))), (q69, .inl (κ 0, 300, .inl (fun _ => 0))), (q78, .inl (κ 0, 300, .inl (fun _ => 0))), (q87, .inl (κ 0, 300, .inl (fun _ => 0))), (q95, .inl (κ 0, 40, .inl (fun _ => 0))), (q103, .inl (κ 1, 40, .inr (.inl (fun _ => 0))))] H locs := hG
  refine W.widen (k := 11) (n := 2486) (Nat.le_of_ble_eq_true rfl) (Nat.le_of_ble_eq_true rfl) ?_
  refine x_putF (C := RX0) (T := TX0) (N := 17) (ci := 0) hx hb hts iX0 tyX0 tyX0_ok nmX0 hown hK hG 0 rfl rfl 15 (by decide) k49 rfl hin rfl rfl rfl rfl (Nat.le_of_ble_eq_true rfl) (w1 := [(o, .inr (0, [.int 0, .int 0, .int 0, .int 0, .int 0, .ref q7, .ref q24, .ref q33, .ref q42, .ref q51, .ref q60, .ref q69, .ref q78, .ref q87, .ref q95, .ref q103, .null])), (q7, .inl (κ 0, 6, .inl (fillF 6 (-1) (fun _ => 0)))), (q24, .inl (κ 1, 300, .inr (.inl (fun _ => 0)))), (q33, .inl (κ 0, 300, .inl (fun _ => 0))), (q42, .inl (κ 0, 300, .inl (fun _ => 0))), (q51, .inl (κ 0, 300, .inl (fun _ => 0))), (q60, .inl (κ 0, 300, .inl (fun _ => 0))), (q69, .inl (κ 0, 300, .inl (fun _ => 0))), (q78, .inl (κ 0, 300, .inl (fun _ => 0))), (q87, .inl (κ 0, 300, .inl (fun _ => 0))), (q95, .inl (κ 0, 40, .inl (fun _ => 0))), (q103, .inl (κ 1, 40, .inr (.inl (fun _ => 0))))]) rfl dX0_init_105 (fun H locs hG => ?_)
  refine lv_aload_n hx hb dX0_init_108 rfl (lv_at hl 0 rfl) ?_
  refine lv_bipush (v := 40) hx hb dX0_init_109 (by decide) ?_
  refine x_newai hx hb kai hK hG hA (n := 40) (N := 40) (by decide) (by decide) (Nat.le_of_ble_eq_true rfl) (Nat.le_of_ble_eq_true rfl) (Nat.le_of_ble_eq_true rfl) dX0_init_111 (fun q111 H hG => ?_)
  replace hG : xG D A s.heap [(o, .inr (0, [.int 0, .int 0, .int 0, .int 0, .int 0, .ref q7, .ref q24, .ref q33, .ref q42, .ref q51, .ref q60, .ref q69, .ref q78, .ref q87, .ref q95, .ref q103, .null])), (q7, .inl (κ 0, 6, .inl (fillF 6 (-1) (fun _ => 0)))), (q24, .inl (κ 1, 300, .inr (.inl (fun _ => 0)))), (q33, .inl (κ 0, 300, .inl (fun _ => 0))), (q42, .inl (κ 0, 300, .inl (fun _ => 0))), (q51, .inl (κ 0, 300, .inl (fun _ => 0))), (q60, .inl (κ 0, 300, .inl (fun _ => 0))), (q69, .inl (κ 0, 300, .inl (fun _ => 0))), (q78, .inl (κ 0, 300, .inl (fun _ => 0))), (q87, .inl (κ 0, 300, .inl (fun _ => 0))), (q95, .inl (κ 0, 40, .inl (fun _ => 0))), (q103, .inl (κ 1, 40, .inr (.inl (fun _ => 0)))), (q111, .inl (κ 0, 40, .inl (fun _ => 0)))] H locs := hG
  refine W.widen (k := 12) (n := 2526) (Nat.le_of_ble_eq_true rfl) (Nat.le_of_ble_eq_true rfl) ?_
  refine x_putF (C := RX0) (T := TX0) (N := 17) (ci := 0) hx hb hts iX0 tyX0 tyX0_ok nmX0 hown hK hG 0 rfl rfl 16 (by decide) k52 rfl hin rfl rfl rfl rfl (Nat.le_of_ble_eq_true rfl) (w1 := [(o, .inr (0, [.int 0, .int 0, .int 0, .int 0, .int 0, .ref q7, .ref q24, .ref q33, .ref q42, .ref q51, .ref q60, .ref q69, .ref q78, .ref q87, .ref q95, .ref q103, .ref q111])), (q7, .inl (κ 0, 6, .inl (fillF 6 (-1) (fun _ => 0)))), (q24, .inl (κ 1, 300, .inr (.inl (fun _ => 0)))), (q33, .inl (κ 0, 300, .inl (fun _ => 0))), (q42, .inl (κ 0, 300, .inl (fun _ => 0))), (q51, .inl (κ 0, 300, .inl (fun _ => 0))), (q60, .inl (κ 0, 300, .inl (fun _ => 0))), (q69, .inl (κ 0, 300, .inl (fun _ => 0))), (q78, .inl (κ 0, 300, .inl (fun _ => 0))), (q87, .inl (κ 0, 300, .inl (fun _ => 0))), (q95, .inl (κ 0, 40, .inl (fun _ => 0))), (q103, .inl (κ 1, 40, .inr (.inl (fun _ => 0)))), (q111, .inl (κ 0, 40, .inl (fun _ => 0)))]) rfl dX0_init_113 (fun H locs hG => ?_)
  have hG9 : xG D A s.heap (WH κ (fun k => if k = 0 then o else if k = 1 then q7 else if k = 2 then q24 else if k = 3 then q33 else if k = 4 then q42 else if k = 5 then q51 else if k = 6 then q60 else if k = 7 then q69 else if k = 8 then q78 else if k = 9 then q87 else if k = 10 then q95 else if k = 11 then q103 else if k = 12 then q111 else 0) HZ) H locs := hG
  exact W.vret hx hb hr (fun t ht hW => ⟨⟨(fun k => if k = 0 then o else if k = 1 then q7 else if k = 2 then q24 else if k = 3 then q33 else if k = 4 then q42 else if k = 5 then q51 else if k = 6 then q60 else if k = 7 then q69 else if k = 8 then q78 else if k = 9 then q87 else if k = 10 then q95 else if k = 11 then q103 else if k = 12 then q111 else 0), rfl, rfl, by rw [ht]; exact hG9.1, va_K.moved hW.alike hK, hG9.2.1⟩, hG.2.2.F ht⟩) hG.2.2.2.2 dX0_init_116 hlk
set_option maxRecDepth 100000 in
set_option maxHeartbeats 4000000 in
theorem c_X1_init (l : Launch) (D : va_G) (κ : Nat → ClassId) (o : Nat) (sz : Nat) : Met l yX1_init wsX1_init ({ frames := 1, cells := 3, slots := 60, locals := 23 } : Room) (fun a U => xPc D κ [.ref o] [(o, .inr (1, [.null, .null, .null]))] sz a U ∧ True) (va_Qv (fun b : Nat → Nat => b 19 = o) (fun (b : Nat → Nat) t => va_P D vwCl (WN κ b NZ) t.heap ∧ va_K D vwCl (xT κ) t ∧ va_D (va_A [(o, .inr (1, [.null, .null, .null]))] sz) (WN κ b NZ)) (va_A [(o, .inr (1, [.null, .null, .null]))] sz)) 3 60 (va_A [(o, .inr (1, [.null, .null, .null]))] sz) := by
  refine x_ofWG (X := fun _ => True) (cc := cX1_init) (maxL := 1) (ret := none) (Qf := fun A => va_Qv (fun b : Nat → Nat => b 19 = o) (fun (b : Nat → Nat) t => va_P D vwCl (WN κ b NZ) t.heap ∧ va_K D vwCl (xT κ) t ∧ va_D A (WN κ b NZ)) A) (by decide) rfl (Nat.le_of_ble_eq_true rfl) ?_
  intro p e s m below meth c hx hb hr hlk hml hnm hown hts hK _ A hA H locs hG ls hl
  have hl : lv_has ls 1 [(0, .ref o)] := hl
  have hown : s.vm.findClass RX1 = some m.cls := hown
  have hin : meth.name = "<init>" := hnm
  have iX1 : ∀ w ∈ u_ws RX1 TX1 3, w ∈ wsX1_init := fun _ h => List.mem_cons_of_mem _ (List.mem_append_right _ h)
  have k21 := hts (.fieldLink RX1 21 "SpineDesks$Net" "to" "[I") (List.mem_of_getElem? (i := 6) rfl)
  have k24 := hts (.fieldLink RX1 24 "SpineDesks$Net" "cost" "[I") (List.mem_of_getElem? (i := 7) rfl)
  have k9 := hts (.fieldLink RX1 9 "SpineDesks$Net" "from" "[I") (List.mem_of_getElem? (i := 5) rfl)
  have kai := hts (.arrayClass .int) (List.mem_of_getElem? (i := 4) rfl)
  have kco := hts (.code objectInit ⟨#[0xb1]⟩ 1 none) (List.mem_of_getElem? (i := 3) rfl)
  have kio := hts (.instanceMethod objectInit) (List.mem_of_getElem? (i := 2) rfl)
  have kl3 := hts (.methodLink RX1 3 objectInit) (List.mem_of_getElem? (i := 1) rfl)
  refine lv_aload_n hx hb dX1_init_0 rfl (lv_at hl 0 rfl) ?_
  refine W.objInit hx hb hown kl3 kio kco rfl (by rw [hml]; exact hl.1) rfl dX1_init_1 (Nat.le_of_ble_eq_true rfl) (Nat.le_of_ble_eq_true rfl) ?_
  refine W.eq (g2 := F0 m 4 ls []) rfl ?_
  refine lv_aload_n hx hb dX1_init_4 rfl (lv_at hl 0 rfl) ?_
  refine lv_bipush (v := 20) hx hb dX1_init_5 (by decide) ?_
  refine x_newai hx hb kai hK hG hA (n := 20) (N := 20) (by decide) (by decide) (Nat.le_of_ble_eq_true rfl) (Nat.le_of_ble_eq_true rfl) (Nat.le_of_ble_eq_true rfl) dX1_init_7 (fun q7 H hG => ?_)
  replace hG : xG D A s.heap [(o, .inr (1, [.null, .null, .null])), (q7, .inl (κ 0, 20, .inl (fun _ => 0)))] H locs := hG
  refine W.widen (k := 1) (n := 20) (Nat.le_of_ble_eq_true rfl) (Nat.le_of_ble_eq_true rfl) ?_
  refine x_putF (C := RX1) (T := TX1) (N := 3) (ci := 1) hx hb hts iX1 tyX1 tyX1_ok nmX1 hown hK hG 0 rfl rfl 0 (by decide) k9 rfl hin rfl rfl rfl rfl (Nat.le_of_ble_eq_true rfl) (w1 := [(o, .inr (1, [.ref q7, .null, .null])), (q7, .inl (κ 0, 20, .inl (fun _ => 0)))]) rfl dX1_init_9 (fun H locs hG => ?_)
  refine lv_aload_n hx hb dX1_init_12 rfl (lv_at hl 0 rfl) ?_
  refine x_get (C := RX1) (T := TX1) (N := 3) (ci := 1) hx hb hts iX1 hown hK hG 0 rfl rfl 0 (by decide) k9 (v := .ref q7) rfl dX1_init_13 ?_
  refine lv_iconst (v := (-1)) hx hb dX1_init_16 (by decide) ?_
  refine x_callSv (pre := [(o, .inr (1, [.ref q7, .null, .null]))]) (wc := [(q7, .inl (κ 0, 20, .inl (fun _ => 0)))]) (wc1 := [(q7, .inl (κ 0, 20, .inl (fillF 20 (-1) (fun _ => 0))))]) (post := []) (As := [.ref q7, .int (-1)]) (rest := []) (w1 := [(o, .inr (1, [.ref q7, .null, .null])), (q7, .inl (κ 0, 20, .inl (fillF 20 (-1) (fun _ => 0))))]) ⟨hx, hb, hml, hown, hts⟩ hK hG hA rfl rfl (c_fill l D κ q7 20 (by decide) H.size (-1) (fun _ => 0)) (va_cwS 2 hts gX1_init_J7_fill_53178 rfl rfl rfl (by decide +kernel) ⟨Nat.le_of_ble_eq_true rfl, Nat.le_of_ble_eq_true rfl⟩) rfl hl.1 rfl (Nat.le_of_ble_eq_true rfl) dX1_init_17 ⟨Nat.le_of_ble_eq_true rfl, Nat.le_of_ble_eq_true rfl⟩ (fun H locs hG => ?_)
  refine lv_aload_n hx hb dX1_init_20 rfl (lv_at hl 0 rfl) ?_
  refine lv_bipush (v := 20) hx hb dX1_init_21 (by decide) ?_
  refine x_newai hx hb kai hK hG hA (n := 20) (N := 20) (by decide) (by decide) (Nat.le_of_ble_eq_true rfl) (Nat.le_of_ble_eq_true rfl) (Nat.le_of_ble_eq_true rfl) dX1_init_23 (fun q23 H hG => ?_)
  replace hG : xG D A s.heap [(o, .inr (1, [.ref q7, .null, .null])), (q7, .inl (κ 0, 20, .inl (fillF 20 (-1) (fun _ => 0)))), (q23, .inl (κ 0, 20, .inl (fun _ => 0)))] H locs := hG
  refine W.widen (k := 2) (n := 40) (Nat.le_of_ble_eq_true rfl) (Nat.le_of_ble_eq_true rfl) ?_
  refine x_putF (C := RX1) (T := TX1) (N := 3) (ci := 1) hx hb hts iX1 tyX1 tyX1_ok nmX1 hown hK hG 0 rfl rfl 1 (by decide) k21 rfl hin rfl rfl rfl rfl (Nat.le_of_ble_eq_true rfl) (w1 := [(o, .inr (1, [.ref q7, .ref q23, .null])), (q7, .inl (κ 0, 20, .inl (fillF 20 (-1) (fun _ => 0)))), (q23, .inl (κ 0, 20, .inl (fun _ => 0)))]) rfl dX1_init_25 (fun H locs hG => ?_)
  refine lv_aload_n hx hb dX1_init_28 rfl (lv_at hl 0 rfl) ?_
  refine lv_bipush (v := 20) hx hb dX1_init_29 (by decide) ?_
  refine x_newai hx hb kai hK hG hA (n := 20) (N := 20) (by decide) (by decide) (Nat.le_of_ble_eq_true rfl) (Nat.le_of_ble_eq_true rfl) (Nat.le_of_ble_eq_true rfl) dX1_init_31 (fun q31 H hG => ?_)
  replace hG : xG D A s.heap [(o, .inr (1, [.ref q7, .ref q23, .null])), (q7, .inl (κ 0, 20, .inl (fillF 20 (-1) (fun _ => 0)))), (q23, .inl (κ 0, 20, .inl (fun _ => 0))), (q31, .inl (κ 0, 20, .inl (fun _ => 0)))] H locs := hG
  refine W.widen (k := 3) (n := 60) (Nat.le_of_ble_eq_true rfl) (Nat.le_of_ble_eq_true rfl) ?_
  refine x_putF (C := RX1) (T := TX1) (N := 3) (ci := 1) hx hb hts iX1 tyX1 tyX1_ok nmX1 hown hK hG 0 rfl rfl 2 (by decide) k24 rfl hin rfl rfl rfl rfl (Nat.le_of_ble_eq_true rfl) (w1 := [(o, .inr (1, [.ref q7, .ref q23, .ref q31])), (q7, .inl (κ 0, 20, .inl (fillF 20 (-1) (fun _ => 0)))), (q23, .inl (κ 0, 20, .inl (fun _ => 0))), (q31, .inl (κ 0, 20, .inl (fun _ => 0)))]) rfl dX1_init_33 (fun H locs hG => ?_)
  have hG9 : xG D A s.heap (WN κ (fun k => if k = 19 then o else if k = 20 then q7 else if k = 21 then q23 else if k = 22 then q31 else 0) NZ) H locs := hG
  exact W.vret hx hb hr (fun t ht hW => ⟨⟨(fun k => if k = 19 then o else if k = 20 then q7 else if k = 21 then q23 else if k = 22 then q31 else 0), rfl, rfl, by rw [ht]; exact hG9.1, va_K.moved hW.alike hK, hG9.2.1⟩, hG.2.2.F ht⟩) hG.2.2.2.2 dX1_init_36 hlk
set_option maxRecDepth 100000 in
set_option maxHeartbeats 4000000 in
theorem c_X2_init (l : Launch) (D : va_G) (κ : Nat → ClassId) (o o1 : Nat) (sz : Nat) : Met l yX2_init wsX2_init ({ frames := 1, cells := 5, slots := 1240, locals := 12 } : Room) (fun a U => xPc D κ [.ref o, .ref o1] [(o, .inr (2, [.null, .null, .null, .null, .null, .null]))] sz a U ∧ True) (va_Qv (fun b : Nat → Nat => b 13 = o ∧ b 0 = o1) (fun (b : Nat → Nat) t => va_P D vwCl (WR κ b RZ) t.heap ∧ va_K D vwCl (xT κ) t ∧ va_D (va_A [(o, .inr (2, [.null, .null, .null, .null, .null, .null]))] sz) (WR κ b RZ)) (va_A [(o, .inr (2, [.null, .null, .null, .null, .null, .null]))] sz)) 5 1240 (va_A [(o, .inr (2, [.null, .null, .null, .null, .null, .null]))] sz) := by
  refine x_ofWG (X := fun _ => True) (cc := cX2_init) (maxL := 2) (ret := none) (Qf := fun A => va_Qv (fun b : Nat → Nat => b 13 = o ∧ b 0 = o1) (fun (b : Nat → Nat) t => va_P D vwCl (WR κ b RZ) t.heap ∧ va_K D vwCl (xT κ) t ∧ va_D A (WR κ b RZ)) A) (by decide) rfl (Nat.le_of_ble_eq_true rfl) ?_
  intro p e s m below meth c hx hb hr hlk hml hnm hown hts hK _ A hA H locs hG ls hl
  have hl : lv_has ls 2 [(0, .ref o), (1, .ref o1)] := hl
  have hown : s.vm.findClass RX2 = some m.cls := hown
  have hin : meth.name = "<init>" := hnm
  have iX2 : ∀ w ∈ u_ws RX2 TX2 6, w ∈ wsX2_init := fun _ h => List.mem_cons_of_mem _ (List.mem_append_right _ h)
  have k15 := hts (.fieldLink RX2 15 "SpineDesks$Rows" "one" "[I") (List.mem_of_getElem? (i := 6) rfl)
  have k19 := hts (.fieldLink RX2 19 "SpineDesks$Rows" "two" "[I") (List.mem_of_getElem? (i := 7) rfl)
  have k22 := hts (.fieldLink RX2 22 "SpineDesks$Rows" "stack" "[I") (List.mem_of_getElem? (i := 8) rfl)
  have k25 := hts (.fieldLink RX2 25 "SpineDesks$Rows" "span" "[I") (List.mem_of_getElem? (i := 9) rfl)
  have k28 := hts (.fieldLink RX2 28 "SpineDesks$Rows" "nextOf" "[I") (List.mem_of_getElem? (i := 10) rfl)
  have k9 := hts (.fieldLink RX2 9 "SpineDesks$Rows" "hall" "LSpineDesks$Hall;") (List.mem_of_getElem? (i := 4) rfl)
  have kai := hts (.arrayClass .int) (List.mem_of_getElem? (i := 5) rfl)
  have kco := hts (.code objectInit ⟨#[0xb1]⟩ 1 none) (List.mem_of_getElem? (i := 3) rfl)
  have kio := hts (.instanceMethod objectInit) (List.mem_of_getElem? (i := 2) rfl)
  have kl3 := hts (.methodLink RX2 3 objectInit) (List.mem_of_getElem? (i := 1) rfl)
  refine lv_aload_n hx hb dX2_init_0 rfl (lv_at hl 0 rfl) ?_
  refine W.objInit hx hb hown kl3 kio kco rfl (by rw [hml]; exact hl.1) rfl dX2_init_1 (Nat.le_of_ble_eq_true rfl) (Nat.le_of_ble_eq_true rfl) ?_
  refine W.eq (g2 := F0 m 4 ls []) rfl ?_
  refine lv_aload_n hx hb dX2_init_4 rfl (lv_at hl 0 rfl) ?_
  refine lv_aload_n hx hb dX2_init_5 rfl (lv_at hl 1 rfl) ?_
  refine x_putF (C := RX2) (T := TX2) (N := 6) (ci := 2) hx hb hts iX2 tyX2 tyX2_ok nmX2 hown hK hG 0 rfl rfl 0 (by decide) k9 rfl hin rfl rfl rfl rfl (Nat.le_of_ble_eq_true rfl) (w1 := [(o, .inr (2, [.ref o1, .null, .null, .null, .null, .null]))]) rfl dX2_init_6 (fun H locs hG => ?_)
  refine lv_aload_n hx hb dX2_init_9 rfl (lv_at hl 0 rfl) ?_
  refine lv_sipush (v := 300) hx hb dX2_init_10 (by decide) ?_
  refine x_newai hx hb kai hK hG hA (n := 300) (N := 300) (by decide) (by decide) (Nat.le_of_ble_eq_true rfl) (Nat.le_of_ble_eq_true rfl) (Nat.le_of_ble_eq_true rfl) dX2_init_13 (fun q13 H hG => ?_)
  replace hG : xG D A s.heap [(o, .inr (2, [.ref o1, .null, .null, .null, .null, .null])), (q13, .inl (κ 0, 300, .inl (fun _ => 0)))] H locs := hG
  refine W.widen (k := 1) (n := 300) (Nat.le_of_ble_eq_true rfl) (Nat.le_of_ble_eq_true rfl) ?_
  refine x_putF (C := RX2) (T := TX2) (N := 6) (ci := 2) hx hb hts iX2 tyX2 tyX2_ok nmX2 hown hK hG 0 rfl rfl 1 (by decide) k15 rfl hin rfl rfl rfl rfl (Nat.le_of_ble_eq_true rfl) (w1 := [(o, .inr (2, [.ref o1, .ref q13, .null, .null, .null, .null])), (q13, .inl (κ 0, 300, .inl (fun _ => 0)))]) rfl dX2_init_15 (fun H locs hG => ?_)
  refine lv_aload_n hx hb dX2_init_18 rfl (lv_at hl 0 rfl) ?_
  refine lv_sipush (v := 300) hx hb dX2_init_19 (by decide) ?_
  refine x_newai hx hb kai hK hG hA (n := 300) (N := 300) (by decide) (by decide) (Nat.le_of_ble_eq_true rfl) (Nat.le_of_ble_eq_true rfl) (Nat.le_of_ble_eq_true rfl) dX2_init_22 (fun q22 H hG => ?_)
  replace hG : xG D A s.heap [(o, .inr (2, [.ref o1, .ref q13, .null, .null, .null, .null])), (q13, .inl (κ 0, 300, .inl (fun _ => 0))), (q22, .inl (κ 0, 300, .inl (fun _ => 0)))] H locs := hG
  refine W.widen (k := 2) (n := 600) (Nat.le_of_ble_eq_true rfl) (Nat.le_of_ble_eq_true rfl) ?_
  refine x_putF (C := RX2) (T := TX2) (N := 6) (ci := 2) hx hb hts iX2 tyX2 tyX2_ok nmX2 hown hK hG 0 rfl rfl 2 (by decide) k19 rfl hin rfl rfl rfl rfl (Nat.le_of_ble_eq_true rfl) (w1 := [(o, .inr (2, [.ref o1, .ref q13, .ref q22, .null, .null, .null])), (q13, .inl (κ 0, 300, .inl (fun _ => 0))), (q22, .inl (κ 0, 300, .inl (fun _ => 0)))]) rfl dX2_init_24 (fun H locs hG => ?_)
  refine lv_aload_n hx hb dX2_init_27 rfl (lv_at hl 0 rfl) ?_
  refine lv_sipush (v := 300) hx hb dX2_init_28 (by decide) ?_
  refine x_newai hx hb kai hK hG hA (n := 300) (N := 300) (by decide) (by decide) (Nat.le_of_ble_eq_true rfl) (Nat.le_of_ble_eq_true rfl) (Nat.le_of_ble_eq_true rfl) dX2_init_31 (fun q31 H hG => ?_)
  replace hG : xG D A s.heap [(o, .inr (2, [.ref o1, .ref q13, .ref q22, .null, .null, .null])), (q13, .inl (κ 0, 300, .inl (fun _ => 0))), (q22, .inl (κ 0, 300, .inl (fun _ => 0))), (q31, .inl (κ 0, 300, .inl (fun _ => 0)))] H locs := hG
  refine W.widen (k := 3) (n := 900) (Nat.le_of_ble_eq_true rfl) (Nat.le_of_ble_eq_true rfl) ?_
  refine x_putF (C := RX2) (T := TX2) (N := 6) (ci := 2) hx hb hts iX2 tyX2 tyX2_ok nmX2 hown hK hG 0 rfl rfl 3 (by decide) k22 rfl hin rfl rfl rfl rfl (Nat.le_of_ble_eq_true rfl) (w1 := [(o, .inr (2, [.ref o1, .ref q13, .ref q22, .ref q31, .null, .null])), (q13, .inl (κ 0, 300, .inl (fun _ => 0))), (q22, .inl (κ 0, 300, .inl (fun _ => 0))), (q31, .inl (κ 0, 300, .inl (fun _ => 0)))]) rfl dX2_init_33 (fun H locs hG => ?_)
  refine lv_aload_n hx hb dX2_init_36 rfl (lv_at hl 0 rfl) ?_
  refine lv_sipush (v := 300) hx hb dX2_init_37 (by decide) ?_
  refine x_newai hx hb kai hK hG hA (n := 300) (N := 300) (by decide) (by decide) (Nat.le_of_ble_eq_true rfl) (Nat.le_of_ble_eq_true rfl) (Nat.le_of_ble_eq_true rfl) dX2_init_40 (fun q40 H hG => ?_)
  replace hG : xG D A s.heap [(o, .inr (2, [.ref o1, .ref q13, .ref q22, .ref q31, .null, .null])), (q13, .inl (κ 0, 300, .inl (fun _ => 0))), (q22, .inl (κ 0, 300, .inl (fun _ => 0))), (q31, .inl (κ 0, 300, .inl (fun _ => 0))), (q40, .inl (κ 0, 300, .inl (fun _ => 0)))] H locs := hG
  refine W.widen (k := 4) (n := 1200) (Nat.le_of_ble_eq_true rfl) (Nat.le_of_ble_eq_true rfl) ?_
  refine x_putF (C := RX2) (T := TX2) (N := 6) (ci := 2) hx hb hts iX2 tyX2 tyX2_ok nmX2 hown hK hG 0 rfl rfl 4 (by decide) k25 rfl hin rfl rfl rfl rfl (Nat.le_of_ble_eq_true rfl) (w1 := [(o, .inr (2, [.ref o1, .ref q13, .ref q22, .ref q31, .ref q40, .null])), (q13, .inl (κ 0, 300, .inl (fun _ => 0))), (q22, .inl (κ 0, 300, .inl (fun _ => 0))), (q31, .inl (κ 0, 300, .inl (fun _ => 0))), (q40, .inl (κ 0, 300, .inl (fun _ => 0)))]) rfl dX2_init_42 (fun H locs hG => ?_)
  refine lv_aload_n hx hb dX2_init_45 rfl (lv_at hl 0 rfl) ?_
  refine lv_bipush (v := 40) hx hb dX2_init_46 (by decide) ?_
  refine x_newai hx hb kai hK hG hA (n := 40) (N := 40) (by decide) (by decide) (Nat.le_of_ble_eq_true rfl) (Nat.le_of_ble_eq_true rfl) (Nat.le_of_ble_eq_true rfl) dX2_init_48 (fun q48 H hG => ?_)
  replace hG : xG D A s.heap [(o, .inr (2, [.ref o1, .ref q13, .ref q22, .ref q31, .ref q40, .null])), (q13, .inl (κ 0, 300, .inl (fun _ => 0))), (q22, .inl (κ 0, 300, .inl (fun _ => 0))), (q31, .inl (κ 0, 300, .inl (fun _ => 0))), (q40, .inl (κ 0, 300, .inl (fun _ => 0))), (q48, .inl (κ 0, 40, .inl (fun _ => 0)))] H locs := hG
  refine W.widen (k := 5) (n := 1240) (Nat.le_of_ble_eq_true rfl) (Nat.le_of_ble_eq_true rfl) ?_
  refine x_putF (C := RX2) (T := TX2) (N := 6) (ci := 2) hx hb hts iX2 tyX2 tyX2_ok nmX2 hown hK hG 0 rfl rfl 5 (by decide) k28 rfl hin rfl rfl rfl rfl (Nat.le_of_ble_eq_true rfl) (w1 := [(o, .inr (2, [.ref o1, .ref q13, .ref q22, .ref q31, .ref q40, .ref q48])), (q13, .inl (κ 0, 300, .inl (fun _ => 0))), (q22, .inl (κ 0, 300, .inl (fun _ => 0))), (q31, .inl (κ 0, 300, .inl (fun _ => 0))), (q40, .inl (κ 0, 300, .inl (fun _ => 0))), (q48, .inl (κ 0, 40, .inl (fun _ => 0)))]) rfl dX2_init_50 (fun H locs hG => ?_)
  have hG9 : xG D A s.heap (WR κ (fun k => if k = 0 then o1 else if k = 13 then o else if k = 14 then q13 else if k = 15 then q22 else if k = 16 then q31 else if k = 17 then q40 else if k = 18 then q48 else 0) RZ) H locs := hG
  exact W.vret hx hb hr (fun t ht hW => ⟨⟨(fun k => if k = 0 then o1 else if k = 13 then o else if k = 14 then q13 else if k = 15 then q22 else if k = 16 then q31 else if k = 17 then q40 else if k = 18 then q48 else 0), rfl, ⟨rfl, rfl⟩, by rw [ht]; exact hG9.1, va_K.moved hW.alike hK, hG9.2.1⟩, hG.2.2.F ht⟩) hG.2.2.2.2 dX2_init_53 hlk
set_option maxRecDepth 100000 in
set_option maxHeartbeats 4000000 in
theorem c_X3_init (l : Launch) (D : va_G) (κ : Nat → ClassId) (o o1 : Nat) (sz : Nat) : Met l yX3_init wsX3_init ({ frames := 1, cells := 1, slots := 8, locals := 12 } : Room) (fun a U => xPc D κ [.ref o, .ref o1] [(o, .inr (3, [.null, .null, .int 0, .int 0, .int 0, .int 0, .long 0, .long 0]))] sz a U ∧ True) (va_Qv (fun b : Nat → Nat => b 23 = o ∧ b 19 = o1) (fun (b : Nat → Nat) t => va_P D vwCl (WS κ b SZ) t.heap ∧ va_K D vwCl (xT κ) t ∧ va_D (va_A [(o, .inr (3, [.null, .null, .int 0, .int 0, .int 0, .int 0, .long 0, .long 0]))] sz) (WS κ b SZ)) (va_A [(o, .inr (3, [.null, .null, .int 0, .int 0, .int 0, .int 0, .long 0, .long 0]))] sz)) 1 8 (va_A [(o, .inr (3, [.null, .null, .int 0, .int 0, .int 0, .int 0, .long 0, .long 0]))] sz) := by
  refine x_ofWG (X := fun _ => True) (cc := cX3_init) (maxL := 2) (ret := none) (Qf := fun A => va_Qv (fun b : Nat → Nat => b 23 = o ∧ b 19 = o1) (fun (b : Nat → Nat) t => va_P D vwCl (WS κ b SZ) t.heap ∧ va_K D vwCl (xT κ) t ∧ va_D A (WS κ b SZ)) A) (by decide) rfl (Nat.le_of_ble_eq_true rfl) ?_
  intro p e s m below meth c hx hb hr hlk hml hnm hown hts hK _ A hA H locs hG ls hl
  have hl : lv_has ls 2 [(0, .ref o), (1, .ref o1)] := hl
  have hown : s.vm.findClass RX3 = some m.cls := hown
  have hin : meth.name = "<init>" := hnm
  have iX3 : ∀ w ∈ u_ws RX3 TX3 8, w ∈ wsX3_init := fun _ h => List.mem_cons_of_mem _ (List.mem_append_right _ h)
  have k15 := hts (.fieldLink RX3 15 "SpineDesks$Search" "into" "[I") (List.mem_of_getElem? (i := 6) rfl)
  have k9 := hts (.fieldLink RX3 9 "SpineDesks$Search" "net" "LSpineDesks$Net;") (List.mem_of_getElem? (i := 4) rfl)
  have kai := hts (.arrayClass .int) (List.mem_of_getElem? (i := 5) rfl)
  have kco := hts (.code objectInit ⟨#[0xb1]⟩ 1 none) (List.mem_of_getElem? (i := 3) rfl)
  have kio := hts (.instanceMethod objectInit) (List.mem_of_getElem? (i := 2) rfl)
  have kl3 := hts (.methodLink RX3 3 objectInit) (List.mem_of_getElem? (i := 1) rfl)
  refine lv_aload_n hx hb dX3_init_0 rfl (lv_at hl 0 rfl) ?_
  refine W.objInit hx hb hown kl3 kio kco rfl (by rw [hml]; exact hl.1) rfl dX3_init_1 (Nat.le_of_ble_eq_true rfl) (Nat.le_of_ble_eq_true rfl) ?_
  refine W.eq (g2 := F0 m 4 ls []) rfl ?_
  refine lv_aload_n hx hb dX3_init_4 rfl (lv_at hl 0 rfl) ?_
  refine lv_aload_n hx hb dX3_init_5 rfl (lv_at hl 1 rfl) ?_
  refine x_putF (C := RX3) (T := TX3) (N := 8) (ci := 3) hx hb hts iX3 tyX3 tyX3_ok nmX3 hown hK hG 0 rfl rfl 0 (by decide) k9 rfl hin rfl rfl rfl rfl (Nat.le_of_ble_eq_true rfl) (w1 := [(o, .inr (3, [.ref o1, .null, .int 0, .int 0, .int 0, .int 0, .long 0, .long 0]))]) rfl dX3_init_6 (fun H locs hG => ?_)
  refine lv_aload_n hx hb dX3_init_9 rfl (lv_at hl 0 rfl) ?_
  refine lv_bipush (v := 8) hx hb dX3_init_10 (by decide) ?_
  refine x_newai hx hb kai hK hG hA (n := 8) (N := 8) (by decide) (by decide) (Nat.le_of_ble_eq_true rfl) (Nat.le_of_ble_eq_true rfl) (Nat.le_of_ble_eq_true rfl) dX3_init_12 (fun q12 H hG => ?_)
  replace hG : xG D A s.heap [(o, .inr (3, [.ref o1, .null, .int 0, .int 0, .int 0, .int 0, .long 0, .long 0])), (q12, .inl (κ 0, 8, .inl (fun _ => 0)))] H locs := hG
  refine W.widen (k := 1) (n := 8) (Nat.le_of_ble_eq_true rfl) (Nat.le_of_ble_eq_true rfl) ?_
  refine x_putF (C := RX3) (T := TX3) (N := 8) (ci := 3) hx hb hts iX3 tyX3 tyX3_ok nmX3 hown hK hG 0 rfl rfl 1 (by decide) k15 rfl hin rfl rfl rfl rfl (Nat.le_of_ble_eq_true rfl) (w1 := [(o, .inr (3, [.ref o1, .ref q12, .int 0, .int 0, .int 0, .int 0, .long 0, .long 0])), (q12, .inl (κ 0, 8, .inl (fun _ => 0)))]) rfl dX3_init_14 (fun H locs hG => ?_)
  have hG9 : xG D A s.heap (WS κ (fun k => if k = 19 then o1 else if k = 23 then o else if k = 24 then q12 else 0) SZ) H locs := hG
  exact W.vret hx hb hr (fun t ht hW => ⟨⟨(fun k => if k = 19 then o1 else if k = 23 then o else if k = 24 then q12 else 0), rfl, ⟨rfl, rfl⟩, by rw [ht]; exact hG9.1, va_K.moved hW.alike hK, hG9.2.1⟩, hG.2.2.F ht⟩) hG.2.2.2.2 dX3_init_17 hlk
