/-- the law's world: the class' cells, the model's, the row for an answer, the paper's, what is kept -/
def LW (κ : Nat → ClassId) (a am : Nat → Nat) (ad : Nat) (uh : HS) (ur : RS) (un : NS) (us : SS) (uo : OS) (uv : MS) (fo : Nat → Int64) (wp wk0 wk1 : va_W) : va_W := (WH κ a uh ++ (WR κ a ur ++ (WN κ a un ++ (WS κ a us ++ WO κ a uo)))) ++ (WM κ am uv ++ ([(ad, .inl (κ 1, 1, .inr (.inl fo)))] ++ (wp ++ (wk0 ++ wk1))))
/-- at a place of the law's loop: jl calls read, jr calls done -/
def LAt (Rel : Nat → HS → NS → OS → HS → NS → HS → NS → MS → Prop) (D : va_G) (κ : Nat → ClassId) (p : Program) (l : Launch) (e : Env) (s : State) (m : MethodId) (below : List Frame) (meth : Method) (c : Code) (b : Nat) (pc jl jr : Nat) : Prop :=
  ∀ (a am : Nat → Nat) (ad : Nat) (uh : HS) (ur : RS) (un : NS) (us : SS) (uo : OS) (uv : MS) (fo : Nat → Int64) (wp wk0 wk1 : va_W) (pu u0 u1 : HS) (n0 n1 : NS), Rel jr uh un uo u0 n0 u1 n1 uv → xPap κ uo.paper wp pu → xKep κ (uo.kh 0) (uo.kn 0) wk0 u0 n0 → xKep κ (uo.kh 1) (uo.kn 1) wk1 u1 n1 →
    ∀ (H : Heap) (locs : List Loc) (ls : Array Slot), xG D (fun q : Nat => s.heap.size ≤ q) s.heap (LW κ a am ad uh ur un us uo uv fo wp wk0 wk1) H locs → lv_has ls 8 [(0, .ref b), (1, .ref (a 25)), (2, .ref (am 0)), (3, .ref ad), (4, .int (nI (5 * jl)))] → W p l e room_1 s m #[Value.ref b] below meth c H locs (48 + 17 * jr) (16900 + 2606 * jr) (lw_Z below #[Value.ref b] s) (F0 m pc ls [])
theorem x_sld {p : Program} {l : Launch} {e : Env} {R : Room} {s : State} {m : MethodId} {args : Array Value} {below : List Frame} {meth : Method} {c : Code} {H : Heap} {locs : List Loc} {cells slots : Nat} {Q : State → Prop} {cc : ByteArray} {pc : Nat} {ls : Array Slot} {rest : List Value} {b L jl : Nat} {xs : Nat → Int32} {k : Int32} {kn : Nat} (hk : k = nI kn) (hk5 : kn < 5) (hj : 5 * jl + 5 ≤ L) (hL : L ≤ 2560) (hx : p.tables.exec = Jvm.exec) (hb : c.code = cc) (hX : va_X b L xs s s.heap) (hbl : b < s.heap.size) (hS : va_S (fun q : Nat => s.heap.size ≤ q) s.heap H locs) (hdg : decode cc pc = .ok (.iaload, 1))
    (kk : ∀ x : Int32, x = xs (5 * jl + kn) → W p l e R s m args below meth c H locs cells slots Q (F0 m (pc + 1) ls (.int x :: rest))) : W p l e R s m args below meth c H locs cells slots Q (F0 m pc ls (.int (nI (5 * jl) + k) :: .ref b :: rest)) := by
  have e1 : nI (5 * jl) + k = nI (5 * jl + kn) := by rw [hk, nI_add]
  rw [e1]
  refine va_sld hx hb hX hbl (Nat.not_le.mpr hbl) hS (vp_in_nI (by omega) (by omega)) hdg ?_
  rw [nI_clamp (by omega)]
  exact kk _ rfl

