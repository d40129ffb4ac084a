/-! THE SMALL MACHINE (3): into a method and out of it, whether it returns or throws. -/
def mz_oc (o : Option Value ⊕ Addr) : Outcome := match o with
  | .inl v => .returned v
  | .inr x => .threw x
/-- a method's end: its outcome, the heap, how many cells and slots are new; only cells of A were written -/
def mz_End (below : List Frame) (s : State) (A : Nat → Prop) (Post : (Option Value ⊕ Addr) → Heap → Nat → Nat → Prop) (t : State) : Prop := ∃ (o : Option Value ⊕ Addr) (L : List Loc) (k n : Nat), t.status = .running ∧ Ended t below (mz_oc o) ∧ s.WarmedH t.vm ∧ s.sameButNew ({ t with vm := s.vm } : State) L k n ∧ (∀ q ∈ L, A q.base) ∧ Post o t.heap k n
/-- where the caller stands behind the call -/
def mz_to (T : State) (g : JFrame) (len : Nat) (o : Option Value ⊕ Addr) : State := match o with
  | .inl v => T.setTop { g with pc := g.pc + len, stack := v.toList ++ g.stack }
  | .inr x => (T.setTop g).pushFrame (.throwing x)
theorem mz_heap_top (T : State) (g : JFrame) : (T.setTop g).heap = T.heap := by simp [State.setTop, State.modifyTopJava, State.setFrames]
section Mz3
variable {p : Program} {l : Launch} {e : Env} {R : Room} {s : State} {m : MethodId} {args : Array Value} {below : List Frame} {meth : Method} {c : Code} {T : State} {locs : List Loc} {cells slots : Nat}
theorem mz_call (X : Stand p l e R s m args below meth c T locs cells slots) {g : JFrame} (hg : g.method = m) (hsize : g.locals.size = c.maxLocals) {ig : Instr} {len : Nat} (hdg : decode c.code g.pc = .ok (ig, len))
    {mk : MethodId} {methk : Method} {ck : Code} (a : Array Value) {R' : Room} (hmk : T.vm.method? mk = some methk) (hck : methk.code = some ck) (hlk : methk.locks = false) (hpk : T.plainMethod mk)
    (hframes : R'.frames + 1 ≤ R.frames) (hlocals : 2 * g.monitorRoom + (g.stack.map fun v => v.category).sum + (ck.maxLocals + 11) + R'.locals ≤ R.locals) (hcells : cells + R'.cells ≤ R.cells) (hslots : slots + R'.slots ≤ R.slots)
    {A : Nat → Prop} {Post : (Option Value ⊕ Addr) → Heap → Nat → Nat → Prop}
    (hW : W p l e R' (T.calling g mk a) mk a (.java g :: below) methk ck T.heap [] 0 0 (mz_End (.java g :: below) (T.calling g mk a) A Post) (entryFrame mk a ck.maxLocals)) :
    ∃ (o : Option Value ⊕ Addr) (T' : State) (L : List Loc) (k n : Nat), Stand p l e R s m args below meth c T' (locs ++ L) (cells + k) (slots + n) ∧ (∀ q ∈ L, A q.base) ∧ T.WarmedH T'.vm ∧ T.sameButNew (T'.setVm T.vm) L k n ∧ Post o T'.heap k n ∧ ∀ acts, Steps p.tables e below (doInvoke e (T.setTop g) acts mk a).1 (mz_to T' g len o) := by
  obtain ⟨Y, hin⟩ := X.into hg hsize hdg a (R' := R') hmk hck hlk hpk hframes hlocals hcells hslots
  have hh : ((T.setTop g).pushFrame (.java (entryFrame mk a ck.maxLocals))).heap = T.heap := by
    show (T.setTop g).heap = T.heap
    exact mz_heap_top T g
  obtain ⟨t, hst, o, L, k, n, h1, h2, h3, h4, h5, h6⟩ := hW _ hh Y
  cases o with
  | inl v =>
    obtain ⟨T', X', hW', hs, ht⟩ := X.outOf hg hdg h2 h3 h4
    have e1 : t.heap = T'.heap := by rw [ht]; exact mz_heap_top _ _
    refine ⟨.inl v, T', L, k, n, X', h5, hW', hs, e1 ▸ h6, fun acts => ?_⟩
    rw [hin acts]
    show Steps p.tables e below _ (T'.setTop { g with pc := g.pc + len, stack := v.toList ++ g.stack })
    rw [← ht]
    exact Steps.weaken (mid := [.java g]) hst
  | inr x =>
    obtain ⟨T', X', hW', hs, ht⟩ := X.outOfThrown hg h2 h3 h4
    have e1 : t.heap = T'.heap := by
      rw [ht]
      show (T'.setTop g).heap = T'.heap
      exact mz_heap_top T' g
    refine ⟨.inr x, T', L, k, n, X', h5, hW', hs, e1 ▸ h6, fun acts => ?_⟩
    rw [hin acts]
    show Steps p.tables e below _ ((T'.setTop g).pushFrame (.throwing x))
    rw [← ht]
    exact Steps.weaken (mid := [.java g]) hst
end Mz3
