/-! THE SMALL MACHINE (8a): arrays of arrays. -/
section MzM
variable {p : Program} {l : Launch} {e : Env} {R : Room} {s : State} {m : MethodId} {args : Array Value} {below : List Frame} {meth : Method} {c : Code} {H : Heap} {locs : List Loc} {cells slots : Nat} {Q : State → Prop} {cc : ByteArray} {pc : Nat} {ls : Array Slot}
/-- when i rows are made -/
def mu_I (p : Program) (l : Launch) (e : Env) (R : Room) (s : State) (m : MethodId) (args : Array Value) (below : List Frame) (meth : Method) (c : Code) (T0 : State) (f : JFrame) (vm1 : Vm) (cA comp : ClassId) (N K : Nat) (dv : Value) (locs : List Loc) (cells slots : Nat) (i : Nat) (U : State) : Prop :=
  ∃ (T : State) (L : List Loc), U = T.setTop f ∧ Stand p l e R s m args below meth c T L (cells + 1 + i) (slots + N + i * K) ∧ T.vm = vm1 ∧ T.heap.size = T0.heap.size + 1 + i ∧ T.slotsUsed = T0.slotsUsed + N + i * K ∧
    T.heap[T0.heap.size]? = some (arrV cA N (fun j => if j < i then .ref (T0.heap.size + 1 + j) else .null)) ∧ (∀ j, j < i → T.heap[T0.heap.size + 1 + j]? = some (arrV comp K (fun _ => dv))) ∧ (∀ q, q < T0.heap.size → T.heap[q]? = T0.heap[q]?) ∧ ∀ z ∈ L, z ∈ locs ∨ z.base = T0.heap.size
theorem mu_row {E : CtlPost} {d : Bool} {acts : List Action} {s : State} {comp cc : ClassId} {kc : Class} {type : FieldType} {k : Int32} (hkc : s.vm.classes[comp]? = some kc) (hkind : kc.kind = .array cc type) (hk : ¬ k < 0)
    (hl : ¬ k.toNatClampNeg > e.platform.arrayLengthLimit) (hh : ¬ k.toNatClampNeg * componentBytes type > e.platform.maxHeapBytes) (hf : fits type (defaultValue type) = true)
    (h1 : s.heap.size < e.platform.maxCells) (h2 : s.slotsUsed + k.toNatClampNeg ≤ e.platform.maxSlots) {Q : Addr → Pre} (hq : ∀ acts', Q s.heap.size d acts' (s.pushCell (arrV comp k.toNatClampNeg (fun _ => defaultValue type)))) :
    wp (multianewarray.make comp [k]) Q E e d acts s := by
  rw [multianewarray.make]
  simp only [wp_bind', W.ite, hk, if_false, wp_pure', W.theClass, hkc, hkind, Option.some.injEq, exists_eq_left']
  refine W.newArray_of hkc hkind hl hh h1 h2 hf fun acts' => ?_
  rw [arrV_new]
  exact hq acts'
theorem mu_all {E : CtlPost} {d : Bool} {acts : List Action} {T : State} {f : JFrame} {cA comp cb : ClassId} {kA kc : Class} {type : FieldType} {n k : Int32} (X : Stand p l e R s m args below meth c T locs cells slots)
    (hkA : T.vm.classes[cA]? = some kA) (hkindA : kA.kind = .array comp (.array type)) (hkc : T.vm.classes[comp]? = some kc) (hkindc : kc.kind = .array cb type) (hn : ¬ n < 0) (hk : ¬ k < 0)
    (hl1 : ¬ n.toNatClampNeg > e.platform.arrayLengthLimit) (hh1 : ¬ n.toNatClampNeg * componentBytes (.array type) > e.platform.maxHeapBytes) (hl2 : ¬ k.toNatClampNeg > e.platform.arrayLengthLimit) (hh2 : ¬ k.toNatClampNeg * componentBytes type > e.platform.maxHeapBytes)
    (hf : fits type (defaultValue type) = true) (hc : T.heap.size + 1 + n.toNatClampNeg ≤ e.platform.maxCells) (hs : T.slotsUsed + n.toNatClampNeg + n.toNatClampNeg * k.toNatClampNeg ≤ e.platform.maxSlots) {Q : Addr → Pre}
    (hq : ∀ d' acts' U, mu_I p l e R s m args below meth c T f T.vm cA comp n.toNatClampNeg k.toNatClampNeg (defaultValue type) locs cells slots n.toNatClampNeg U → Q T.heap.size d' acts' U) :
    wp (multianewarray.make cA [n, k]) Q E e d acts (T.setTop f) := by
  have hfind : ([k].find? (· < 0)) = none := by simp [hk]
  have hmul : ∀ i, i < n.toNatClampNeg → i * k.toNatClampNeg + k.toNatClampNeg ≤ n.toNatClampNeg * k.toNatClampNeg := fun i hi => by
    have := Nat.mul_le_mul_right k.toNatClampNeg (show i + 1 ≤ n.toNatClampNeg from hi)
    rw [Nat.succ_mul] at this; exact this
  rw [multianewarray.make]
  simp only [wp_bind', W.ite, hn, if_false, wp_pure', W.theClass, State.vm_setTop, hkA, hkindA, Option.some.injEq, exists_eq_left']
  refine W.newArray_of (s := T.setTop f) hkA hkindA hl1 hh1 (by show T.heap.size < _; omega) (by show T.slotsUsed + _ ≤ _; have := Nat.zero_le (n.toNatClampNeg * k.toNatClampNeg); omega) rfl fun acts1 => ?_
  simp only [hfind]
  rw [ite_self, wp_bind', Std.Legacy.Range.forIn_eq_forIn_range']
  have hsz : ([:n.toNatClampNeg] : Std.Legacy.Range).size = n.toNatClampNeg := by simp [Std.Legacy.Range.size]
  rw [hsz]
  show wp (forIn (List.range' 0 n.toNatClampNeg 1) PUnit.unit _) _ E e d acts1 _
  refine wp_forIn_inv (fun rest U => ∃ i, i ≤ n.toNatClampNeg ∧ rest = List.range' i (n.toNatClampNeg - i) ∧ mu_I p l e R s m args below meth c T f T.vm cA comp n.toNatClampNeg k.toNatClampNeg (defaultValue type) locs cells slots i U) _ _ ⟨0, Nat.zero_le _, rfl, ?_⟩ ?_ ?_
  · refine ⟨T.pushCell (arrV cA n.toNatClampNeg (fun _ => .null)), locs, ?_, ?_, rfl, ?_, ?_, ?_, fun j hj => absurd hj (Nat.not_lt_zero _), fun q hq => State.heap_pushCell_of_lt _ _ hq, fun z hz => Or.inl hz⟩
    · rw [← State.pushCell_setTop, ← arrV_new]
    · have h := X.pushed (arrV cA n.toNatClampNeg (fun _ => .null))
      rw [arrV_size] at h
      simpa using h
    · simp
    · simp [arrV_size]
    · rw [State.heap_pushCell_size]
      simp
  · rintro x rest U d' acts' Q' ⟨i, hi, hl, T', L, rfl, X', hvm, hz, hu, ho, hr, hold, hL⟩ hnext
    have hlt : i < n.toNatClampNeg := by
      rcases Nat.lt_or_ge i n.toNatClampNeg with h | h
      · exact h
      · rw [show n.toNatClampNeg - i = 0 from by omega] at hl; simp at hl
    obtain ⟨rfl, hrest⟩ : x = i ∧ rest = List.range' (i + 1) (n.toNatClampNeg - (i + 1)) := by
      rw [show n.toNatClampNeg - i = (n.toNatClampNeg - (i + 1)) + 1 from by omega, List.range'_succ] at hl
      exact ⟨(List.cons.inj hl).1, (List.cons.inj hl).2⟩
    have hm := hmul x hlt
    simp only [wp_bind']
    refine mu_row (s := T'.setTop f) (by show T'.vm.classes[comp]? = _; rw [hvm]; exact hkc) hkindc hk hl2 hh2 hf (by show T'.heap.size < _; omega) (by show T'.slotsUsed + _ ≤ _; omega) fun acts2 => ?_
    have hlt0 : T.heap.size < T'.heap.size := by omega
    have hcell : (T'.pushCell (arrV comp k.toNatClampNeg (fun _ => defaultValue type))).heap[T.heap.size]? = some (arrV cA n.toNatClampNeg (fun j => if j < x then .ref (T.heap.size + 1 + j) else .null)) := by
      rw [State.heap_pushCell_of_lt (h := hlt0)]; exact ho
    simp only [wp_bind', W.writeLoc, wp_pure']
    refine ⟨arrV cA n.toNatClampNeg (fun j => if j < x then .ref (T.heap.size + 1 + j) else .null), hcell, by simp [arrV], by rw [arrV_size]; exact hlt, ?_, hnext _ _ _ ⟨x + 1, hlt, hrest, ?_⟩⟩
    · have : ((T'.setTop f).pushCell (arrV comp k.toNatClampNeg (fun _ => defaultValue type))).vm.classes[cA]? = some kA := by show T'.vm.classes[cA]? = _; rw [hvm]; exact hkA
      simp [State.fitsSlot, State.slotType?, arrV, hvm, hkA, hkindA]
      rfl
    · have e1 : (arrV cA n.toNatClampNeg (fun j => if j < x then Value.ref (T.heap.size + 1 + j) else .null)).setSlot x (.ref T'.heap.size) = arrV cA n.toNatClampNeg (fun j => if j < x + 1 then Value.ref (T.heap.size + 1 + j) else .null) := by
        rw [arrV_store]
        congr 1
        funext j
        unfold updV
        by_cases h1 : j = x
        · rw [if_pos h1, if_pos (by omega), h1, hz]
        · rw [if_neg h1]
          show (if j < x then Value.ref (T.heap.size + 1 + j) else Value.null) = _
          by_cases h2 : j < x
          · rw [if_pos h2, if_pos (by omega)]
          · rw [if_neg h2, if_neg (by omega)]
      have X2 := (X'.pushed (arrV comp k.toNatClampNeg (fun _ => defaultValue type))).stored hcell x (.ref T'.heap.size)
      refine ⟨(T'.pushCell (arrV comp k.toNatClampNeg (fun _ => defaultValue type))).setCell T.heap.size ((arrV cA n.toNatClampNeg (fun j => if j < x then Value.ref (T.heap.size + 1 + j) else .null)).setSlot x (.ref T'.heap.size)), L ++ [⟨T.heap.size, x⟩], ?_, ?_, hvm, ?_, ?_, ?_, ?_, ?_, ?_⟩
      · rw [State.pushCell_setTop, State.setCell_setTop]
        rfl
      · rw [arrV_size] at X2
        rw [show cells + 1 + (x + 1) = cells + 1 + x + 1 by omega, show slots + n.toNatClampNeg + (x + 1) * k.toNatClampNeg = slots + n.toNatClampNeg + x * k.toNatClampNeg + k.toNatClampNeg by rw [Nat.succ_mul]; omega]
        exact X2
      · simp [State.setCell, hz]; omega
      · simp [hu, arrV_size, Nat.succ_mul]; omega
      · rw [State.heap_setCell_self hcell, e1]
      · intro j hj
        rw [State.heap_setCell_other (show T.heap.size ≠ T.heap.size + 1 + j by omega)]
        by_cases h1 : j < x
        · rw [State.heap_pushCell_of_lt _ _ (show T.heap.size + 1 + j < T'.heap.size by omega)]; exact hr j h1
        · rw [show T.heap.size + 1 + j = T'.heap.size by omega]
          exact State.heap_pushCell_size _ _
      · intro q hq
        rw [State.heap_setCell_other (show T.heap.size ≠ q by omega), State.heap_pushCell_of_lt _ _ (show q < T'.heap.size by omega)]
        exact hold q hq
      · intro z hz'
        rcases List.mem_append.mp hz' with h | h
        · exact hL z h
        · rw [List.mem_singleton] at h
          rw [h]; exact Or.inr rfl
  · rintro U d' acts' ⟨i, hi, hl, hI⟩
    have hiN : i = n.toNatClampNeg := by
      rcases Nat.lt_or_ge i n.toNatClampNeg with h | h
      · rw [show n.toNatClampNeg - i = (n.toNatClampNeg - (i + 1)) + 1 from by omega, List.range'_succ] at hl; cases hl
      · omega
    rw [hiN] at hI
    simp only [wp_pure']
    exact hq _ _ _ hI
set_option maxHeartbeats 4000000 in
theorem mu_sem {E : CtlPost} {d : Bool} {acts : List Action} {T : State} {f : JFrame} {index : Nat} {cA comp cb : ClassId} {kA kc : Class} {type : FieldType} {n k : Int32} {rest : List Value} (X : Stand p l e R s m args below meth c T locs cells slots) (hr : T.vm.classReady f.method.cls index cA) (hst : f.stack = .int k :: .int n :: rest)
    (hkA : T.vm.classes[cA]? = some kA) (hkindA : kA.kind = .array comp (.array type)) (hkc : T.vm.classes[comp]? = some kc) (hkindc : kc.kind = .array cb type) (hn : ¬ n < 0) (hk : ¬ k < 0)
    (hl1 : ¬ n.toNatClampNeg > e.platform.arrayLengthLimit) (hh1 : ¬ n.toNatClampNeg * componentBytes (.array type) > e.platform.maxHeapBytes) (hl2 : ¬ k.toNatClampNeg > e.platform.arrayLengthLimit) (hh2 : ¬ k.toNatClampNeg * componentBytes type > e.platform.maxHeapBytes)
    (hf : fits type (defaultValue type) = true) (hc : T.heap.size + 1 + n.toNatClampNeg ≤ e.platform.maxCells) (hs : T.slotsUsed + n.toNatClampNeg + n.toNatClampNeg * k.toNatClampNeg ≤ e.platform.maxSlots) {Q : Unit → Pre}
    (hq : ∀ d' acts' U, mu_I p l e R s m args below meth c T { f with stack := .ref T.heap.size :: rest } T.vm cA comp n.toNatClampNeg k.toNatClampNeg (defaultValue type) locs cells slots n.toNatClampNeg U → Q () d' acts' U) :
    wp (multianewarray.sem index 2) Q E e d acts (T.setTop f) := by
  have hs0 := X.here.top
  have hpop : ∀ (Q : List Value → Pre), wp (Jvm.popN 2) Q E e d acts (T.setTop f) ↔ Q [.int n, .int k] true acts (T.setTop { f with stack := rest }) := fun Q => by
    have h := popN_top (Q := Q) (E := E) (e := e) (d := d) (acts := acts) (f := f) hs0 (args := [.int n, .int k]) (rest := rest) hst
    simpa using h
  rw [multianewarray.sem]
  simp only [wp_bind', W.resolveClassAt_ready (State.method?_setTop f hs0) hr, hpop, List.mapM_cons, List.mapM_nil, wp_pure']
  refine mu_all X hkA hkindA hkc hkindc hn hk hl1 hh1 hl2 hh2 hf hc hs (fun d' acts' U hU => ?_)
  obtain ⟨T', L, rfl, X', h3⟩ := hU
  simp only [wp_bind', W.mark, W.pushRef, State.topJava?_setTop' _ X'.here.top, Option.some.injEq, exists_eq_left', State.setTop_setTop]
  exact hq _ _ _ ⟨T', L, rfl, X', h3⟩
set_option maxHeartbeats 4000000 in
/-- new T[n][k] -/
theorem mu_W (hx : p.tables.exec = Jvm.exec) (hb : c.code = cc) {own nm : String} {index : Nat} (hown : s.vm.findClass own = some m.cls) (hclink : (Jvm.Cond.classLink own index nm).before args s = true) {cA comp cb : ClassId} {kA kc : Class} {type : FieldType} (hcA : s.vm.findClass nm = some cA) (hkA : s.vm.classes[cA]? = some kA) (hkindA : kA.kind = .array comp (.array type)) (hkc : s.vm.classes[comp]? = some kc) (hkindc : kc.kind = .array cb type)
    (hf : fits type (defaultValue type) = true) (hcb : componentBytes type ≤ 8) {n k : Int32} {rest : List Value} (hn : ¬ n < 0) (hk : ¬ k < 0) (hb1 : n.toNatClampNeg * 4 ≤ 536870912) (hb2 : k.toNatClampNeg * 8 ≤ 536870912) (hcells : cells + (1 + n.toNatClampNeg) ≤ R.cells) (hslots : slots + (n.toNatClampNeg + n.toNatClampNeg * k.toNatClampNeg) ≤ R.slots) (hdg : decode cc pc = .ok (.multianewarray index 2, 4))
    (kk : ∀ (H' : Heap) (L : List Loc), H'.size = H.size + 1 + n.toNatClampNeg → H'[H.size]? = some (arrV cA n.toNatClampNeg (fun j => if j < n.toNatClampNeg then .ref (H.size + 1 + j) else .null)) → (∀ j, j < n.toNatClampNeg → H'[H.size + 1 + j]? = some (arrV comp k.toNatClampNeg (fun _ => defaultValue type))) → (∀ q, q < H.size → H'[q]? = H[q]?) → (∀ z ∈ L, z ∈ locs ∨ z.base = H.size) →
      W p l e R s m args below meth c H' L (cells + 1 + n.toNatClampNeg) (slots + n.toNatClampNeg + n.toNatClampNeg * k.toNatClampNeg) Q (F0 m (pc + 4) ls (.ref H.size :: rest))) : W p l e R s m args below meth c H locs cells slots Q (F0 m pc ls (.int k :: .int n :: rest)) := by
  intro T hT X
  subst hT
  have hpl : e.platform.magicAccessors = ({} : Platform).magicAccessors := by rw [X.admits.platform]
  obtain ⟨c', hfc, hcl⟩ := Cond.classLink_spec hown hclink e.platform hpl
  cases hcA.symm.trans hfc
  obtain ⟨hg₁, hwarm₁, hready₁⟩ := State.classEntry (e := e) X.warmed hcl
  generalize T.vm.noted m.cls index (.cls cA) = vm₁ at hg₁ hwarm₁ hready₁
  have hal : s.vm.Alike vm₁ := hwarm₁.alike
  obtain ⟨kA₁, hkA₁, heA⟩ := hal.2.2 _ _ hkA
  obtain ⟨kc₁, hkc₁, hec⟩ := hal.2.2 _ _ hkc
  have hkindA₁ : kA₁.kind = .array comp (.array type) := by rw [heA]; exact hkindA
  have hkindc₁ : kc₁.kind = .array cb type := by rw [hec]; exact hkindc
  have X₁ := X.noted hwarm₁
  obtain ⟨hr1, hr2⟩ := X.roomAbove hcells hslots
  have hl1 : ¬ n.toNatClampNeg > e.platform.arrayLengthLimit := by rw [Launch.admits_arrayLengthLimit X.admits]; omega
  have hl2 : ¬ k.toNatClampNeg > e.platform.arrayLengthLimit := by rw [Launch.admits_arrayLengthLimit X.admits]; omega
  have hh1 : ¬ n.toNatClampNeg * componentBytes (.array type) > e.platform.maxHeapBytes := by
    rw [Launch.admits_maxHeapBytes X.admits]; show ¬ n.toNatClampNeg * 4 > 536870912; omega
  have hh2 : ¬ k.toNatClampNeg * componentBytes type > e.platform.maxHeapBytes := by
    rw [Launch.admits_maxHeapBytes X.admits]
    have := Nat.mul_le_mul_left k.toNatClampNeg hcb
    omega
  have hcold : ∀ (Q : Unit → Pre) (E : CtlPost) (d : Bool) (acts : List Action), wp (multianewarray.sem index 2) Q E e d acts (T.setTop (F0 m pc ls (.int k :: .int n :: rest))) ↔ wp (multianewarray.sem index 2) Q E e d acts ((T.setVm vm₁).setTop (F0 m pc ls (.int k :: .int n :: rest))) := fun Q E d acts => by
    simp only [multianewarray.sem, wp_bind']
    exact W.resolveClassAt_transfer (s := T.setTop (F0 m pc ls (.int k :: .int n :: rest))) (State.method?_setTop _ X.here.top) hg₁ hready₁
  have key : wpRun (Jvm.exec (.multianewarray index 2)) (fun _ U _ => mu_I p l e R s m args below meth c (T.setVm vm₁) (F0 m pc ls (.ref T.heap.size :: rest)) vm₁ cA comp n.toNatClampNeg k.toNatClampNeg (defaultValue type) locs cells slots n.toNatClampNeg U) (fun _ _ _ => False) e (T.setTop (F0 m pc ls (.int k :: .int n :: rest))) := by
    show wp (multianewarray.sem index 2) _ _ e false [] _
    rw [hcold]
    exact mu_sem (T := T.setVm vm₁) (f := F0 m pc ls (.int k :: .int n :: rest)) X₁ hready₁ rfl hkA₁ hkindA₁ hkc₁ hkindc₁ hn hk hl1 hh1 hl2 hh2 hf (by show T.heap.size + 1 + _ ≤ _; omega) (by show T.slotsUsed + _ + _ ≤ _; omega) (fun d' acts' U hU => hU)
  have hrun := (wpRun_iff_run _ _ _ _ _).mp key
  cases hres : (Jvm.exec (.multianewarray index 2)).run e (T.setTop (F0 m pc ls (.int k :: .int n :: rest))) with
  | ctl x U as =>
    rw [hres] at hrun
    cases x <;> exact absurd hrun (fun q => q)
  | ok a U as =>
    rw [hres] at hrun
    obtain ⟨T', L, hU, X', hvm, hz, hu, ho, hrw, hold, hL⟩ := hrun
    obtain ⟨t, a1, b1⟩ := kk T'.heap L hz ho hrw hold hL T' rfl X'
    refine ⟨t, ?_, b1⟩
    refine Steps.instr (c := c) (by simpa using X.here) ?_
    have hdg' : decode c.code (F0 m pc ls (.int k :: .int n :: rest)).pc = .ok (.multianewarray index 2, 4) := by rw [hb]; exact hdg
    rw [hdg']
    show wpRun (p.tables.exec (.multianewarray index 2)) _ _ e _
    rw [hx]
    refine (wpRun_iff_run _ _ _ _ _).mpr ?_
    rw [hres]
    intro acts'
    rw [hU, afterInstr_ok]
    exact a1
end MzM
