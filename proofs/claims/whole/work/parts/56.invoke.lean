/-! THE SMALL MACHINE (5): the three ways to call. -/
/-- what is known of a method by its name -/
def mz_Mf (s : State) (y : MethodName) (bytes : ByteArray) (maxL : Nat) (ret : Option FieldType) (hs : List (Nat × Nat × Nat × Nat)) (mk : MethodId) (methk : Method) (ck : Code) : Prop := s.methodNamed? y = some mk ∧ s.vm.method? mk = some methk ∧ methk.code = some ck ∧ ck.code = bytes ∧ ck.maxLocals = maxL ∧ methk.sig.returnType = ret ∧ methk.locks = false ∧ ck.exceptionTable.toList.map (fun h => (h.startPc, h.endPc, h.handlerPc, h.catchType)) = hs ∧ parseMethodDescriptor y.desc = some methk.sig
theorem mz_Mf_code {s : State} {args : Array Value} {y : MethodName} {bytes : ByteArray} {maxL : Nat} {ret : Option FieldType} (h : (Jvm.Cond.code y bytes maxL ret).before args s = true) : ∃ mk methk ck, mz_Mf s y bytes maxL ret [] mk methk ck := by
  obtain ⟨mk, hn⟩ := Cond.code_named h
  obtain ⟨methk, ck, h1, h2, h3, h4, h5, h6, h7, h8⟩ := Cond.code_spec hn h
  refine ⟨mk, methk, ck, hn, h1, h2, h3, h4, h5, h6, ?_, h8⟩
  have h9 : ck.exceptionTable = #[] := by simpa using h7
  rw [h9]; rfl
theorem mz_Mf_with {s : State} {args : Array Value} {y : MethodName} {bytes : ByteArray} {maxL : Nat} {ret : Option FieldType} {hs : List (Nat × Nat × Nat × Nat)} (h : (Jvm.Cond.codeWith y bytes maxL ret hs).before args s = true) : ∃ mk methk ck, mz_Mf s y bytes maxL ret hs mk methk ck := by
  obtain ⟨mk, methk, ck, h1, h2, h3, h4, h5, h6, h7, h8, h9⟩ := Cond.codeWith_spec h
  exact ⟨mk, methk, ck, h1, h2, h3, h4, h5, h7, h8, h6, h9⟩
theorem mz_mr (m : MethodId) (pc : Nat) (ls : Array Slot) (st : List Value) : (F0 m pc ls st).monitorRoom = 0 := rfl
/-- the machine with an exception on its way through the method: it comes to Q -/
def mz_WT (p : Program) (l : Launch) (e : Env) (R : Room) (s : State) (m : MethodId) (args : Array Value) (below : List Frame) (meth : Method) (c : Code) (H : Heap) (locs : List Loc) (cells slots : Nat) (Q : State → Prop) (g : JFrame) (x : Addr) : Prop :=
  ∀ T : State, T.heap = H → Stand p l e R s m args below meth c T locs cells slots → ∃ t, Steps p.tables e below ((T.setTop g).pushFrame (.throwing x)) t ∧ Q t
section Mz5
variable {p : Program} {l : Launch} {e : Env} {R R' : Room} {s : State} {m : MethodId} {args : Array Value} {below : List Frame} {meth : Method} {c : Code} {H : Heap} {locs : List Loc} {cells slots : Nat} {Q : State → Prop} {cc : ByteArray} {pc len : Nat} {ls : Array Slot} {y : MethodName} {bytes : ByteArray} {maxL : Nat} {ret : Option FieldType} {hs : List (Nat × Nat × Nat × Nat)} {mk : MethodId} {methk : Method} {ck : Code} {A : Nat → Prop} {Post : (Option Value ⊕ Addr) → Heap → Nat → Nat → Prop} {a : Array Value} {rest : List Value}
theorem mz_Mf_at {T : State} (F : mz_Mf s y bytes maxL ret hs mk methk ck) (X : Stand p l e R s m args below meth c T locs cells slots) : mz_Mf T y bytes maxL ret hs mk methk ck :=
  ⟨X.named F.1, by rw [X.warmed.alike.method?]; exact F.2.1, F.2.2⟩
/-- what the caller gives: the callee's walk, and how it goes on -/
def mz_Cal (p : Program) (l : Launch) (e : Env) (R R' : Room) (s : State) (m : MethodId) (args : Array Value) (below : List Frame) (meth : Method) (c : Code) (H : Heap) (locs : List Loc) (cells slots : Nat) (Q : State → Prop) (y : MethodName) (bytes : ByteArray) (maxL : Nat) (ret : Option FieldType) (hs : List (Nat × Nat × Nat × Nat)) (mk : MethodId) (methk : Method) (ck : Code) (A : Nat → Prop) (Post : (Option Value ⊕ Addr) → Heap → Nat → Nat → Prop) (a : Array Value) (pc len : Nat) (ls : Array Slot) (rest : List Value) : Prop :=
  (∀ (T : State) (g : JFrame), T.heap = H → s.WarmedH T.vm → mz_Mf T y bytes maxL ret hs mk methk ck → W p l e R' (T.calling g mk a) mk a (.java g :: below) methk ck T.heap [] 0 0 (mz_End (.java g :: below) (T.calling g mk a) A Post) (entryFrame mk a maxL)) ∧
  (∀ (v : Option Value) (H' : Heap) (L : List Loc) (k n : Nat), Post (.inl v) H' k n → (∀ q ∈ L, A q.base) → W p l e R s m args below meth c H' (locs ++ L) (cells + k) (slots + n) Q (F0 m (pc + len) ls (v.toList ++ rest))) ∧
  (∀ (x : Addr) (H' : Heap) (L : List Loc) (k n : Nat), Post (.inr x) H' k n → (∀ q ∈ L, A q.base) → mz_WT p l e R s m args below meth c H' (locs ++ L) (cells + k) (slots + n) Q (F0 m pc ls rest) x)
/-- the room that a call takes -/
def mz_Rm (R R' : Room) (cells slots maxL : Nat) (rest : List Value) : Prop := R'.frames + 1 ≤ R.frames ∧ (rest.map fun v => v.category).sum + (maxL + 11) + R'.locals ≤ R.locals ∧ cells + R'.cells ≤ R.cells ∧ slots + R'.slots ≤ R.slots
theorem mz_after {T : State} (X : Stand p l e R s m args below meth c T locs cells slots) (hT : T.heap = H) (hsize : ls.size = c.maxLocals) {ig : Instr} (hdg : decode c.code pc = .ok (ig, len)) (F : mz_Mf s y bytes maxL ret hs mk methk ck) (hpl : plainFor y = true) (hR : mz_Rm R R' cells slots maxL rest)
    (hC : mz_Cal p l e R R' s m args below meth c H locs cells slots Q y bytes maxL ret hs mk methk ck A Post a pc len ls rest) : ∃ t, (∀ acts, Steps p.tables e below (doInvoke e (T.setTop (F0 m pc ls rest)) acts mk a).1 t) ∧ Q t := by
  obtain ⟨h1, h2, h3⟩ := hC
  have FT := mz_Mf_at F X
  obtain ⟨o, T', L, k, n, X', hL, hW', -, hpost, hst⟩ := mz_call (g := F0 m pc ls rest) X rfl hsize hdg a (R' := R') FT.2.1 FT.2.2.1 FT.2.2.2.2.2.2.1 (State.plainMethod.of_named hpl FT.1 FT.2.1) hR.1 (by show 2 * 0 + (rest.map fun v => v.category).sum + (ck.maxLocals + 11) + R'.locals ≤ R.locals; rw [FT.2.2.2.2.1]; have := hR.2.1; omega) hR.2.2.1 hR.2.2.2 (A := A) (Post := Post) (by rw [FT.2.2.2.2.1]; exact h1 T _ hT X.warmed FT)
  cases o with
  | inl v =>
    obtain ⟨t, ht, hq⟩ := h2 v T'.heap L k n hpost hL T' rfl X'
    exact ⟨t, fun acts => (hst acts).trans ht, hq⟩
  | inr x =>
    obtain ⟨t, ht, hq⟩ := h3 x T'.heap L k n hpost hL T' rfl X'
    exact ⟨t, fun acts => (hst acts).trans ht, hq⟩
theorem mz_callS (hx : p.tables.exec = Jvm.exec) (hb : c.code = cc) {own : String} {idx : Nat} (hown : s.vm.findClass own = some m.cls) (hlink : (Jvm.Cond.methodLink own idx y).before args s = true) (hstat : (Jvm.Cond.static y).before args s = true) (hinit : (Jvm.Cond.initialized y.cls).before args s = true) (hy : y.cls ≠ "java/lang/invoke/MethodHandle" ∧ y.cls ≠ "java/lang/invoke/VarHandle")
    (F : mz_Mf s y bytes maxL ret hs mk methk ck) (hpl : plainFor y = true) (hsize : ls.size = c.maxLocals) {argsL : List Value} (hlen : ∀ sig, parseMethodDescriptor y.desc = some sig → argsL.length = sig.parameters.length) (hdg : decode cc pc = .ok (.invokestatic idx, 3)) (hR : mz_Rm R R' cells slots maxL rest)
    (hC : mz_Cal p l e R R' s m args below meth c H locs cells slots Q y bytes maxL ret hs mk methk ck A Post argsL.toArray pc 3 ls rest) : W p l e R s m args below meth c H locs cells slots Q (F0 m pc ls (argsL.reverse ++ rest)) := by
  intro T hT X
  have hstatic : methk.isStatic = true := Cond.static_spec F.1 F.2.1 hstat
  obtain ⟨kP, hkP, -⟩ := className_of_methodNamed F.1
  have hinitP : kP.init = .initialized := Cond.initialized_spec (findClass_of_methodNamed F.1) hkP hinit
  obtain ⟨vm₁, X₁, hstep₁⟩ := X.invokestatic hx hown hlink F.1 F.2.1 hstatic hkP hinitP hy (g := F0 m pc ls (argsL.reverse ++ rest)) rfl (argsL := argsL) (rest := rest) (hlen _ F.2.2.2.2.2.2.2.2) rfl (by rw [hb]; exact hdg)
  obtain ⟨t, ht, hq⟩ := mz_after X₁ hT hsize (by rw [hb]; exact hdg) F hpl hR hC
  exact ⟨t, hstep₁ t ht, hq⟩
theorem mz_callV (hx : p.tables.exec = Jvm.exec) (hb : c.code = cc) {own C : String} {idx : Nat} (hown : s.vm.findClass own = some m.cls) (hlink : (Jvm.Cond.methodLink own idx y).before args s = true) (hinst : (Jvm.Cond.instanceMethod y).before args s = true) (hsel : (Jvm.Cond.selects C y y).before args s = true) (hy : y.cls ≠ "java/lang/invoke/MethodHandle" ∧ y.cls ≠ "java/lang/invoke/VarHandle")
    (F : mz_Mf s y bytes maxL ret hs mk methk ck) (hpl : plainFor y = true) (hsize : ls.size = c.maxLocals) {b : Addr} {cellB : Cell} (hcell : H[b]? = some cellB) (hobj : cellB.vm.isStatics = false) (hcls : s.vm.findClass C = some cellB.cls) {argsL : List Value} (hlen : ∀ sig, parseMethodDescriptor y.desc = some sig → argsL.length = sig.parameters.length) (hdg : decode cc pc = .ok (.invokevirtual idx, 3)) (hR : mz_Rm R R' cells slots maxL rest)
    (hC : mz_Cal p l e R R' s m args below meth c H locs cells slots Q y bytes maxL ret hs mk methk ck A Post (Value.ref b :: argsL).toArray pc 3 ls rest) : W p l e R s m args below meth c H locs cells slots Q (F0 m pc ls (argsL.reverse ++ .ref b :: rest)) := by
  intro T hT X
  obtain ⟨mk', methM, hnamed, hmethM, hstM, habM⟩ := Cond.instanceMethod_spec hinst
  cases F.1.symm.trans hnamed
  cases F.2.1.symm.trans hmethM
  obtain ⟨c2, r2, m2, q1, q2, q3, q4, kP, hkP, hkPi⟩ := Cond.selects_spec hsel
  cases hcls.symm.trans q1
  cases (State.methodFound?_of_named F.1 hy).symm.trans q2
  cases F.1.symm.trans q3
  have hselP : selectMethod e.platform s.vm cellB.cls mk = .method mk := by rw [Launch.admits_selectMethod X.admits]; exact q4
  obtain ⟨vm₁, X₁, hstep₁⟩ := X.invokevirtual hx hown hlink F.1 F.2.1 hstM hkP hkPi hy (a := b) (cell := cellB) (by rw [hT]; exact hcell)
    (fun z h => by rw [h] at hobj; cases hobj) hselP F.2.1 habM hkP hkPi (g := F0 m pc ls (argsL.reverse ++ .ref b :: rest)) rfl (argsL := argsL) (rest := rest) (hlen _ F.2.2.2.2.2.2.2.2) rfl (by rw [hb]; exact hdg)
  obtain ⟨t, ht, hq⟩ := mz_after X₁ hT hsize (by rw [hb]; exact hdg) F hpl hR hC
  exact ⟨t, hstep₁ t ht, hq⟩
end Mz5
section Mz6
variable {p : Program} {l : Launch} {e : Env} {R R' : Room} {s : State} {m : MethodId} {args : Array Value} {below : List Frame} {meth : Method} {c : Code} {H : Heap} {locs : List Loc} {cells slots : Nat} {Q : State → Prop} {cc : ByteArray} {pc len : Nat} {ls : Array Slot} {y : MethodName} {bytes : ByteArray} {maxL : Nat} {mk : MethodId} {methk : Method} {ck : Code} {A : Nat → Prop} {Post : (Option Value ⊕ Addr) → Heap → Nat → Nat → Prop} {rest : List Value}
theorem mz_callI (hx : p.tables.exec = Jvm.exec) (hb : c.code = cc) {own : String} {idx : Nat} (hown : s.vm.findClass own = some m.cls) (hy1 : y.name = "<init>") (hlink : (Jvm.Cond.methodLink own idx y).before args s = true ∨ ∃ host, (Jvm.Cond.methodLinkNest own idx y host).before args s = true) (hinst : (Jvm.Cond.instanceMethod y).before args s = true) (hcode : (Jvm.Cond.code y bytes maxL none).before args s = true) (hy : y.cls ≠ "java/lang/invoke/MethodHandle" ∧ y.cls ≠ "java/lang/invoke/VarHandle")
    (F : mz_Mf s y bytes maxL none [] mk methk ck) (hpl : plainFor y = true) (hsize : ls.size = c.maxLocals) {b : Addr} {argsL : List Value} (hlen : ∀ sig, parseMethodDescriptor y.desc = some sig → argsL.length = sig.parameters.length) (hdg : decode cc pc = .ok (.invokespecial idx, 3)) (hR : mz_Rm R R' cells slots maxL rest)
    (hC : mz_Cal p l e R R' s m args below meth c H locs cells slots Q y bytes maxL none [] mk methk ck A Post (Value.ref b :: argsL).toArray pc 3 ls rest) : W p l e R s m args below meth c H locs cells slots Q (F0 m pc ls (argsL.reverse ++ .ref b :: rest)) := by
  intro T hT X
  have hpl2 : e.platform.magicAccessors = ({} : Platform).magicAccessors := by rw [X.admits.platform]
  have key : ∃ vm₁, s.WarmedH vm₁ ∧ ∀ target, (∀ acts, Steps p.tables e below (doInvoke e ((T.setVm vm₁).setTop (F0 m pc ls rest)) acts mk (.ref b :: argsL).toArray).1 target) → Steps p.tables e below (T.setTop (F0 m pc ls (argsL.reverse ++ .ref b :: rest))) target := by
    rcases hlink with hlink | ⟨host, hlink⟩
    · obtain ⟨mk', methM, cM, kP, vm₁, hnamed, hmethM, hcodeM, -, hlocalsM, -, hkP, -, hW₁, hstep₁⟩ := Steps.initColdArgs (e := e) X.here hx X.warmed hpl2 hown hy1 hy hlink hinst hcode (f := F0 m pc ls (argsL.reverse ++ .ref b :: rest)) rfl hlen rfl (by rw [hb]; exact hdg)
      cases F.1.symm.trans hnamed
      exact ⟨vm₁, hW₁, hstep₁⟩
    · obtain ⟨mk', methM, cM, kP, vm₁, hnamed, hmethM, hcodeM, -, hlocalsM, -, hkP, -, hW₁, hstep₁⟩ := Steps.initColdArgsNest (e := e) X.here hx X.warmed hpl2 hown hy1 hy hlink hinst hcode (f := F0 m pc ls (argsL.reverse ++ .ref b :: rest)) rfl hlen rfl (by rw [hb]; exact hdg)
      cases F.1.symm.trans hnamed
      exact ⟨vm₁, hW₁, hstep₁⟩
  obtain ⟨vm₁, hW₁, hstep₁⟩ := key
  obtain ⟨t, ht, hq⟩ := mz_after (X.noted hW₁) hT hsize (by rw [hb]; exact hdg) F hpl hR hC
  exact ⟨t, hstep₁ t ht, hq⟩
/-- an exception that the method has no handler for goes on to its caller -/
theorem mz_thru {x : Addr} (hlocks : meth.locks = false) (hout : ∀ h ∈ c.exceptionTable.toList, covers h pc = false) (hA : ∀ q ∈ locs, A q.base) (hp : Post (.inr x) H cells slots) : mz_WT p l e R s m args below meth c H locs cells slots (mz_End below s A Post) (F0 m pc ls rest) x := by
  intro T hT X
  obtain ⟨h1, h2, h3, h4, h5⟩ := X.leaveThrown x (g := F0 m pc ls rest) rfl rfl rfl hout hlocks
  refine ⟨_, h1, .inr x, locs, cells, slots, h2, h3, h4, h5, hA, ?_⟩
  have : (T.setFrames (.throwing x :: below)).heap = H := hT
  rw [this]
  exact hp
/-- a method's own end -/
theorem mz_iret {v : Int32} (hx : p.tables.exec = Jvm.exec) (hb : c.code = cc) {ty : FieldType} (hr : meth.sig.returnType = some ty) (hn : narrow ty (.int v) = .int v) (hlocks : meth.locks = false) (hA : ∀ q ∈ locs, A q.base) (hp : Post (.inl (some (.int v))) H cells slots) (hdg : decode cc pc = .ok (.ireturn, 1)) : W p l e R s m args below meth c H locs cells slots (mz_End below s A Post) (F0 m pc ls [.int v]) := by
  intro T hT X
  obtain ⟨t, h1, o, h2, h3, ⟨rfl, h4⟩, L, ⟨-, h5, h6⟩, h7⟩ := W.zret (Qc := fun _ _ o t => o = .returned (some (.int v)) ∧ t.heap = H) (free := A) (ls := ls) hx hb hr hn (fun t h _ => ⟨rfl, h⟩) hA hdg hlocks T hT X
  exact ⟨t, h1, .inl (some (.int v)), L, cells, slots, h2, h3, h5, h6, h7, by rw [h4]; exact hp⟩
theorem mz_lret {v : Int64} (hx : p.tables.exec = Jvm.exec) (hb : c.code = cc) (hr : meth.sig.returnType = some .long) (hlocks : meth.locks = false) (hA : ∀ q ∈ locs, A q.base) (hp : Post (.inl (some (.long v))) H cells slots) (hdg : decode cc pc = .ok (.lreturn, 1)) : W p l e R s m args below meth c H locs cells slots (mz_End below s A Post) (F0 m pc ls [.long v]) := by
  intro T hT X
  obtain ⟨t, h1, o, h2, h3, ⟨rfl, h4⟩, L, ⟨-, h5, h6⟩, h7⟩ := W.lret (Qc := fun _ _ o t => o = .returned (some (.long v)) ∧ t.heap = H) (free := A) (ls := ls) hx hb hr (fun t h _ => ⟨rfl, h⟩) hA hdg hlocks T hT X
  exact ⟨t, h1, .inl (some (.long v)), L, cells, slots, h2, h3, h5, h6, h7, by rw [h4]; exact hp⟩
theorem mz_vret (hx : p.tables.exec = Jvm.exec) (hb : c.code = cc) (hr : meth.sig.returnType = none) (hlocks : meth.locks = false) (hA : ∀ q ∈ locs, A q.base) (hp : Post (.inl none) H cells slots) (hdg : decode cc pc = .ok (.return_, 1)) : W p l e R s m args below meth c H locs cells slots (mz_End below s A Post) (F0 m pc ls []) := by
  intro T hT X
  obtain ⟨t, h1, o, h2, h3, ⟨rfl, h4⟩, L, ⟨-, h5, h6⟩, h7⟩ := W.vret (Qc := fun _ _ o t => o = .returned none ∧ t.heap = H) (free := A) (ls := ls) hx hb hr (fun t h _ => ⟨rfl, h⟩) hA hdg hlocks T hT X
  exact ⟨t, h1, .inl none, L, cells, slots, h2, h3, h5, h6, h7, by rw [h4]; exact hp⟩
end Mz6
section Mz10
variable {p : Program} {l : Launch} {e : Env} {R : Room} {s : State} {m : MethodId} {args : Array Value} {below : List Frame} {meth : Method} {c : Code} {cc : ByteArray} {pc : Nat} {ls : Array Slot} {A : Nat → Prop} {Post : (Option Value ⊕ Addr) → Heap → Nat → Nat → Prop} {rest : List Value}
/-- the method makes an exception with a text and throws it, before it has written anything -/
theorem mz_throw (hx : p.tables.exec = Jvm.exec) (hb : c.code = cc) (htr : e.platform.stackTraces = false) {own cls tx : String} {names : List String} {ic inew istr q : Nat} (hown : s.vm.findClass own = some m.cls) (hclink : (Jvm.Cond.classLink own inew cls).before args s = true) (hins : (Jvm.Cond.instantiable cls 6).before args s = true) (hinit : (Jvm.Cond.initialized cls).before args s = true)
    (hcls : Bundle.fit cls = true) (hnames : ∀ n ∈ names, Bundle.fit n = true) (hat : ∀ a ∈ Bundle.ownAtoms own ic cls names, a.before args s = true) (hstr : vk_R own istr tx q s) (d0 : decode cc pc = .ok (.new inew, 3)) (d3 : decode cc (pc + 3) = .ok (.dup, 1)) (d4 : decode cc (pc + 4) = .ok (.ldc istr, 2)) (d6 : decode cc (pc + 6) = .ok (.invokespecial ic, 3)) (d9 : decode cc (pc + 9) = .ok (.athrow, 1))
    (hout : ∀ h ∈ c.exceptionTable.toList, covers h (pc + 9) = false) (hlocks : meth.locks = false) (hsize : ls.size = c.maxLocals) (hRc : 1 ≤ R.cells) (hRs : 6 ≤ R.slots) (hRf : names.length + 3 < R.frames) (hRl : 1 + (rest.map fun v => v.category).sum + (13 * (names.length + 1) + 42) ≤ R.locals)
    (hp : ∀ (H' : Heap) (cell : Cell), H'.size = s.heap.size + 1 → (∀ z, z < s.heap.size → H'[z]? = s.heap[z]?) → H'[s.heap.size]? = some cell → cell.vm = .none → s.vm.findClass cls = some cell.cls → Post (.inr s.heap.size) H' 1 6) : W p l e R s m args below meth c s.heap [] 0 0 (mz_End below s A Post) (F0 m pc ls rest) := by
  refine W.newc hx hb hown hclink hins hinit rfl d0 (by omega) (by omega) (fun cC kC h1 h2 h3 h4 => ?_)
  refine lv_dup (pc := pc + 3) (ls := ls) (rest := rest) (va := .ref s.heap.size) hx hb d3 rfl ?_
  refine va_ldcS (pc := pc + 3 + 1) hx hb hown hstr d4 ?_
  intro T hT X
  obtain ⟨U, u1, u2, u3, u4, u5, ce, u6, u7⟩ := X.ctorThrowS hx htr (a := s.heap.size) (msg := .ref q) (rest := rest) (g := F0 m (pc + 3 + 1 + 2) ls (.ref q :: .ref s.heap.size :: .ref s.heap.size :: rest)) hown hcls hnames hat (fun x hx => absurd hx List.not_mem_nil) h1 h2 (by rw [hT]; simp) (Nat.le_refl _) rfl rfl hsize rfl rfl rfl (by rw [hb]; exact d6) (by rw [hb]; exact d9) hout (by omega) (by show 2 * 0 + (1 + (rest.map fun v => v.category).sum) + (13 * (names.length + 1) + 42) ≤ R.locals; omega) hlocks
  refine ⟨U, u1, .inr s.heap.size, [], 1, 6, u2, u3, u4, by simpa using u5, fun q hq => absurd hq List.not_mem_nil, hp U.heap ce ?_ ?_ u6 u7.vm u7.cls⟩
  · have a1 : U.heap.size ≤ s.heap.size + (0 + 1) := u5.2.2.1
    have a2 : s.heap.size < U.heap.size := (Array.getElem?_eq_some_iff.mp u6).1
    omega
  · intro z hz
    obtain ⟨c', h1, h2, h3, h4⟩ := u5.2.2.2.2.2 z s.heap[z] (Array.getElem?_eq_getElem hz)
    have hs : c'.slots = s.heap[z].slots := Array.ext_getElem? (fun i => h4 i List.not_mem_nil)
    have h1' : U.heap[z]? = some c' := h1
    rw [h1', Array.getElem?_eq_getElem hz, h2, hs]
end Mz10
