/-! THE SMALL MACHINE (6): an exception is caught by a clause whose class may be resolved here for the first time. -/
section Mz7
variable {E : CtlPost} {e : Env} {d : Bool} {acts : List Action} {s : State} {f : JFrame} {a : Addr} {Q : Handler → Pre}
theorem mz_go_cold {x : ExceptionTableEntry} {t : List ExceptionTableEntry} {c : ClassId} {cell : Cell} (hx : covers x f.pc = true) (h0 : x.catchType ≠ 0)
    (hr : s.vm.ClassLinks e.platform f.method.cls x.catchType c) (hcell : s.heap[a]? = some cell) (hobj : ∀ k, cell.vm ≠ .statics k) {vm' : Vm} (hvm : vm' = s.vm.noted f.method.cls x.catchType (.cls c)) (hsz : vm'.classes.size ≤ s.vm.classes.size)
    (hk : ∃ k, vm'.classes[cell.cls]? = some k) (hc : ∃ k, vm'.classes[c]? = some k) :
    wp (findHandler.go f a (x :: t)) Q E e d acts s ↔
      if vm'.assignable cell.cls c = true then Q (.found x.handlerPc) d acts (s.setVm vm') else wp (findHandler.go f a t) Q E e d acts (s.setVm vm') := by
  simp only [covers] at hx
  obtain ⟨ha, ht⟩ := (resolveClass_links e.toSetting hr).op (op := VmOp.resolveClass f.method.cls x.catchType) rfl
  rw [← hvm] at ht
  cases hfit : vm'.assignable cell.cls c <;>
    simp [findHandler.go, hx, h0, ha, ht, hsz, hcell, hobj, hk, hc, hfit, VmOp.dirties, VmOp.acts]
end Mz7
section Mz8
variable {e : Env} {s U : State} {f : JFrame} {a : Addr}
/-- the clauses one by one: each covers the pc; the first of the thrown kind takes it -/
theorem mz_fg {cid : Nat → ClassId} {k : Nat} {cell : Cell} (hcell : U.heap[a]? = some cell) (hobj : ∀ z, cell.vm ≠ .statics z) (hcls : cell.cls = cid k) :
    ∀ (tbl : List (ExceptionTableEntry × Nat)) (vm₀ : Vm), s.WarmedH vm₀ → (∀ q ∈ tbl, covers q.1 f.pc = true ∧ q.1.catchType ≠ 0 ∧ s.vm.ClassLinks e.platform f.method.cls q.1.catchType (cid q.2) ∧ (∃ z, s.vm.classes[cid k]? = some z) ∧ (∃ z, s.vm.classes[cid q.2]? = some z) ∧ s.vm.assignable (cid k) (cid q.2) = decide (q.2 = k)) →
    ∀ pc, (tbl.find? (fun q => q.2 == k)).map (fun q => q.1.handlerPc) = some pc → ∃ vm', s.WarmedH vm' ∧ ∀ (Q : Handler → Pre) (E : CtlPost) (d : Bool) (acts : List Action), wp (findHandler.go f a (tbl.map (·.1))) Q E e d acts (U.setVm vm₀) ↔ Q (.found pc) d acts (U.setVm vm') := by
  intro tbl
  induction tbl with
  | nil => intro vm₀ _ _ pc h; simp at h
  | cons q r ih =>
    intro vm₀ hW hq pc hpc
    obtain ⟨h1, h2, h3, ⟨z1, h4⟩, ⟨z2, h5⟩, h6⟩ := hq q List.mem_cons_self
    obtain ⟨g1, g2, g3⟩ := State.classEntry (e := e) hW h3
    obtain ⟨y1, hy1, -⟩ := g2.alike.2.2 _ _ h4
    obtain ⟨y2, hy2, -⟩ := g2.alike.2.2 _ _ h5
    have hl : (U.setVm vm₀).vm.ClassLinks e.platform f.method.cls q.1.catchType (cid q.2) := hW.classLinks h3
    have key := fun (Q : Handler → Pre) (E : CtlPost) (d : Bool) (acts : List Action) => mz_go_cold (E := E) (d := d) (acts := acts) (Q := Q) (t := r.map (·.1)) (s := U.setVm vm₀) (vm' := vm₀.noted f.method.cls q.1.catchType (.cls (cid q.2))) h1 h2 hl hcell hobj rfl (by no_record) ⟨y1, by rw [hcls]; exact hy1⟩ ⟨y2, hy2⟩
    have has : (vm₀.noted f.method.cls q.1.catchType (.cls (cid q.2))).assignable cell.cls (cid q.2) = decide (q.2 = k) := by rw [g2.alike.assignable, hcls, h6]
    by_cases hk : q.2 = k
    · have e1 : q.1.handlerPc = pc := by simpa [List.find?, hk] using hpc
      refine ⟨_, g2, fun Q E d acts => ?_⟩
      rw [List.map_cons, key Q E d acts, has, if_pos (by simpa using hk), e1]
      exact Iff.rfl
    · have hb : (q.2 == k) = false := by simpa using hk
      have hpc' : (r.find? (fun q => q.2 == k)).map (fun q => q.1.handlerPc) = some pc := by simpa [List.find?, hb] using hpc
      obtain ⟨vm', i1, i2⟩ := ih _ g2 (fun w hw => hq w (List.mem_cons_of_mem _ hw)) pc hpc'
      refine ⟨vm', i1, fun Q E d acts => ?_⟩
      rw [List.map_cons, key Q E d acts, has, if_neg (by simpa using hk)]
      exact i2 Q E d acts
/-- into the handler -/
theorem mz_step_catch {r : List Frame} {pc : Nat} {vm' : Vm} (hfind : ∀ (Q : Handler → Pre) (E : CtlPost) (d : Bool) (acts : List Action), wp (findHandler f a) Q E e d acts s ↔ Q (.found pc) d acts (s.setVm vm')) :
    (stepThrowing e s a (.java f :: r)).Is ((s.setVm vm').setFrames (.java { f with pc := pc, stack := [.ref a] } :: r)) [] := by
  simp only [stepThrowing, searchFrame, vmDo]
  generalize hr : Sem.go _ e false [] s = res
  obtain ⟨as, rfl, ha⟩ := Sem.eq_ok_of hr (a := Handler.found pc) (s' := s.setVm vm') (acts' := []) (by simp [hfind _ _ _ _])
  exact ⟨rfl, ha⟩
end Mz8
section Mz9
variable {p : Program} {l : Launch} {e : Env} {R : Room} {s : State} {m : MethodId} {args : Array Value} {below : List Frame} {meth : Method} {c : Code} {H : Heap} {locs : List Loc} {cells slots : Nat} {Q : State → Prop} {pc : Nat} {ls : Array Slot} {rest : List Value}
/-- an exception that a clause of the method takes -/
theorem mz_catch {cid : Nat → ClassId} {k : Nat} {x : Addr} {cell : Cell} (hcell : H[x]? = some cell) (hobj : ∀ z, cell.vm ≠ .statics z) (hcls : cell.cls = cid k) {tbl : List (ExceptionTableEntry × Nat)} (htbl : c.exceptionTable.toList = tbl.map (·.1))
    (hq : ∀ (pl : Platform), pl.magicAccessors = ({} : Platform).magicAccessors → ∀ q ∈ tbl, covers q.1 pc = true ∧ q.1.catchType ≠ 0 ∧ s.vm.ClassLinks pl m.cls q.1.catchType (cid q.2) ∧ (∃ z, s.vm.classes[cid k]? = some z) ∧ (∃ z, s.vm.classes[cid q.2]? = some z) ∧ s.vm.assignable (cid k) (cid q.2) = decide (q.2 = k)) {hpc : Nat} (hf : (tbl.find? (fun q => q.2 == k)).map (fun q => q.1.handlerPc) = some hpc)
    (kk : W p l e R s m args below meth c H locs cells slots Q (F0 m hpc ls [.ref x])) : mz_WT p l e R s m args below meth c H locs cells slots Q (F0 m pc ls rest) x := by
  intro T hT X
  have hpl2 : e.platform.magicAccessors = ({} : Platform).magicAccessors := by rw [X.admits.platform]
  obtain ⟨vm', hW, hfg⟩ := mz_fg (e := e) (s := s) (U := (T.setTop (F0 m pc ls rest)).pushFrame (.throwing x)) (f := F0 m pc ls rest) (a := x) (cid := cid) (k := k) (cell := cell) (by rw [Stand.throwing_heap, hT]; exact hcell) hobj hcls tbl T.vm X.warmed (hq e.platform hpl2) hpc hf
  have hself : ((T.setTop (F0 m pc ls rest)).pushFrame (.throwing x)).setVm T.vm = (T.setTop (F0 m pc ls rest)).pushFrame (.throwing x) := by rfl
  rw [hself] at hfg
  have hmeth : ((T.setTop (F0 m pc ls rest)).pushFrame (.throwing x)).vm.method? (F0 m pc ls rest).method = some meth := by rw [Stand.throwing_vm]; exact X.method'
  have hfind : ∀ (Q : Handler → Pre) (E : CtlPost) (d : Bool) (acts : List Action), wp (findHandler (F0 m pc ls rest) x) Q E e d acts ((T.setTop (F0 m pc ls rest)).pushFrame (.throwing x)) ↔ Q (.found hpc) d acts (((T.setTop (F0 m pc ls rest)).pushFrame (.throwing x)).setVm vm') := by
    intro Q E d acts
    rw [W.findHandler_eq hmeth X.code, htbl]
    exact hfg Q E d acts
  obtain ⟨t, h1, h2⟩ := kk (T.setVm vm') hT (X.noted hW)
  refine ⟨t, ?_, h2⟩
  obtain ⟨hgo, hw⟩ := (show At T (F0 m pc ls rest).method c below from X.here).throwing x
  refine Steps.head hgo hw ?_
  rw [stepThread_throwing (frames_entered X.here.top _), (mz_step_catch (s := (T.setTop (F0 m pc ls rest)).pushFrame (.throwing x)) hfind).1]
  obtain ⟨g₀, hg⟩ := Option.isSome_iff_exists.mp X.here.top
  obtain ⟨r, hr⟩ := State.topJava?_eq_some.mp hg
  have hr' : (T.setVm vm').frames = .java g₀ :: r := hr
  rw [State.setTop_of_frames _ hr'] at h1
  have e1 : (((T.setTop (F0 m pc ls rest)).pushFrame (.throwing x)).setVm vm') = ((T.setVm vm').setTop (F0 m pc ls rest)).pushFrame (.throwing x) := by rfl
  rw [e1, State.pushFrame, State.setFrames_setFrames, State.setTop_of_frames _ hr', State.setFrames_setFrames, hr]
  exact h1
end Mz9
