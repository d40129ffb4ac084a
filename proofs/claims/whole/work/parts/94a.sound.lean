/-! THE SMALL MACHINE (10): what the small machine comes to, the machine comes to. -/
def mz_cok (ok : Nat → mz_i → Prop) : Nat → List mz_i → Prop
  | _, [] => True
  | pc, q :: r => ok pc q ∧ mz_cok ok (pc + q.2.2.1) r
theorem mz_cok_sf {ok : Nat → mz_i → Prop} : ∀ (code : List mz_i) (pc0 t : Nat), mz_cok ok pc0 code → mz_cok ok (pc0 + t) (mz_sf code t) := by
  intro code
  induction code with
  | nil => intro pc0 t h; exact trivial
  | cons q r ih =>
    intro pc0 t h
    unfold mz_sf
    by_cases h0 : t = 0
    · rw [if_pos h0, h0]; exact h
    · rw [if_neg h0]
      by_cases h1 : t < q.2.2.1
      · rw [if_pos h1]; exact trivial
      · rw [if_neg h1]
        have h2 := ih (pc0 + q.2.2.1) (t - q.2.2.1) h.2
        rw [show pc0 + q.2.2.1 + (t - q.2.2.1) = pc0 + t by omega] at h2
        exact h2
/-- words of the tables that last through a run -/
def mz_good (w : Jvm.Cond) : Bool := (w.onTables && w.keeps) || match w with
  | .arrayClass _ => true
  | .methodLinkNest _ _ _ _ => true
  | .castable _ _ => true
  | .declares _ => true
  | _ => false
theorem mz_per {w : Jvm.Cond} (hg : mz_good w = true) {a a' : Array Value} {s U : State} (hW : s.WarmedH U.vm) (h : w.before a s = true) : w.before a' U = true := by
  unfold mz_good at hg
  rw [Bool.or_eq_true] at hg
  rcases hg with hg | hg
  · exact word_at hW (Or.inl hg) h
  · split at hg
    · exact word_at hW (Or.inr ⟨_, rfl⟩) h
    · exact va_tabs rfl (rfl : (s.setVm U.vm).vm = U.vm) (Cond.methodLinkNest_warmed hW h)
    · exact va_tabs rfl (rfl : (s.setVm U.vm).vm = U.vm) ((Cond.castable_setVm (args := a) hW.alike _ _).trans h)
    · exact va_tabs rfl (rfl : (s.setVm U.vm).vm = U.vm) ((Cond.declares_setVm (args := a) hW.alike _).trans h)
    · cases hg
/-- the two kinds of exceptions -/
def mz_en (k : Nat) : String := if k = 0 then "java/lang/IllegalArgumentException" else "java/lang/IllegalStateException"
/-- where a class's static field is laid -/
def mz_ls (C n d : String) (A : Nat → Prop) (U : State) (H : Heap) : Prop := ∃ (c : ClassId) (k : Class) (i : Nat) (f : Field) (a : Nat) (cell : Cell), U.vm.findClass C = some c ∧ U.fieldFound? C n d = some (c, k, i, f) ∧ f.isStatic = true ∧ k.statics = some a ∧ H[a]? = some cell ∧ cell.vm.isStatics = true ∧ cell.cls = c ∧ f.slot < cell.slots.size ∧ k.staticTypes[f.slot]? = some f.type ∧ ¬ A a
theorem mz_ls.moved {C n d : String} {A : Nat → Prop} {u U : State} {H : Heap} (hvm : u.vm.Alike U.vm) (h : mz_ls C n d A u H) : mz_ls C n d A U H := by
  obtain ⟨c, k, i, f, a, cell, h1, h2, h3, h4, h5, h6, h7, h8, h9, h10⟩ := h
  obtain ⟨k', hi', he⟩ := State.fieldFound?_setVm hvm h2
  exact ⟨c, k', i, f, a, cell, by rw [hvm.findClass]; exact h1, hi', h3, by rw [he]; exact h4, h5, h6, h7, h8, by rw [he]; exact h9, h10⟩
theorem mz_ls.kept {C n d : String} {A : Nat → Prop} {U : State} {H H1 : Heap} (h : mz_ls C n d A U H) (hq : ∀ a : Nat, a < H.size → ¬ A a → H1[a]? = H[a]?) : mz_ls C n d A U H1 := by
  obtain ⟨c, k, i, f, a, cell, h1, h2, h3, h4, h5, h6, h7, h8, h9, h10⟩ := h
  exact ⟨c, k, i, f, a, cell, h1, h2, h3, h4, by rw [hq a (Array.getElem?_eq_some_iff.mp h5).1 h10]; exact h5, h6, h7, h8, h9, h10⟩
theorem mz_ls.use {C n d : String} {A : Nat → Prop} {U : State} (h : mz_ls C n d A U U.heap) (args : Array Value) : (Jvm.Cond.laysStatic C n d).before args U = true := by
  obtain ⟨c, k, i, f, a, cell, h1, h2, h3, h4, h5, h6, h7, h8, h9, h10⟩ := h
  exact Cond.laysStatic_of h1 h2 h3 h4 h5 h6 h7 h8 h9
theorem mz_ls.of {C n d : String} {A : Nat → Prop} {U : State} {args : Array Value} (h : (Jvm.Cond.laysStatic C n d).before args U = true) (hA : ∀ a : Nat, a < U.heap.size → ¬ A a) : mz_ls C n d A U U.heap := by
  obtain ⟨c, k, i, f, a, cell, hc, hi, hst, ha, hcell, hs, hcls, hlt, hty⟩ := Cond.laysStatic_spec h
  exact ⟨c, k, i, f, a, cell, hc, hi, hst, ha, hcell, hs, hcls, hlt, hty, hA a (Array.getElem?_eq_some_iff.mp hcell).1⟩
/-- the classes of int[][] and long[][] are over those of int[] and long[] -/
def mz_ca (cA : Nat → ClassId) (s : State) : Prop := (∃ k, s.vm.classes[cA 4]? = some k ∧ k.kind = .array (cA 0) (.array .int)) ∧ (∃ k, s.vm.classes[cA 5]? = some k ∧ k.kind = .array (cA 1) (.array .long))
theorem mz_ca_on {cA : Nat → ClassId} {s U : State} (hW : s.WarmedH U.vm) (h : mz_ca cA s) : mz_ca cA U := by
  obtain ⟨⟨k1, h1, h2⟩, ⟨k2, h3, h4⟩⟩ := h
  obtain ⟨k1', g1, e1⟩ := hW.alike.2.2 _ _ h1
  obtain ⟨k2', g2, e2⟩ := hW.alike.2.2 _ _ h3
  exact ⟨⟨k1', g1, by rw [e1]; exact h2⟩, ⟨k2', g2, by rw [e2]; exact h4⟩⟩
/-- the Reader's texts: their entries and their cells -/
def mz_tx : List (Nat × Nat) := [(101, 0), (122, 1), (124, 2)]
/-- a static array outside: class, name, its cell -/
abbrev mz_st : Type := List (String × String × Nat)
section Mz13
variable (PG : Nat → Option mz_D) (FK : Nat → List Nat) (cl : List vw_C) (Ts : List Jvm.Cond) (ST : mz_st) (D : va_G) (ad : Nat → Nat) (cA : Nat → ClassId) (b : Nat) (cid : Nat → ClassId) (X : Nat → Option (Nat × (Nat → Int32))) (adV : Nat → Nat)
/-- what holds at every method's entry, of all that was there before the law began -/
def mz_cx (s : State) : Prop := (∀ w ∈ Ts, ∀ a, w.before a s = true) ∧ va_K D cl (mz_tys cA) s ∧ mz_X X ad (fun q => b ≤ q) s s.heap ∧ (∀ q ∈ ST, va_Z q.1 q.2.1 "[I" (.ref (ad q.2.2)) (fun q => b ≤ q) s s.heap) ∧
  (∀ k, k < 2 → s.vm.findClass (mz_en k) = some (cid k) ∧ (∃ z, s.vm.classes[cid k]? = some z) ∧ ∀ k', k' < 2 → s.vm.assignable (cid k) (cid k') = decide (k' = k)) ∧
  (∀ i ∈ [85, 92, 95, 97], ∃ tx q, vk_R "KeptHouse" i tx q s) ∧ va_Zq Bundle.tN "UNASSIGNED_STACK" Bundle.steD (fun q => b ≤ q) s s.heap ∧ va_Zq Bundle.tN "SUPPRESSED_SENTINEL" Bundle.listD (fun q => b ≤ q) s s.heap ∧ b ≤ s.heap.size ∧ js_Z b ad adV s ∧ mz_ca cA s ∧ (∀ q ∈ mz_tx, ∃ tx, vk_R "KeptHouse$Reader" q.1 tx (ad (2000 + q.2)) s) ∧ mz_ls Bundle.tN "UNASSIGNED_STACK" Bundle.steD (fun q => b ≤ q) s s.heap ∧ mz_ls Bundle.tN "SUPPRESSED_SENTINEL" Bundle.listD (fun q => b ≤ q) s s.heap
/-- of a callee's record: how it is linked: 0 static, 1 virtual, 2 a constructor -/
def mz_lk (own : String) (idx : Nat) (M : mz_D) (nargs kind : Nat) : Prop := (M.2.1.cls ≠ "java/lang/invoke/MethodHandle" ∧ M.2.1.cls ≠ "java/lang/invoke/VarHandle") ∧ plainFor M.2.1 = true ∧ (∃ sig, parseMethodDescriptor M.2.1.desc = some sig ∧ nargs = sig.parameters.length + (if kind = 0 then 0 else 1)) ∧
  (if M.2.2.2.2.2.1 = [] then Jvm.Cond.code M.2.1 M.2.2.1 M.2.2.2.1 M.2.2.2.2.1 ∈ Ts else Jvm.Cond.codeWith M.2.1 M.2.2.1 M.2.2.2.1 M.2.2.2.2.1 M.2.2.2.2.2.1 ∈ Ts) ∧
  (kind = 0 → Jvm.Cond.methodLink own idx M.2.1 ∈ Ts ∧ Jvm.Cond.static M.2.1 ∈ Ts ∧ Jvm.Cond.initialized M.2.1.cls ∈ Ts) ∧
  (kind = 1 → Jvm.Cond.methodLink own idx M.2.1 ∈ Ts ∧ Jvm.Cond.instanceMethod M.2.1 ∈ Ts ∧ Jvm.Cond.selects M.2.1.cls M.2.1 M.2.1 ∈ Ts) ∧
  (kind = 2 → (Jvm.Cond.methodLink own idx M.2.1 ∈ Ts ∨ ∃ host, Jvm.Cond.methodLinkNest own idx M.2.1 host ∈ Ts) ∧ Jvm.Cond.instanceMethod M.2.1 ∈ Ts ∧ M.2.1.name = "<init>" ∧ M.2.2.2.2.2.1 = [] ∧ M.2.2.2.2.1 = none)
/-- a call stands under all clauses of its method -/
def mz_hk (M : mz_D) (pc : Nat) : Prop := ∀ h ∈ M.2.2.2.2.2.1, h.1 ≤ pc ∧ pc < h.2.1
/-- the clauses of a method: (kind, where it begins, behind its store) -/
def mz_hok (M : mz_D) : Prop := M.2.2.2.2.2.1.length = M.2.2.2.2.2.2.2.length ∧ ∀ (i : Nat) (h : Nat × Nat × Nat × Nat) (g : Nat × Nat × Nat), M.2.2.2.2.2.1[i]? = some h → M.2.2.2.2.2.2.2[i]? = some g → h.2.2.1 = g.2.1 ∧ h.2.2.2 ≠ 0 ∧ g.1 < 2 ∧ Jvm.Cond.classLink M.2.1.cls h.2.2.2 (mz_en g.1) ∈ Ts ∧ ((∃ x : Fin 4, decode M.2.2.1 g.2.1 = .ok (.astore_n x, 1) ∧ (x : Nat) < M.2.2.2.1 ∧ g.2.2 = g.2.1 + 1) ∨ ∃ x : Nat, decode M.2.2.1 g.2.1 = .ok (.astore x, 2) ∧ x < M.2.2.2.1 ∧ g.2.2 = g.2.1 + 2)
/-- an instruction of the small code is the one of the bytes, with what it links -/
def mz_iok (M : mz_D) (pc : Nat) (q : mz_i) : Prop := decode M.2.2.1 pc = .ok (q.2.1, q.2.2.1) ∧ match q.1 with
  | 0 => q.2.2.1 = mz_len q.2.1
  | 1 => q.2.2.1 = mz_lenM q.2.1 ∧ ∀ idx, q.2.1 = .getfield idx → ∃ t fin, mz_fl cl Ts M.2.1.cls idx q.2.2.2.1 q.2.2.2.2.1 t fin
  | 2 => (∃ a b c d, q.2.1 = .tableswitch a b c d) ∨ (∃ a b, q.2.1 = .lookupswitch a b) ∨ q.2.2.1 = 3
  | 3 => (∃ idx v, q.2.1 = .ldc idx ∧ q.2.2.1 = 2 ∧ q.2.2.2.2.2 = .int v ∧ Jvm.Cond.constant M.2.1.cls idx v ∈ Ts) ∨ (∃ idx v, q.2.1 = .ldc_w idx ∧ q.2.2.1 = 3 ∧ q.2.2.2.2.2 = .int v ∧ Jvm.Cond.constant M.2.1.cls idx v ∈ Ts) ∨ (∃ idx v, q.2.1 = .ldc2_w idx ∧ q.2.2.1 = 3 ∧ q.2.2.2.2.2 = .long v ∧ Jvm.Cond.constantLong M.2.1.cls idx v ∈ Ts)
  | 4 => ∃ idx N, q.2.1 = .invokestatic idx ∧ q.2.2.1 = 3 ∧ PG q.2.2.2.1 = some N ∧ mz_lk Ts M.2.1.cls idx N q.2.2.2.2.1 0 ∧ mz_hk M pc
  | 5 => ∃ idx, q.2.1 = .invokestatic idx ∧ q.2.2.1 = 3 ∧ ∀ w ∈ mz_bw M.2.1.cls idx q.2.2.2.1, w ∈ Ts
  | 6 => q.2.2.1 = 1
  | 7 => q.2.2.2.1 < 2 ∧ M.2.1.cls = "KeptHouse" ∧ ∃ inew istr ic names, q.2.1 = .new inew ∧ q.2.2.1 = 3 ∧ istr ∈ [85, 92, 95, 97] ∧ decode M.2.2.1 (pc + 3) = .ok (.dup, 1) ∧ decode M.2.2.1 (pc + 4) = .ok (.ldc istr, 2) ∧ decode M.2.2.1 (pc + 6) = .ok (.invokespecial ic, 3) ∧ decode M.2.2.1 (pc + 9) = .ok (.athrow, 1) ∧ M.2.2.2.2.2.1 = [] ∧
      Jvm.Cond.classLink "KeptHouse" inew (mz_en q.2.2.2.1) ∈ Ts ∧ Jvm.Cond.instantiable (mz_en q.2.2.2.1) 6 ∈ Ts ∧ Jvm.Cond.initialized (mz_en q.2.2.2.1) ∈ Ts ∧ Bundle.fit (mz_en q.2.2.2.1) = true ∧ (∀ n ∈ names, Bundle.fit n = true) ∧ names.length ≤ 5 ∧ ∀ w ∈ Bundle.ownAtoms "KeptHouse" ic (mz_en q.2.2.2.1) names, w ∈ Ts ∨ w = .isRef (.static Bundle.tN "UNASSIGNED_STACK" Bundle.steD) ∨ w = .isRef (.static Bundle.tN "SUPPRESSED_SENTINEL" Bundle.listD) ∨ w = .laysStatic Bundle.tN "UNASSIGNED_STACK" Bundle.steD ∨ w = .laysStatic Bundle.tN "SUPPRESSED_SENTINEL" Bundle.listD
  | 8 => q.2.2.1 = mz_lenM q.2.1 ∧ ∀ idx, q.2.1 = .putfield idx → ∃ t fin, mz_fl cl Ts M.2.1.cls idx q.2.2.2.1 q.2.2.2.2.1 t fin ∧ (fin = false ∨ (M.2.1.name = "<init>" ∧ ∃ T N, cl[q.2.2.2.1]? = some (M.2.1.cls, T, N))) ∧ (FK q.2.2.2.1)[q.2.2.2.2.1]? = some t
  | 9 => ∃ idx C n, q.2.1 = .getstatic idx ∧ q.2.2.1 = 3 ∧ Jvm.Cond.fieldLink M.2.1.cls idx C n "[I" ∈ Ts ∧ (C, n, q.2.2.2.1) ∈ ST
  | 10 => ∃ t, q.2.1 = .newarray t ∧ q.2.2.1 = 2 ∧ mz_ak t = some q.2.2.2.1 ∧ Jvm.Cond.arrayClass (newarray.typeOf t) ∈ Ts
  | 11 => ∃ idx, q.2.1 = .new idx ∧ q.2.2.1 = 3 ∧ mz_cn cl Ts M.2.1.cls idx q.2.2.2.1 (FK q.2.2.2.1)
  | 12 => ∃ idx, q.2.1 = .multianewarray idx 2 ∧ q.2.2.1 = 4 ∧ (q.2.2.2.1 = 4 ∨ q.2.2.2.1 = 5) ∧ Jvm.Cond.classLink M.2.1.cls idx (if q.2.2.2.1 = 4 then "[[I" else "[[J") ∈ Ts
  | 16 => M.2.1.cls = "KeptHouse$Reader" ∧ ∃ idx i, q.2.1 = .ldc idx ∧ q.2.2.1 = 2 ∧ (idx, i) ∈ mz_tx ∧ q.2.2.2.1 = 2000 + i
  | 17 => M.2.1.cls = "KeptHouse$Reader" ∧ q.2.1 = .invokevirtual 103 ∧ q.2.2.1 = 3
  | 13 => ∃ idx, q.2.1 = .invokespecial idx ∧ q.2.2.1 = 3 ∧ Jvm.Cond.methodLink M.2.1.cls idx objectInit ∈ Ts ∧ Jvm.Cond.instanceMethod objectInit ∈ Ts ∧ Jvm.Cond.code objectInit ⟨#[0xb1]⟩ 1 none ∈ Ts
  | 14 => ∃ idx N ci, q.2.1 = .invokevirtual idx ∧ q.2.2.1 = 3 ∧ PG q.2.2.2.1 = some N ∧ q.2.2.2.2.2 = .ref ci ∧ (∃ T n, cl[ci]? = some (N.2.1.cls, T, n)) ∧ mz_lk Ts M.2.1.cls idx N q.2.2.2.2.1 1 ∧ mz_hk M pc
  | 15 => ∃ idx N, q.2.1 = .invokespecial idx ∧ q.2.2.1 = 3 ∧ PG q.2.2.2.1 = some N ∧ mz_lk Ts M.2.1.cls idx N q.2.2.2.2.1 2 ∧ mz_hk M pc
  | _ => True
def mz_u (K : mz_K) : Nat := K.1.length + K.2.2
def mz_v (K : mz_K) : Nat := mz_sl K.1 + 6 * K.2.2
theorem mz_vle {K : mz_K} (h1 : mz_u K ≤ 2000) (h2 : mz_sl K.1 ≤ 7000000) : mz_v K ≤ 7100000 := by unfold mz_u at h1; unfold mz_v; omega
def mz_swf (S : mz_S) : Prop := ∀ (a ci : Nat) (fk : List Nat), S[a]? = some (9, ci, fk) → fk = FK ci
def mz_oR (r : Option Value ⊕ Nat) (o : Option Value ⊕ Addr) (H : Heap) : Prop := match r, o with
  | .inl none, .inl none => True
  | .inl (some v), .inl (some w) => w = mz_g ad v
  | .inr k, .inr x => k < 2 ∧ ∃ cell, H[x]? = some cell ∧ cell.vm = .none ∧ cell.cls = cid k
  | _, _ => False
/-- a method's end, in the words of the small machine -/
def mz_Po (H0 : Heap) (K : mz_K) (Q : mz_Q) (o : Option Value ⊕ Addr) (H : Heap) (k n : Nat) : Prop := (H0.size ≤ H.size ∧ ∀ q, q < H0.size → ¬ b ≤ q → H[q]? = H0[q]?) ∧ ∃ r K', Q r K' ∧ mz_oR ad cid r o H ∧ va_P D cl (mz_ws ad cA K'.1 K'.2.1) H ∧ mz_swf FK K'.1 ∧ k + mz_u K = mz_u K' ∧ n + mz_v K = mz_v K' ∧ mz_u K' ≤ 2000 ∧ mz_sl K'.1 ≤ 7000000 ∧ K'.1.length ≤ 900
/-- what a callee's record promises -/
def mz_Snd (l : Launch) (E : Nat → List Value → mz_K → mz_Q → Prop) (fr lo : Nat) : Prop := ∀ (j : Nat) (xs : List Value) (K : mz_K) (Q : mz_Q), E j xs K Q → ∀ M : mz_D, PG j = some M → ∀ (p : Program) (e : Env) (R : Room) (s : State) (m : MethodId) (below : List Frame) (meth : Method) (c : Code), p.tables.exec = Jvm.exec → e.platform.stackTraces = false → mz_Mf s M.2.1 M.2.2.1 M.2.2.2.1 M.2.2.2.2.1 M.2.2.2.2.2.1 m meth c → mz_cx cl Ts ST D ad cA b cid X adV s → va_P D cl (mz_ws ad cA K.1 K.2.1) s.heap → mz_swf FK K.1 → K.1.length ≤ 900 → s.heap.size ≤ b + mz_u K → fr ≤ R.frames → lo ≤ R.locals → 2000 ≤ R.cells + mz_u K → 7100000 ≤ R.slots + mz_v K → mz_u K ≤ 2000 → mz_sl K.1 ≤ 7000000 →
  W p l e R s m (mz_gs ad xs).toArray below meth c s.heap [] 0 0 (mz_End below s (fun q => b ≤ q) (mz_Po FK cl D ad cA b cid s.heap K Q)) (entryFrame m (mz_gs ad xs).toArray M.2.2.2.1)
end Mz13
