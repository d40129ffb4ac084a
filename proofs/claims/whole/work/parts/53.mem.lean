/-! THE SMALL MACHINE (2): its memory. A shape: (kind, length or class, kinds of the fields). Kinds: 0 int[], 1 long[], 2 byte[], 3 boolean[], 4 int[][], 5 long[][], 9 an object. Kinds of fields: 1 long, 2 a reference, 3 boolean, else int. The contents: ints, longs, references by cell and place. -/
abbrev mz_S : Type := List (Nat × Nat × List Nat)
abbrev mz_M : Type := (Nat → Nat → Int32) × (Nat → Nat → Int64) × (Nat → Nat → Option Nat)
def mz_f (ad : Nat → Nat) (I : Nat → Int32) (L : Nat → Int64) (R : Nat → Option Nat) (k t : Nat) : Value := if t = 1 then .long (L k) else if t = 2 then va_rf ((R k).map ad) else .int (I k)
def mz_cell (ad : Nat → Nat) (cA : Nat → ClassId) (q : Nat × Nat × List Nat) (I : Nat → Int32) (L : Nat → Int64) (R : Nat → Option Nat) : va_E :=
  if q.1 = 9 then .inr (q.2.1, q.2.2.mapIdx (mz_f ad I L R)) else if q.1 = 1 then .inl (cA 1, q.2.1, .inr (.inl L)) else if q.1 = 4 ∨ q.1 = 5 then .inl (cA q.1, q.2.1, .inr (.inr (.inr (.inr (fun j => (R j).map ad))))) else .inl (cA q.1, q.2.1, .inl I)
def mz_ws (ad : Nat → Nat) (cA : Nat → ClassId) (S : mz_S) (M : mz_M) : va_W := S.mapIdx (fun a q => (ad a, mz_cell ad cA q (M.1 a) (M.2.1 a) (M.2.2 a)))
def mz_tys (cA : Nat → ClassId) : List (ClassId × FieldType) := [(cA 0, .int), (cA 1, .long), (cA 2, .byte), (cA 3, .boolean), (cA 4, .array .int), (cA 5, .array .long)]
def mz_uI (M : mz_M) (a i : Nat) (x : Int32) : mz_M := (fun b => if b = a then upd (M.1 a) i x else M.1 b, M.2.1, M.2.2)
def mz_uL (M : mz_M) (a i : Nat) (x : Int64) : mz_M := (M.1, fun b => if b = a then vp_updL (M.2.1 a) i x else M.2.1 b, M.2.2)
def mz_uR (M : mz_M) (a i : Nat) (x : Option Nat) : mz_M := (M.1, M.2.1, fun b => if b = a then va_up (M.2.2 a) i x else M.2.2 b)
theorem mz_ws_at {ad : Nat → Nat} {cA : Nat → ClassId} {S : mz_S} {M : mz_M} {a : Nat} {q : Nat × Nat × List Nat} (h : S[a]? = some q) : (mz_ws ad cA S M)[a]? = some (ad a, mz_cell ad cA q (M.1 a) (M.2.1 a) (M.2.2 a)) := by
  simp [mz_ws, List.getElem?_mapIdx, h]
theorem mz_ws_len (ad : Nat → Nat) (cA : Nat → ClassId) (S : mz_S) (M : mz_M) : (mz_ws ad cA S M).length = S.length := by simp [mz_ws]
/-- one cell has changed -/
theorem mz_ws_set {ad : Nat → Nat} {cA : Nat → ClassId} {S : mz_S} {M M' : mz_M} {a : Nat} {q : Nat × Nat × List Nat} {c : va_E} (h : S[a]? = some q) (hc : mz_cell ad cA q (M'.1 a) (M'.2.1 a) (M'.2.2 a) = c) (ho : ∀ b, b ≠ a → M'.1 b = M.1 b ∧ M'.2.1 b = M.2.1 b ∧ M'.2.2 b = M.2.2 b) : (mz_ws ad cA S M).set a (ad a, c) = mz_ws ad cA S M' := by
  apply List.ext_getElem?
  intro b
  rw [List.getElem?_set]
  by_cases e : a = b
  · subst e
    rw [if_pos rfl, mz_ws_at h, hc, if_pos (by rw [mz_ws_len]; exact (List.getElem?_eq_some_iff.mp h).1)]
  · rw [if_neg e]
    obtain ⟨h1, h2, h3⟩ := ho b (fun x => e x.symm)
    simp [mz_ws, List.getElem?_mapIdx, h1, h2, h3]
theorem mz_uI_o (M : mz_M) (a i : Nat) (x : Int32) : ∀ b, b ≠ a → (mz_uI M a i x).1 b = M.1 b ∧ (mz_uI M a i x).2.1 b = M.2.1 b ∧ (mz_uI M a i x).2.2 b = M.2.2 b := fun b h => ⟨if_neg h, rfl, rfl⟩
theorem mz_uL_o (M : mz_M) (a i : Nat) (x : Int64) : ∀ b, b ≠ a → (mz_uL M a i x).1 b = M.1 b ∧ (mz_uL M a i x).2.1 b = M.2.1 b ∧ (mz_uL M a i x).2.2 b = M.2.2 b := fun b h => ⟨rfl, if_neg h, rfl⟩
theorem mz_uR_o (M : mz_M) (a i : Nat) (x : Option Nat) : ∀ b, b ≠ a → (mz_uR M a i x).1 b = M.1 b ∧ (mz_uR M a i x).2.1 b = M.2.1 b ∧ (mz_uR M a i x).2.2 b = M.2.2 b := fun b h => ⟨rfl, rfl, if_neg h⟩
theorem mz_uI_s (M : mz_M) (a i : Nat) (x : Int32) : (mz_uI M a i x).1 a = upd (M.1 a) i x := if_pos rfl
theorem mz_uL_s (M : mz_M) (a i : Nat) (x : Int64) : (mz_uL M a i x).2.1 a = vp_updL (M.2.1 a) i x := if_pos rfl
theorem mz_uR_s (M : mz_M) (a i : Nat) (x : Option Nat) : (mz_uR M a i x).2.2 a = va_up (M.2.2 a) i x := if_pos rfl
/-- a field of an object gets a value -/
theorem mz_fs_set {ad : Nat → Nat} {I I' : Nat → Int32} {L L' : Nat → Int64} {R R' : Nat → Option Nat} {fk : List Nat} {k t : Nat} {v : Value} (h : fk[k]? = some t) (hv : mz_f ad I' L' R' k t = v) (ho : ∀ j u, j ≠ k → fk[j]? = some u → mz_f ad I' L' R' j u = mz_f ad I L R j u) : (fk.mapIdx (mz_f ad I L R)).set k v = fk.mapIdx (mz_f ad I' L' R') := by
  apply List.ext_getElem?
  intro j
  rw [List.getElem?_set]
  by_cases e : k = j
  · subst e
    rw [if_pos rfl, if_pos (by simpa using (List.getElem?_eq_some_iff.mp h).1)]
    simp [List.getElem?_mapIdx, h, hv]
  · rw [if_neg e]
    simp only [List.getElem?_mapIdx]
    cases hj : fk[j]? with
    | none => rfl
    | some u => simp [ho j u (fun x => e x.symm) hj]
/-- instructions that read memory: X the int arrays outside (read alone); ci k: class and field of getfield -/
def mz_rd (X : Nat → Option (Nat × (Nat → Int32))) (S : mz_S) (ins : Instr) (ci k : Nat) (st : List Value) (M : mz_M) : Option (List Value) := match ins, st with
  | .iaload, .int i :: .ref a :: st => match X a with
    | some (n, f) => if i < 0 ∨ n ≤ i.toNatClampNeg then none else some (.int (f i.toNatClampNeg) :: st)
    | none => match S[a]? with
    | some (0, n, _) => if i < 0 ∨ n ≤ i.toNatClampNeg then none else some (.int (M.1 a i.toNatClampNeg) :: st)
    | _ => none
  | .laload, .int i :: .ref a :: st => match S[a]? with
    | some (1, n, _) => if i < 0 ∨ n ≤ i.toNatClampNeg then none else some (.long (M.2.1 a i.toNatClampNeg) :: st)
    | _ => none
  | .baload, .int i :: .ref a :: st => match S[a]? with
    | some (2, n, _) => if i < 0 ∨ n ≤ i.toNatClampNeg then none else some (.int (M.1 a i.toNatClampNeg) :: st)
    | some (3, n, _) => if i < 0 ∨ n ≤ i.toNatClampNeg then none else some (.int (M.1 a i.toNatClampNeg) :: st)
    | _ => none
  | .aaload, .int i :: .ref a :: st => match S[a]? with
    | some (4, n, _) => if i < 0 ∨ n ≤ i.toNatClampNeg then none else match M.2.2 a i.toNatClampNeg with
      | some r => some (.ref r :: st)
      | none => none
    | some (5, n, _) => if i < 0 ∨ n ≤ i.toNatClampNeg then none else match M.2.2 a i.toNatClampNeg with
      | some r => some (.ref r :: st)
      | none => none
    | _ => none
  | .arraylength, .ref a :: st => match X a with
    | some (n, _) => some (.int (Int32.ofNat n) :: st)
    | none => match S[a]? with
    | some (0, n, _) => some (.int (Int32.ofNat n) :: st)
    | some (1, n, _) => some (.int (Int32.ofNat n) :: st)
    | _ => none
  | .getfield _, .ref a :: st => match S[a]? with
    | some (9, c, fk) => if c = ci then match fk[k]? with
      | some 1 => some (.long (M.2.1 a k) :: st)
      | some 2 => match M.2.2 a k with
        | some r => some (.ref r :: st)
        | none => none
      | some _ => some (.int (M.1 a k) :: st)
      | none => none
      else none
    | _ => none
  | _, _ => none
/-- instructions that write memory -/
def mz_wr (S : mz_S) (ins : Instr) (ci k : Nat) (st : List Value) (M : mz_M) : Option (List Value × mz_M) := match ins, st with
  | .iastore, .int x :: .int i :: .ref a :: st => match S[a]? with
    | some (0, n, _) => if i < 0 ∨ n ≤ i.toNatClampNeg then none else some (st, mz_uI M a i.toNatClampNeg x)
    | _ => none
  | .lastore, .long x :: .int i :: .ref a :: st => match S[a]? with
    | some (1, n, _) => if i < 0 ∨ n ≤ i.toNatClampNeg then none else some (st, mz_uL M a i.toNatClampNeg x)
    | _ => none
  | .bastore, .int x :: .int i :: .ref a :: st => match S[a]? with
    | some (2, n, _) => if i < 0 ∨ n ≤ i.toNatClampNeg then none else some (st, mz_uI M a i.toNatClampNeg (vp_nar .byte x))
    | some (3, n, _) => if i < 0 ∨ n ≤ i.toNatClampNeg then none else some (st, mz_uI M a i.toNatClampNeg (vp_nar .boolean x))
    | _ => none
  | .putfield _, .long x :: .ref a :: st => match S[a]? with
    | some (9, c, fk) => if c = ci ∧ fk[k]? = some 1 then some (st, mz_uL M a k x) else none
    | _ => none
  | .putfield _, .ref x :: .ref a :: st => match S[a]? with
    | some (9, c, fk) => if c = ci ∧ fk[k]? = some 2 then some (st, mz_uR M a k (some x)) else none
    | _ => none
  | .putfield _, .int x :: .ref a :: st => match S[a]? with
    | some (9, c, fk) => if c = ci then match fk[k]? with
      | some 0 => some (st, mz_uI M a k x)
      | some 3 => if x = 0 ∨ x = 1 then some (st, mz_uI M a k x) else none
      | _ => none
      else none
    | _ => none
  | _, _ => none
/-- what is known of a field's entry: idx in the pool of own is the field k of the class ci, of kind t -/
def mz_ty (t : Nat) (ty : FieldType) : Prop := (t = 0 ∧ ty = .int) ∨ (t = 1 ∧ ty = .long) ∨ (t = 2 ∧ ((∃ o, ty = .object o) ∨ ∃ o, ty = .array o)) ∨ (t = 3 ∧ ty = .boolean)
def mz_fl (cl : List vw_C) (Ts : List Jvm.Cond) (own : String) (idx ci k t : Nat) (fin : Bool) : Prop := ∃ (C : String) (T : u_T) (N : Nat) (ty0 : Nat → FieldType), cl[ci]? = some (C, T, N) ∧ k < N ∧ (∀ w ∈ u_ws C T N, w ∈ Ts) ∧ Jvm.Cond.fieldLink own idx (T k).1 (T k).2.1 (T k).2.2.1 ∈ Ts ∧ (∀ j, j < N → parseFieldDescriptor (T j).2.2.1 = some (ty0 j)) ∧ (∀ a, a < N → ∀ b, b < N → a ≠ b → (T a).2.1 ≠ (T b).2.1) ∧ mz_ty t (ty0 k) ∧ (T k).2.2.2 = fin ∧ (T k).1 = C
/-- what a method's walk stands on: the memory at the heap H -/
def mz_P (D : va_G) (cl : List vw_C) (ad : Nat → Nat) (cA : Nat → ClassId) (A : Nat → Prop) (H0 : Heap) (S : mz_S) (M : mz_M) (H : Heap) (locs : List Loc) : Prop := va_P D cl (mz_ws ad cA S M) H ∧ va_D A (mz_ws ad cA S M) ∧ va_S A H0 H locs
def mz_X (X : Nat → Option (Nat × (Nat → Int32))) (ad : Nat → Nat) (A : Nat → Prop) (s : State) (H0 : Heap) : Prop := ∀ (a n : Nat) (f : Nat → Int32), X a = some (n, f) → va_T .int (ad a) n (fun j => .int (f j)) A s H0
def mz_lenM (ins : Instr) : Nat := match ins with
  | .getfield _ => 3
  | .putfield _ => 3
  | _ => 1
section Mz2
variable {p : Program} {l : Launch} {e : Env} {R : Room} {s : State} {m : MethodId} {args : Array Value} {below : List Frame} {meth : Method} {c : Code} {H : Heap} {locs : List Loc} {cells slots : Nat} {Q : State → Prop} {cc : ByteArray} {pc : Nat} {ls : Array Slot} {nL : Nat} {ad : Nat → Nat} {D : va_G} {cl : List vw_C} {cA : Nat → ClassId} {A : Nat → Prop} {H0 : Heap} {S : mz_S} {M : mz_M}
theorem mz_aald (hx : p.tables.exec = Jvm.exec) (hb : c.code = cc) (hK : va_K D cl (mz_tys cA) s) (hP : va_P D cl (mz_ws ad cA S M) H) {a n t : Nat} {ty : FieldType} {r : Nat} {i : Int32} {rest : List Value} (ht : (mz_tys cA)[t]? = some (cA t, ty)) (hty : ty.isReference = true) {f : Nat → Option Nat} (ha : (mz_ws ad cA S M)[a]? = some (ad a, .inl (cA t, n, .inr (.inr (.inr (.inr (fun j => (f j).map ad))))))) (hin : ¬ (i < 0 ∨ n ≤ i.toNatClampNeg)) (hr : f i.toNatClampNeg = some r) (hd : decode cc pc = .ok (.aaload, 1))
    (k : W p l e R s m args below meth c H locs cells slots Q (F0 m (pc + 1) ls (.ref (ad r) :: rest))) : W p l e R s m args below meth c H locs cells slots Q (F0 m pc ls (.int i :: .ref (ad a) :: rest)) := by
  have hlt : i.toNatClampNeg < n := Nat.not_le.mp fun q => hin (Or.inr q)
  have hv : va_rf ((f i.toNatClampNeg).map ad) = .ref (ad r) := by rw [hr]; rfl
  exact W.aald (v := .ref (ad r)) (ty := ty) hx hb (hP a _ ha) ((hK.2 t _ ht).1 n (fun j => va_rf ((f j).map ad))) hty (fun q => by cases q) (by show ¬ (i < 0 ∨ (arrV _ _ _).slots.size ≤ _); rw [arrV_size]; exact hin) (by show (arrV _ _ _).slots[_]? = _; rw [arrV_read _ _ hlt, ← hv]) rfl rfl hd k
theorem mz_put (hx : p.tables.exec = Jvm.exec) (hb : c.code = cc) {Ts : List Jvm.Cond} (hts : ∀ w ∈ Ts, w.before args s = true) {own : String} (hown : s.vm.findClass own = some m.cls) (hK : va_K D cl (mz_tys cA) s) (hP : mz_P D cl ad cA A H0 S M H locs)
    {idx ci k t a : Nat} {fin : Bool} {fk : List Nat} (hfl : mz_fl cl Ts own idx ci k t fin) (hfin : fin = false ∨ (meth.name = "<init>" ∧ ∃ T N, cl[ci]? = some (own, T, N))) (ha : S[a]? = some (9, ci, fk)) (hk : fk[k]? = some t) {v : Value} {rest : List Value} {M' : mz_M}
    (hty : ∀ ty, mz_ty t ty → narrow ty v = v ∧ fits ty v = true) (hv : mz_f ad (M'.1 a) (M'.2.1 a) (M'.2.2 a) k t = v) (ho : ∀ b, b ≠ a → M'.1 b = M.1 b ∧ M'.2.1 b = M.2.1 b ∧ M'.2.2 b = M.2.2 b) (ho2 : ∀ j u, j ≠ k → mz_f ad (M'.1 a) (M'.2.1 a) (M'.2.2 a) j u = mz_f ad (M.1 a) (M.2.1 a) (M.2.2 a) j u) (hd : decode cc pc = .ok (.putfield idx, 3))
    (kk : ∀ (H' : Heap) (locs' : List Loc), mz_P D cl ad cA A H0 S M' H' locs' → W p l e R s m args below meth c H' locs' cells slots Q (F0 m (pc + 3) ls rest)) : W p l e R s m args below meth c H locs cells slots Q (F0 m pc ls (v :: .ref (ad a) :: rest)) := by
  obtain ⟨hP1, hD, hS⟩ := hP
  obtain ⟨C, T, N, ty0, f1, f2, f3, f4, f5, f6, f7, f8, f9⟩ := hfl
  obtain ⟨g1, g2⟩ := hty _ f7
  have hset : (mz_ws ad cA S M).set a (ad a, .inr (ci, (fk.mapIdx (mz_f ad (M.1 a) (M.2.1 a) (M.2.2 a))).set k v)) = mz_ws ad cA S M' := by
    refine mz_ws_set ha ?_ ho
    show Sum.inr (ci, _) = _
    rw [mz_fs_set hk hv (fun j u h1 _ => ho2 j u h1)]
  have hlen : k < (fk.mapIdx (mz_f ad (M.1 a) (M.2.1 a) (M.2.2 a))).length := by simpa using (List.getElem?_eq_some_iff.mp hk).1
  have hfin' : fin = false ∨ (fin = true ∧ meth.name = "<init>" ∧ C = own) := by
    cases fin
    · exact Or.inl rfl
    · rcases hfin with h | ⟨h, T', N', h'⟩
      · cases h
      · cases f1.symm.trans h'
        exact Or.inr ⟨rfl, h, rfl⟩
  rcases hfin' with h | ⟨h, hi, hC⟩
  · refine va_put hx hb hts f3 ty0 f5 f6 hown hK hP1 hD hS a (mz_ws_at ha) f1 k f2 (hts _ f4) (fun _ h9 => h9) (f8.trans h) (f5 k f2) g1 g2 hlen hd fun H1 locs1 q1 q2 q3 => kk _ _ ⟨?_, ?_, q3⟩
    · rw [hset] at q1; exact q1
    · rw [hset] at q2; exact q2
  · refine va_putF hx hb hts f3 ty0 f5 f6 hown hK hP1 hD hS a (mz_ws_at ha) f1 k f2 (hts _ f4) (fun _ h9 => h9) (f8.trans h) hi (f9.trans hC) (f5 k f2) g1 g2 hlen hd fun H1 locs1 q1 q2 q3 => kk _ _ ⟨?_, ?_, q3⟩
    · rw [hset] at q1; exact q1
    · rw [hset] at q2; exact q2
theorem mz_ty1 {x : Int64} : ∀ ty, mz_ty 1 ty → narrow ty (.long x) = .long x ∧ fits ty (.long x) = true := by
  intro ty h
  rcases h with ⟨h, _⟩ | ⟨-, rfl⟩ | ⟨h, _⟩ | ⟨h, _⟩
  · cases h
  · exact ⟨rfl, rfl⟩
  · cases h
  · cases h
theorem mz_ty2 {x : Nat} : ∀ ty, mz_ty 2 ty → narrow ty (.ref x) = .ref x ∧ fits ty (.ref x) = true := by
  intro ty h
  rcases h with ⟨h, _⟩ | ⟨h, _⟩ | ⟨-, ⟨o, rfl⟩ | ⟨o, rfl⟩⟩ | ⟨h, _⟩
  · cases h
  · cases h
  · exact ⟨rfl, rfl⟩
  · exact ⟨rfl, rfl⟩
  · cases h
theorem mz_ty0 {x : Int32} : ∀ ty, mz_ty 0 ty → narrow ty (.int x) = .int x ∧ fits ty (.int x) = true := by
  intro ty h
  rcases h with ⟨-, rfl⟩ | ⟨h, _⟩ | ⟨h, _⟩ | ⟨h, _⟩
  · exact ⟨rfl, rfl⟩
  · cases h
  · cases h
  · cases h
theorem mz_ty3 {x : Int32} (hx : x = 0 ∨ x = 1) : ∀ ty, mz_ty 3 ty → narrow ty (.int x) = .int x ∧ fits ty (.int x) = true := by
  intro ty h
  rcases h with ⟨h, _⟩ | ⟨h, _⟩ | ⟨h, _⟩ | ⟨-, rfl⟩
  · cases h
  · cases h
  · cases h
  · rcases hx with rfl | rfl
    · exact ⟨by decide +kernel, by decide +kernel⟩
    · exact ⟨by decide +kernel, by decide +kernel⟩
theorem mz_fI {ad : Nat → Nat} {I : Nat → Int32} {L : Nat → Int64} {R : Nat → Option Nat} {k : Nat} {x : Int32} {j u : Nat} (h : j ≠ k) : mz_f ad (upd I k x) L R j u = mz_f ad I L R j u := by
  unfold mz_f upd; rw [if_neg h]
theorem mz_fL {ad : Nat → Nat} {I : Nat → Int32} {L : Nat → Int64} {R : Nat → Option Nat} {k : Nat} {x : Int64} {j u : Nat} (h : j ≠ k) : mz_f ad I (vp_updL L k x) R j u = mz_f ad I L R j u := by
  unfold mz_f vp_updL; rw [if_neg h]
theorem mz_fR {ad : Nat → Nat} {I : Nat → Int32} {L : Nat → Int64} {R : Nat → Option Nat} {k : Nat} {x : Option Nat} {j u : Nat} (h : j ≠ k) : mz_f ad I L (va_up R k x) j u = mz_f ad I L R j u := by
  unfold mz_f va_up; rw [if_neg h]
set_option maxHeartbeats 4000000 in
theorem mz_rd_ok (hx : p.tables.exec = Jvm.exec) (hb : c.code = cc) {Ts : List Jvm.Cond} (hts : ∀ w ∈ Ts, w.before args s = true) {own : String} (hown : s.vm.findClass own = some m.cls) (hK : va_K D cl (mz_tys cA) s) (hP : mz_P D cl ad cA A s.heap S M H locs) {X : Nat → Option (Nat × (Nat → Int32))} (hX : mz_X X ad A s s.heap)
    {ins : Instr} {ci k t : Nat} {fin : Bool} (hfl : ∀ idx, ins = .getfield idx → mz_fl cl Ts own idx ci k t fin)
    {st st' : List Value} (hd : decode cc pc = .ok (ins, mz_lenM ins)) (h : mz_rd X S ins ci k st M = some st')
    (kk : W p l e R s m args below meth c H locs cells slots Q (F0 m (pc + mz_lenM ins) ls (mz_gs ad st'))) : W p l e R s m args below meth c H locs cells slots Q (F0 m pc ls (mz_gs ad st)) := by
  obtain ⟨hP1, hD, hS⟩ := hP
  unfold mz_rd at h
  split at h
  · split at h
    · rename_i hx1
      split at h
      · cases h
      · rename_i hi
        cases h
        exact va_ti hx hb (hX _ _ _ hx1) hS hi rfl hd kk
    · split at h
      · rename_i ha
        split at h
        · cases h
        · rename_i hi
          cases h
          exact va_iald hx hb hK hP1 _ 0 (mz_ws_at ha) rfl hi hd kk
      · cases h
  · split at h
    · rename_i ha
      split at h
      · cases h
      · rename_i hi
        cases h
        exact va_lald hx hb hK hP1 _ 1 (mz_ws_at ha) rfl hi hd kk
    · cases h
  · split at h
    · rename_i ha
      split at h
      · cases h
      · rename_i hi
        cases h
        exact va_bald hx hb hK hP1 _ 2 (mz_ws_at ha) rfl hi hd kk
    · rename_i ha
      split at h
      · cases h
      · rename_i hi
        cases h
        exact va_zald hx hb hK hP1 _ 3 (mz_ws_at ha) rfl hi hd kk
    · cases h
  · split at h
    · rename_i ha
      split at h
      · cases h
      · rename_i hi
        split at h
        · rename_i hr
          cases h
          exact mz_aald hx hb hK hP1 (t := 4) rfl rfl (mz_ws_at ha) hi hr hd kk
        · cases h
    · rename_i ha
      split at h
      · cases h
      · rename_i hi
        split at h
        · rename_i hr
          cases h
          exact mz_aald hx hb hK hP1 (t := 5) rfl rfl (mz_ws_at ha) hi hr hd kk
        · cases h
    · cases h
  · split at h
    · rename_i hx1
      cases h
      exact va_tlen hx hb (hX _ _ _ hx1) hS rfl hd kk
    · split at h
      · rename_i ha
        cases h
        exact va_alen hx hb hK hP1 _ 0 (mz_ws_at ha) rfl rfl hd kk
      · rename_i ha
        cases h
        exact va_alen hx hb hK hP1 _ 1 (mz_ws_at ha) rfl rfl hd kk
      · cases h
  · rename_i idx a st1
    obtain ⟨C, T, N, ty0, f1, f2, f3, f4, f5, f6, f7, f8, f9⟩ := hfl idx rfl
    split at h
    · rename_i ha
      split at h
      · rename_i hc
        subst hc
        split at h
        · rename_i hk
          cases h
          exact va_get hx hb hts f3 hown hK hP1 a (mz_ws_at ha) f1 k f2 (hts _ f4) (fun _ h9 => h9) (v := .long (M.2.1 a k)) (by simp [List.getElem?_mapIdx, hk, mz_f]) hd kk
        · rename_i hk
          split at h
          · rename_i hr
            cases h
            exact va_get hx hb hts f3 hown hK hP1 a (mz_ws_at ha) f1 k f2 (hts _ f4) (fun _ h9 => h9) (by simp [List.getElem?_mapIdx, hk, mz_f, hr]; rfl) hd kk
          · cases h
        · rename_i hn1 hn2 hk
          cases h
          exact va_get hx hb hts f3 hown hK hP1 a (mz_ws_at ha) f1 k f2 (hts _ f4) (fun _ h9 => h9) (v := .int (M.1 a k)) (by simp [List.getElem?_mapIdx, hk, mz_f]; rw [if_neg (fun q => hn1 q), if_neg (fun q => hn2 q)]) hd kk
        · cases h
      · cases h
    · cases h
  · cases h
set_option maxHeartbeats 4000000 in
theorem mz_wr_ok (hx : p.tables.exec = Jvm.exec) (hb : c.code = cc) {Ts : List Jvm.Cond} (hts : ∀ w ∈ Ts, w.before args s = true) {own : String} (hown : s.vm.findClass own = some m.cls) (hK : va_K D cl (mz_tys cA) s) (hP : mz_P D cl ad cA A H0 S M H locs)
    {ins : Instr} {ci k t : Nat} {fin : Bool} (hfl : ∀ idx, ins = .putfield idx → mz_fl cl Ts own idx ci k t fin) (hfin : (∃ idx, ins = .putfield idx) → fin = false ∨ (meth.name = "<init>" ∧ ∃ T N, cl[ci]? = some (own, T, N))) (hfk : (∃ idx, ins = .putfield idx) → ∀ (a : Nat) (fk : List Nat), S[a]? = some (9, ci, fk) → fk[k]? = some t)
    {st st' : List Value} {M' : mz_M} (hd : decode cc pc = .ok (ins, mz_lenM ins)) (h : mz_wr S ins ci k st M = some (st', M'))
    (kk : ∀ (H' : Heap) (locs' : List Loc), mz_P D cl ad cA A H0 S M' H' locs' → W p l e R s m args below meth c H' locs' cells slots Q (F0 m (pc + mz_lenM ins) ls (mz_gs ad st'))) : W p l e R s m args below meth c H locs cells slots Q (F0 m pc ls (mz_gs ad st)) := by
  obtain ⟨hP1, hD, hS⟩ := hP
  unfold mz_wr at h
  split at h
  · split at h
    · rename_i ha
      split at h
      · cases h
      · rename_i hi
        cases h
        refine va_iast hx hb hK hP1 hD hS _ 0 (mz_ws_at ha) rfl hi hd fun H1 locs1 q1 q2 q3 => kk _ _ ⟨?_, ?_, q3⟩
        · rw [mz_ws_set ha (by rw [mz_uI_s]; rfl) (mz_uI_o M _ _ _)] at q1; exact q1
        · rw [mz_ws_set ha (by rw [mz_uI_s]; rfl) (mz_uI_o M _ _ _)] at q2; exact q2
    · cases h
  · split at h
    · rename_i ha
      split at h
      · cases h
      · rename_i hi
        cases h
        refine va_last hx hb hK hP1 hD hS _ 1 (mz_ws_at ha) rfl hi hd fun H1 locs1 q1 q2 q3 => kk _ _ ⟨?_, ?_, q3⟩
        · rw [mz_ws_set ha (by rw [mz_uL_s]; rfl) (mz_uL_o M _ _ _)] at q1; exact q1
        · rw [mz_ws_set ha (by rw [mz_uL_s]; rfl) (mz_uL_o M _ _ _)] at q2; exact q2
    · cases h
  · split at h
    · rename_i ha
      split at h
      · cases h
      · rename_i hi
        cases h
        refine va_bast hx hb hK hP1 hD hS _ 2 (mz_ws_at ha) rfl hi hd fun H1 locs1 q1 q2 q3 => kk _ _ ⟨?_, ?_, q3⟩
        · rw [mz_ws_set ha (by rw [mz_uI_s]; rfl) (mz_uI_o M _ _ _)] at q1; exact q1
        · rw [mz_ws_set ha (by rw [mz_uI_s]; rfl) (mz_uI_o M _ _ _)] at q2; exact q2
    · rename_i ha
      split at h
      · cases h
      · rename_i hi
        cases h
        refine va_zast hx hb hK hP1 hD hS _ 3 (mz_ws_at ha) rfl hi hd fun H1 locs1 q1 q2 q3 => kk _ _ ⟨?_, ?_, q3⟩
        · rw [mz_ws_set ha (by rw [mz_uI_s]; rfl) (mz_uI_o M _ _ _)] at q1; exact q1
        · rw [mz_ws_set ha (by rw [mz_uI_s]; rfl) (mz_uI_o M _ _ _)] at q2; exact q2
    · cases h
  · rename_i idx x a st1
    split at h
    · rename_i ha
      split at h
      · rename_i hc
        obtain ⟨rfl, hk⟩ := hc
        cases h
        have hkt := hfk ⟨idx, rfl⟩ a _ ha
        rw [hk] at hkt
        cases hkt
        exact mz_put hx hb hts hown hK ⟨hP1, hD, hS⟩ (hfl idx rfl) (hfin ⟨idx, rfl⟩) ha hk mz_ty1 (by rw [mz_uL_s]; simp [mz_f, vp_updL]; rfl) (mz_uL_o M a k x) (fun j u hj => by rw [mz_uL_s]; exact mz_fL hj) hd kk
      · cases h
    · cases h
  · rename_i idx x a st1
    split at h
    · rename_i ha
      split at h
      · rename_i hc
        obtain ⟨rfl, hk⟩ := hc
        cases h
        have hkt := hfk ⟨idx, rfl⟩ a _ ha
        rw [hk] at hkt
        cases hkt
        exact mz_put hx hb hts hown hK ⟨hP1, hD, hS⟩ (hfl idx rfl) (hfin ⟨idx, rfl⟩) ha hk mz_ty2 (by rw [mz_uR_s]; simp [mz_f, va_up, va_rf]; rfl) (mz_uR_o M a k (some x)) (fun j u hj => by rw [mz_uR_s]; exact mz_fR hj) hd kk
      · cases h
    · cases h
  · rename_i idx x a st1
    split at h
    · rename_i ha
      split at h
      · rename_i hc
        subst hc
        split at h
        · rename_i hk
          cases h
          have hkt := hfk ⟨idx, rfl⟩ a _ ha
          rw [hk] at hkt
          cases hkt
          exact mz_put hx hb hts hown hK ⟨hP1, hD, hS⟩ (hfl idx rfl) (hfin ⟨idx, rfl⟩) ha hk mz_ty0 (by rw [mz_uI_s]; simp [mz_f, upd]; rfl) (mz_uI_o M a k x) (fun j u hj => by rw [mz_uI_s]; exact mz_fI hj) hd kk
        · rename_i hk
          split at h
          · rename_i hx01
            cases h
            have hkt := hfk ⟨idx, rfl⟩ a _ ha
            rw [hk] at hkt
            cases hkt
            exact mz_put hx hb hts hown hK ⟨hP1, hD, hS⟩ (hfl idx rfl) (hfin ⟨idx, rfl⟩) ha hk (mz_ty3 hx01) (by rw [mz_uI_s]; simp [mz_f, upd]; rfl) (mz_uI_o M a k x) (fun j u hj => by rw [mz_uI_s]; exact mz_fI hj) hd kk
          · cases h
        · cases h
      · cases h
    · cases h
  · cases h
end Mz2
