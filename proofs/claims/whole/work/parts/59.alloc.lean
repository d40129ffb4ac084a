/-! THE SMALL MACHINE (8): new arrays and new objects: a new cell has the next number. -/
def mz_z (M : mz_M) (a : Nat) : mz_M := (fun b => if b = a then (fun _ => 0) else M.1 b, fun b => if b = a then (fun _ => 0) else M.2.1 b, fun b => if b = a then (fun _ => none) else M.2.2 b)
theorem mz_ws_push (ad : Nat → Nat) (cA : Nat → ClassId) (S : mz_S) (M : mz_M) (q : Nat × Nat × List Nat) : mz_ws ad cA (S ++ [q]) (mz_z M S.length) = mz_ws ad cA S M ++ [(ad S.length, mz_cell ad cA q (fun _ => 0) (fun _ => 0) (fun _ => none))] := by
  apply List.ext_getElem?
  intro i
  by_cases h : i < S.length
  · rw [List.getElem?_append_left (by rw [mz_ws_len]; exact h)]
    unfold mz_ws
    rw [List.getElem?_mapIdx, List.getElem?_mapIdx, List.getElem?_append_left h]
    simp [mz_z, Nat.ne_of_lt h]
  · by_cases h2 : i = S.length
    · subst h2
      rw [List.getElem?_append_right (by rw [mz_ws_len]; exact Nat.le_refl _), mz_ws_len]
      unfold mz_ws
      rw [List.getElem?_mapIdx]
      simp [mz_z]
    · rw [List.getElem?_append_right (by rw [mz_ws_len]; omega), mz_ws_len]
      unfold mz_ws
      rw [List.getElem?_mapIdx, List.getElem?_eq_none (by simp; omega), List.getElem?_eq_none (by simp; omega)]
      rfl
/-- the kind of an array that newarray makes -/
def mz_ak (t : ArrayType) : Option Nat := match t with
  | .int => some 0
  | .long => some 1
  | .byte => some 2
  | .boolean => some 3
  | _ => none
section Mz12
variable {p : Program} {l : Launch} {e : Env} {R : Room} {s : State} {m : MethodId} {args : Array Value} {below : List Frame} {meth : Method} {c : Code} {H : Heap} {locs : List Loc} {cells slots : Nat} {Q : State → Prop} {cc : ByteArray} {pc : Nat} {ls : Array Slot} {ad : Nat → Nat} {D : va_G} {cl : List vw_C} {cA : Nat → ClassId} {A : Nat → Prop} {H0 : Heap} {S : mz_S} {M : mz_M}
theorem mz_push {H1 : Heap} {q : Nat × Nat × List Nat} (hP : mz_P D cl ad cA A H0 S M H locs) (hsz : H.size = ad S.length) (hA : ∀ z, H0.size ≤ z → A z) (hc : va_at D cl (ad S.length, mz_cell ad cA q (fun _ => 0) (fun _ => 0) (fun _ => none)) H1) (z1 : H1.size = H.size + 1) (o1 : ∀ z, z < H.size → H1[z]? = H[z]?) : mz_P D cl ad cA A H0 (S ++ [q]) (mz_z M S.length) H1 locs := by
  obtain ⟨hP1, hD, hS⟩ := hP
  have hk : ∀ (k : Nat) (x : Nat × va_E), (mz_ws ad cA S M)[k]? = some x → H1[x.1]? = H[x.1]? := fun k x hx => o1 x.1 ((hP1 k x hx).lt)
  refine ⟨?_, ?_, Nat.le_trans hS.1 (by omega), fun x h1 h2 => (o1 x (Nat.lt_of_lt_of_le h1 hS.1)).trans (hS.2.1 x h1 h2), hS.2.2⟩
  · rw [mz_ws_push]
    refine (hP1.kept hk).app (fun k x hx => ?_)
    have hz : k < 1 := (List.getElem?_eq_some_iff.mp hx).1
    rw [show k = 0 by omega] at hx
    cases hx
    exact hc
  · rw [mz_ws_push]
    exact hD.push hP1 hsz.symm (hA _ (by rw [← hsz]; exact hS.1))
theorem mz_newa (hx : p.tables.exec = Jvm.exec) (hb : c.code = cc) {atype : ArrayType} {t : Nat} (hak : mz_ak atype = some t) (harr : (Jvm.Cond.arrayClass (newarray.typeOf atype)).before args s = true) (hK : va_K D cl (mz_tys cA) s) (hP : mz_P D cl ad cA A H0 S M H locs) (hsz : H.size = ad S.length) (hA : ∀ z, H0.size ≤ z → A z)
    {n : Int32} {rest : List Value} (hn : ¬ n < 0) (hbytes : n.toNatClampNeg * 8 ≤ 536870912) (hcells : cells + 1 ≤ R.cells) (hslots : slots + n.toNatClampNeg ≤ R.slots) (hd : decode cc pc = .ok (.newarray atype, 2))
    (kk : ∀ H' : Heap, mz_P D cl ad cA A H0 (S ++ [(t, n.toNatClampNeg, [])]) (mz_z M S.length) H' locs → H'.size = H.size + 1 → W p l e R s m args below meth c H' locs (cells + 1) (slots + n.toNatClampNeg) Q (F0 m (pc + 2) ls (.ref (ad S.length) :: mz_gs ad rest))) : W p l e R s m args below meth c H locs cells slots Q (F0 m pc ls (.int n :: mz_gs ad rest)) := by
  have hcb : componentBytes (newarray.typeOf atype) ≤ 8 := by cases atype <;> decide
  refine va_newaK hx hb harr rfl hd rfl hn rfl (Nat.le_trans (Nat.mul_le_mul_left _ hcb) hbytes) hcells hslots hsz fun H1 c0 e1 z1 o1 hAr hNm => ?_
  have key : va_at D cl (ad S.length, mz_cell ad cA (t, n.toNatClampNeg, []) (fun _ => 0) (fun _ => 0) (fun _ => none)) H1 := by
    cases atype <;> simp [mz_ak] at hak <;> subst hak
    all_goals first
      | (have h9 := (hK.2 0 _ rfl).2; cases h9.symm.trans hNm; exact e1)
      | (have h9 := (hK.2 1 _ rfl).2; cases h9.symm.trans hNm; exact e1)
      | (have h9 := (hK.2 2 _ rfl).2; cases h9.symm.trans hNm; exact e1)
      | (have h9 := (hK.2 3 _ rfl).2; cases h9.symm.trans hNm; exact e1)
  exact kk H1 (mz_push hP hsz hA key (by rw [z1, hsz]) (by rw [hsz]; exact o1)) (by rw [z1, hsz])
/-- what is known of a class that is made -/
def mz_cn (cl : List vw_C) (Ts : List Jvm.Cond) (own : String) (idx ci : Nat) (fk : List Nat) : Prop := ∃ (C : String) (T : u_T) (N : Nat) (ty0 : Nat → FieldType), cl[ci]? = some (C, T, N) ∧ (∀ w ∈ u_ws C T N, w ∈ Ts) ∧ (∀ j, j < N → parseFieldDescriptor (T j).2.2.1 = some (ty0 j)) ∧ Jvm.Cond.classLink own idx C ∈ Ts ∧ Jvm.Cond.instantiable C N ∈ Ts ∧ Jvm.Cond.initialized C ∈ Ts ∧ fk.length = N ∧ ∀ j t, fk[j]? = some t → mz_ty t (ty0 j)
theorem mz_newo (hx : p.tables.exec = Jvm.exec) (hb : c.code = cc) {Ts : List Jvm.Cond} (hts : ∀ w ∈ Ts, w.before args s = true) {own : String} (hown : s.vm.findClass own = some m.cls) {idx ci : Nat} {fk : List Nat} (hcn : mz_cn cl Ts own idx ci fk) (hK : va_K D cl (mz_tys cA) s) (hP : mz_P D cl ad cA A H0 S M H locs) (hsz : H.size = ad S.length) (hA : ∀ z, H0.size ≤ z → A z)
    {rest : List Value} (hcells : cells + 1 ≤ R.cells) (hslots : slots + fk.length ≤ R.slots) (hd : decode cc pc = .ok (.new idx, 3))
    (kk : ∀ H' : Heap, mz_P D cl ad cA A H0 (S ++ [(9, ci, fk)]) (mz_z M S.length) H' locs → H'.size = H.size + 1 → W p l e R s m args below meth c H' locs (cells + 1) (slots + fk.length) Q (F0 m (pc + 3) ls (.ref (ad S.length) :: mz_gs ad rest))) : W p l e R s m args below meth c H locs cells slots Q (F0 m pc ls (mz_gs ad rest)) := by
  obtain ⟨C, T, N, ty0, f1, f2, f3, f4, f5, f6, f7, f8⟩ := hcn
  subst f7
  have hKn := hK.1 ci _ f1
  refine W.newcK hx hb hown (hts _ f4) (hts _ f5) (hts _ f6) rfl hd hcells hslots hKn.2.1 hsz fun H1 kC hkC e1 z1 o1 => ?_
  have key : va_at D cl (ad S.length, mz_cell ad cA (9, ci, fk) (fun _ => 0) (fun _ => 0) (fun _ => none)) H1 := by
    refine ⟨_, f1, (u_born ty0 hts f2 hKn hkC e1 f3).to (fun j hj => ?_)⟩
    obtain ⟨t, ht⟩ : ∃ t, fk[j]? = some t := ⟨fk[j], List.getElem?_eq_getElem hj⟩
    have h9 := f8 j t ht
    have hv : vp_V (fk.mapIdx (mz_f ad (fun _ => 0) (fun _ => 0) (fun _ => none))) j = mz_f ad (fun _ => 0) (fun _ => 0) (fun _ => none) j t := by
      simp [vp_V, List.getD, List.getElem?_mapIdx, ht]
    show defaultValue (ty0 j) = _
    rw [hv]
    rcases h9 with ⟨rfl, h⟩ | ⟨rfl, h⟩ | ⟨rfl, ⟨o, h⟩ | ⟨o, h⟩⟩ | ⟨rfl, h⟩ <;> rw [h] <;> rfl
  exact kk H1 (mz_push hP hsz hA key (by rw [z1, hsz]) (by rw [hsz]; exact o1)) (by rw [z1, hsz])
end Mz12
