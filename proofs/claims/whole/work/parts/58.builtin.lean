/-! THE SMALL MACHINE (7): calls of the library's own that are one step here: 0 min, 1 max, 2 abs (ints), 3 min, 4 max (longs), 5 arraycopy (ints or longs). -/
def mz_cI (M : mz_M) (q a sp dp n : Nat) : mz_M := (fun b => if b = a then va_cpy (M.1 q) (M.1 a) sp dp n else M.1 b, M.2.1, M.2.2)
def mz_cL (M : mz_M) (q a sp dp n : Nat) : mz_M := (M.1, fun b => if b = a then va_cpy (M.2.1 q) (M.2.1 a) sp dp n else M.2.1 b, M.2.2)
def mz_bi (S : mz_S) (j : Nat) (st : List Value) (M : mz_M) : Option (List Value × mz_M) := match j, st with
  | 0, .int y :: .int x :: st => some (.int (if y < x then y else x) :: st, M)
  | 1, .int y :: .int x :: st => some (.int (if x < y then y else x) :: st, M)
  | 2, .int x :: st => some (.int (if 0 ≤ x then x else 0 - x) :: st, M)
  | 3, .long y :: .long x :: st => some (.long (if y < x then y else x) :: st, M)
  | 4, .long y :: .long x :: st => some (.long (if y < x then x else y) :: st, M)
  | 5, .int n :: .int dp :: .ref a :: .int sp :: .ref q :: st => match S[q]?, S[a]? with
    | some (0, n0, _), some (0, n1, _) => if ¬ sp < 0 ∧ ¬ dp < 0 ∧ ¬ n < 0 ∧ sp.toNatClampNeg + n.toNatClampNeg ≤ n0 ∧ dp.toNatClampNeg + n.toNatClampNeg ≤ n1 then some (st, mz_cI M q a sp.toNatClampNeg dp.toNatClampNeg n.toNatClampNeg) else none
    | some (1, n0, _), some (1, n1, _) => if ¬ sp < 0 ∧ ¬ dp < 0 ∧ ¬ n < 0 ∧ sp.toNatClampNeg + n.toNatClampNeg ≤ n0 ∧ dp.toNatClampNeg + n.toNatClampNeg ≤ n1 then some (st, mz_cL M q a sp.toNatClampNeg dp.toNatClampNeg n.toNatClampNeg) else none
    | _, _ => none
  | _, _ => none
/-- the words that such a call needs -/
def mz_bw (own : String) (idx j : Nat) : List Jvm.Cond := match j with
  | 0 => [.methodLink own idx Lib.Math.min.name, .static Lib.Math.min.name, .initialized "java/lang/Math", .code Lib.Math.min.name Lib.Math.min.code 2 (some .int)]
  | 1 => [.methodLink own idx Lib.Math.max.name, .static Lib.Math.max.name, .initialized "java/lang/Math", .code Lib.Math.max.name Lib.Math.max.code 2 (some .int)]
  | 2 => [.methodLink own idx Lib.Math.abs.name, .static Lib.Math.abs.name, .initialized "java/lang/Math", .code Lib.Math.abs.name Lib.Math.abs.code 1 (some .int)]
  | 3 => [.methodLink own idx Lib.MathLoose.min_long.x, .static Lib.MathLoose.min_long.x, .initialized "java/lang/Math", .code Lib.MathLoose.min_long.x Lib.MathLoose.min_long.code 4 (some .long)]
  | 4 => [.methodLink own idx Lib.MathLoose.max_long.x, .static Lib.MathLoose.max_long.x, .initialized "java/lang/Math", .code Lib.MathLoose.max_long.x Lib.MathLoose.max_long.code 4 (some .long)]
  | _ => [.methodLink own idx arraycopyName, .static arraycopyName, .initialized "java/lang/System", .native arraycopyName]
section Mz11
variable {p : Program} {l : Launch} {e : Env} {R : Room} {s : State} {m : MethodId} {args : Array Value} {below : List Frame} {meth : Method} {c : Code} {H : Heap} {locs : List Loc} {cells slots : Nat} {Q : State → Prop} {cc : ByteArray} {pc : Nat} {ls : Array Slot} {ad : Nat → Nat} {D : va_G} {cl : List vw_C} {cA : Nat → ClassId} {A : Nat → Prop} {H0 : Heap} {S : mz_S} {M : mz_M}
theorem mz_cI_o (M : mz_M) (q a sp dp n : Nat) : ∀ b, b ≠ a → (mz_cI M q a sp dp n).1 b = M.1 b ∧ (mz_cI M q a sp dp n).2.1 b = M.2.1 b ∧ (mz_cI M q a sp dp n).2.2 b = M.2.2 b := fun b h => ⟨if_neg h, rfl, rfl⟩
theorem mz_cL_o (M : mz_M) (q a sp dp n : Nat) : ∀ b, b ≠ a → (mz_cL M q a sp dp n).1 b = M.1 b ∧ (mz_cL M q a sp dp n).2.1 b = M.2.1 b ∧ (mz_cL M q a sp dp n).2.2 b = M.2.2 b := fun b h => ⟨rfl, if_neg h, rfl⟩
theorem mz_cI_s (M : mz_M) (q a sp dp n : Nat) : (mz_cI M q a sp dp n).1 a = va_cpy (M.1 q) (M.1 a) sp dp n := if_pos rfl
theorem mz_cL_s (M : mz_M) (q a sp dp n : Nat) : (mz_cL M q a sp dp n).2.1 a = va_cpy (M.2.1 q) (M.2.1 a) sp dp n := if_pos rfl
theorem mz_nfw : nativeFrameWords "java/lang/System" "arraycopy" 5 + 11 ≤ 99 := by decide +kernel
set_option maxHeartbeats 4000000 in
theorem mz_bi_ok (hx : p.tables.exec = Jvm.exec) (hb : c.code = cc) (hml : c.maxLocals = ls.size) {Ts : List Jvm.Cond} (hts : ∀ w ∈ Ts, w.before args s = true) {own : String} (hown : s.vm.findClass own = some m.cls) (hK : va_K D cl (mz_tys cA) s) (hP : mz_P D cl ad cA A H0 S M H locs)
    {idx j : Nat} (hw : ∀ w ∈ mz_bw own idx j, w ∈ Ts) (hfr : 1 ≤ R.frames) (hc : cells ≤ R.cells) (hs : slots ≤ R.slots) {st st' : List Value} (hlo : (st.map fun v => v.category).sum + 100 ≤ R.locals) {M' : mz_M} (hd : decode cc pc = .ok (.invokestatic idx, 3)) (h : mz_bi S j st M = some (st', M'))
    (kk : ∀ (H' : Heap) (locs' : List Loc), mz_P D cl ad cA A H0 S M' H' locs' → W p l e R s m args below meth c H' locs' cells slots Q (F0 m (pc + 3) ls (mz_gs ad st'))) : W p l e R s m args below meth c H locs cells slots Q (F0 m pc ls (mz_gs ad st)) := by
  have hw' : ∀ w ∈ mz_bw own idx j, w.before args s = true := fun w h => hts w (hw w h)
  have hcat : ∀ v ∈ st, True := fun _ _ => trivial
  have hsum : ∀ st2 : List Value, ((mz_gs ad st2).map fun v => v.category).sum = (st2.map fun v => v.category).sum := fun st2 => by simp [mz_gs, Function.comp_def, mz_g_cat]
  obtain ⟨hP1, hD, hS⟩ := hP
  unfold mz_bi at h
  split at h
  · cases h
    simp only [List.map_cons, List.sum_cons] at hlo
    exact va_mmin hx hb hml hown (hw' _ (by simp [mz_bw])) (hw' _ (by simp [mz_bw])) (hw' _ (by simp [mz_bw])) (hw' _ (by simp [mz_bw])) hfr (by rw [← mz_gs, hsum]; omega) hc hs hd (kk _ _ ⟨hP1, hD, hS⟩)
  · cases h
    simp only [List.map_cons, List.sum_cons] at hlo
    exact va_mmax hx hb hml hown (hw' _ (by simp [mz_bw])) (hw' _ (by simp [mz_bw])) (hw' _ (by simp [mz_bw])) (hw' _ (by simp [mz_bw])) hfr (by rw [← mz_gs, hsum]; omega) hc hs hd (kk _ _ ⟨hP1, hD, hS⟩)
  · cases h
    simp only [List.map_cons, List.sum_cons] at hlo
    exact va_mabs hx hb hml hown (hw' _ (by simp [mz_bw])) (hw' _ (by simp [mz_bw])) (hw' _ (by simp [mz_bw])) (hw' _ (by simp [mz_bw])) hfr (by rw [← mz_gs, hsum]; omega) hc hs hd (kk _ _ ⟨hP1, hD, hS⟩)
  · cases h
    simp only [List.map_cons, List.sum_cons] at hlo
    exact va_mmin_long hx hb hml hown (hw' _ (by simp [mz_bw])) (hw' _ (by simp [mz_bw])) (hw' _ (by simp [mz_bw])) (hw' _ (by simp [mz_bw])) hfr (by rw [← mz_gs, hsum]; omega) hc hs hd (kk _ _ ⟨hP1, hD, hS⟩)
  · cases h
    simp only [List.map_cons, List.sum_cons] at hlo
    exact va_mmax_long hx hb hml hown (hw' _ (by simp [mz_bw])) (hw' _ (by simp [mz_bw])) (hw' _ (by simp [mz_bw])) (hw' _ (by simp [mz_bw])) hfr (by rw [← mz_gs, hsum]; omega) hc hs hd (kk _ _ ⟨hP1, hD, hS⟩)
  · split at h
    · rename_i hq ha
      split at h
      · rename_i hc0
        obtain ⟨h1, h2, h3, h4, h5⟩ := hc0
        cases h
        simp only [List.map_cons, List.sum_cons] at hlo
        refine va_copyi hx hb hml hown (hw' _ (by simp [mz_bw])) (hw' _ (by simp [mz_bw])) (hw' _ (by simp [mz_bw])) (hw' _ (by simp [mz_bw])) hK hP1 hD hS _ _ 0 0 (mz_ws_at hq) (mz_ws_at ha) rfl rfl rfl h1 h2 h3 h4 h5 (fun _ _ => rfl) hfr (by rw [← mz_gs, hsum]; have := mz_nfw; omega) hd fun H1 locs1 q1 q2 q3 => kk _ _ ⟨?_, ?_, q3⟩
        · rw [mz_ws_set ha (by rw [mz_cI_s]; rfl) (mz_cI_o M _ _ _ _ _)] at q1; exact q1
        · rw [mz_ws_set ha (by rw [mz_cI_s]; rfl) (mz_cI_o M _ _ _ _ _)] at q2; exact q2
      · cases h
    · rename_i hq ha
      split at h
      · rename_i hc0
        obtain ⟨h1, h2, h3, h4, h5⟩ := hc0
        cases h
        simp only [List.map_cons, List.sum_cons] at hlo
        refine va_copyl hx hb hml hown (hw' _ (by simp [mz_bw])) (hw' _ (by simp [mz_bw])) (hw' _ (by simp [mz_bw])) (hw' _ (by simp [mz_bw])) hK hP1 hD hS _ _ 1 1 (mz_ws_at hq) (mz_ws_at ha) rfl rfl rfl h1 h2 h3 h4 h5 (fun _ _ => rfl) hfr (by rw [← mz_gs, hsum]; have := mz_nfw; omega) hd fun H1 locs1 q1 q2 q3 => kk _ _ ⟨?_, ?_, q3⟩
        · rw [mz_ws_set ha (by rw [mz_cL_s]; rfl) (mz_cL_o M _ _ _ _ _)] at q1; exact q1
        · rw [mz_ws_set ha (by rw [mz_cL_s]; rfl) (mz_cL_o M _ _ _ _ _)] at q2; exact q2
      · cases h
    · cases h
  · cases h
end Mz11
