/-! THE SMALL MACHINE (11): a method's walk. -/
section Mz14
variable {PG : Nat → Option mz_D} {FK : Nat → List Nat} {cl : List vw_C} {Ts : List Jvm.Cond} {ST : mz_st} {D : va_G} {ad : Nat → Nat} {cA : Nat → ClassId} {b : Nat} {cid : Nat → ClassId} {X : Nat → Option (Nat × (Nat → Int32))}
variable {p : Program} {l : Launch} {e : Env} {R : Room} {s : State} {m : MethodId} {args : Array Value} {below : List Frame} {meth : Method} {c : Code} {H : Heap} {locs : List Loc} {cells slots : Nat} {Q : State → Prop}
theorem mz_apart {S : mz_S} {M : mz_M} (had : ∀ a, a < 1000 → ad a = b + a) (hS : S.length ≤ 1000) : va_D (fun q => b ≤ q) (mz_ws ad cA S M) := by
  refine ⟨fun i j x y hi hj h => ?_, fun k x hk => ?_⟩
  · have h1 : i < S.length := by have := (List.getElem?_eq_some_iff.mp hi).1; rwa [mz_ws_len] at this
    have h2 : j < S.length := by have := (List.getElem?_eq_some_iff.mp hj).1; rwa [mz_ws_len] at this
    rw [mz_ws_at (List.getElem?_eq_getElem h1)] at hi
    rw [mz_ws_at (List.getElem?_eq_getElem h2)] at hj
    cases hi
    cases hj
    have h' : ad i = ad j := h
    rw [had i (by omega), had j (by omega)] at h'
    omega
  · have h1 : k < S.length := by have := (List.getElem?_eq_some_iff.mp hk).1; rwa [mz_ws_len] at this
    rw [mz_ws_at (List.getElem?_eq_getElem h1)] at hk
    cases hk
    show b ≤ ad k
    rw [had k (by omega)]
    omega
theorem mz_szb {g : JFrame} (h : H.size ≤ s.heap.size + cells → W p l e R s m args below meth c H locs cells slots Q g) : W p l e R s m args below meth c H locs cells slots Q g := fun T hT X => h (by rw [← hT]; exact X.heapSize) T hT X
theorem mz_isRef {C n d : String} {A : Nat → Prop} (h : va_Zq C n d A s s.heap) (a : Array Value) : (Jvm.Cond.isRef (.static C n d)).before a s = true := by
  rcases h with ⟨cf, kf, fi, f, q, cell, h1, h2, h3, h4, h5, h6, h7, -⟩ | ⟨t, cf, kf, fi, f, q, cell, h1, h2, h3, h4, h5, h6, h7, -⟩
  · simp [Cond.before, Cond.holds, Cond.value, Term.eval, State.fieldNamed?, h1, h2, h4, h5, h6, h7]
  · simp [Cond.before, Cond.holds, Cond.value, Term.eval, State.fieldNamed?, h1, h2, h4, h5, h6, h7]
/-- what held at a method's entry holds at its callee's -/
theorem mz_cx_on {T : State} {g : JFrame} {mk : MethodId} {a : Array Value} (hgood : ∀ w ∈ Ts, (w.onTables && w.keeps) = true ∨ ∃ ty, w = .arrayClass ty) (h : mz_cx cl Ts ST D ad cA b cid X s) (hW : s.WarmedH T.vm) (hsz : s.heap.size ≤ T.heap.size) (hold : ∀ q, q < s.heap.size → ¬ b ≤ q → T.heap[q]? = s.heap[q]?) : mz_cx cl Ts ST D ad cA b cid X (T.calling g mk a) := by
  obtain ⟨h1, h2, h3, h4, h5, h6, h7, h8, h9⟩ := h
  have hW' : s.WarmedH (T.calling g mk a).vm := hW
  have hh : (T.calling g mk a).heap = T.heap := rfl
  refine ⟨fun w hw a' => word_at hW' (hgood w hw) (h1 w hw a'), va_K.moved hW'.alike h2, ?_, ?_, ?_, ?_, ?_, ?_, ?_⟩
  · intro z n f hz
    rw [hh]
    exact ((h3 z n f hz).moved hW'.alike).kept hold
  · intro q hq
    rw [hh]
    exact ((h4 q hq).moved hW'.alike).kept hold
  · intro k hk
    obtain ⟨g1, ⟨z, g2⟩, g3⟩ := h5 k hk
    refine ⟨by rw [hW'.alike.findClass]; exact g1, ?_, fun k' hk' => by rw [hW'.alike.assignable]; exact g3 k' hk'⟩
    obtain ⟨z', g4, -⟩ := hW'.alike.2.2 _ _ g2
    exact ⟨z', g4⟩
  · intro i hi
    obtain ⟨tx, q, g⟩ := h6 i hi
    exact ⟨tx, q, vk_R.warm hW' g⟩
  · rw [hh]; exact (h7.moved hW'.alike).kept hold
  · rw [hh]; exact (h8.moved hW'.alike).kept hold
  · rw [hh]; omega
end Mz14
