/-! THE SMALL MACHINE (11): a method's walk. -/
section Mz14
variable {PG : Nat → Option mz_D} {FK : Nat → List Nat} {cl : List vw_C} {Ts : List Jvm.Cond} {ST : mz_st} {D : va_G} {ad : Nat → Nat} {cA : Nat → ClassId} {b : Nat} {cid : Nat → ClassId} {X : Nat → Option (Nat × (Nat → Int32))} {adV : Nat → Nat}
variable {p : Program} {l : Launch} {e : Env} {R : Room} {s : State} {m : MethodId} {args : Array Value} {below : List Frame} {meth : Method} {c : Code} {H : Heap} {locs : List Loc} {cells slots : Nat} {Q : State → Prop}
theorem mz_apart {S : mz_S} {M : mz_M} (had : ∀ a, a < 1000 → ad a = b + a) (hS : S.length ≤ 1000) : va_D (fun q => b ≤ q) (mz_ws ad cA S M) := by
  refine ⟨fun i j x y hi hj h => ?_, fun k x hk => ?_⟩
  · have h1 : i < S.length := by have := (List.getElem?_eq_some_iff.mp hi).1; rwa [mz_ws_len] at this
    have h2 : j < S.length := by have := (List.getElem?_eq_some_iff.mp hj).1; rwa [mz_ws_len] at this
    rw [mz_ws_at (List.getElem?_eq_getElem h1)] at hi
    rw [mz_ws_at (List.getElem?_eq_getElem h2)] at hj
    cases hi
    cases hj
    have h' : ad i = ad j := h
    rw [had i (by omega), had j (by omega)] at h'
    omega
  · have h1 : k < S.length := by have := (List.getElem?_eq_some_iff.mp hk).1; rwa [mz_ws_len] at this
    rw [mz_ws_at (List.getElem?_eq_getElem h1)] at hk
    cases hk
    show b ≤ ad k
    rw [had k (by omega)]
    omega
theorem mz_szb {g : JFrame} (h : H.size ≤ s.heap.size + cells → W p l e R s m args below meth c H locs cells slots Q g) : W p l e R s m args below meth c H locs cells slots Q g := fun T hT X => h (by rw [← hT]; exact X.heapSize) T hT X
theorem mz_isRef {C n d : String} {A : Nat → Prop} (h : va_Zq C n d A s s.heap) (a : Array Value) : (Jvm.Cond.isRef (.static C n d)).before a s = true := by
  rcases h with ⟨cf, kf, fi, f, q, cell, h1, h2, h3, h4, h5, h6, h7, -⟩ | ⟨t, cf, kf, fi, f, q, cell, h1, h2, h3, h4, h5, h6, h7, -⟩
  · simp [Cond.before, Cond.holds, Cond.value, Term.eval, State.fieldNamed?, h1, h2, h4, h5, h6, h7]
  · simp [Cond.before, Cond.holds, Cond.value, Term.eval, State.fieldNamed?, h1, h2, h4, h5, h6, h7]
/-- what held at a method's entry holds at its callee's -/
theorem mz_cx_on {T : State} {g : JFrame} {mk : MethodId} {a : Array Value} (hgood : ∀ w ∈ Ts, mz_good w = true) (h : mz_cx cl Ts ST D ad cA b cid X adV s) (hW : s.WarmedH T.vm) (hsz : s.heap.size ≤ T.heap.size) (hold : ∀ q, q < s.heap.size → ¬ b ≤ q → T.heap[q]? = s.heap[q]?) : mz_cx cl Ts ST D ad cA b cid X adV (T.calling g mk a) := by
  obtain ⟨h1, h2, h3, h4, h5, h6, h7, h8, h9, h10, h11, h12, h13, h14⟩ := h
  have hW' : s.WarmedH (T.calling g mk a).vm := hW
  have hh : (T.calling g mk a).heap = T.heap := rfl
  refine ⟨fun w hw a' => mz_per (hgood w hw) hW' (h1 w hw a'), va_K.moved hW'.alike h2, ?_, ?_, ?_, ?_, ?_, ?_, ?_, js_Z_on h10 hW hold, mz_ca_on hW' h11, fun q hq => ?_, ?_, ?_⟩
  · intro z n f hz
    rw [hh]
    exact ((h3 z n f hz).moved hW'.alike).kept hold
  · intro q hq
    rw [hh]
    exact ((h4 q hq).moved hW'.alike).kept hold
  · intro k hk
    obtain ⟨g1, ⟨z, g2⟩, g3⟩ := h5 k hk
    refine ⟨by rw [hW'.alike.findClass]; exact g1, ?_, fun k' hk' => by rw [hW'.alike.assignable]; exact g3 k' hk'⟩
    obtain ⟨z', g4, -⟩ := hW'.alike.2.2 _ _ g2
    exact ⟨z', g4⟩
  · intro i hi
    obtain ⟨tx, q, g⟩ := h6 i hi
    exact ⟨tx, q, vk_R.warm hW' g⟩
  · rw [hh]; exact (h7.moved hW'.alike).kept hold
  · rw [hh]; exact (h8.moved hW'.alike).kept hold
  · rw [hh]; omega
  · obtain ⟨tx, g⟩ := h12 q hq
    exact ⟨tx, vk_R.warm hW' g⟩
  · rw [hh]; exact (h13.moved hW'.alike).kept hold
  · rw [hh]; exact (h14.moved hW'.alike).kept hold
theorem mz_ws_inv {S : mz_S} {M : mz_M} {i : Nat} {x : Nat × va_E} (h : (mz_ws ad cA S M)[i]? = some x) : ∃ q, S[i]? = some q ∧ x = (ad i, mz_cell ad cA q (M.1 i) (M.2.1 i) (M.2.2 i)) := by
  unfold mz_ws at h
  rw [List.getElem?_mapIdx] at h
  cases hq : S[i]? with
  | none => rw [hq] at h; cases h
  | some q => rw [hq] at h; exact ⟨q, rfl, (Option.some.inj h).symm⟩
/-- an array of n arrays of k has been made -/
theorem mz_manyP {S : mz_S} {M : mz_M} {H1 : Heap} {t n k : Nat} (hP : va_P D cl (mz_ws ad cA S M) H) (ht : t = 4 ∨ t = 5) (hsz : H.size = ad S.length) (o1 : ∀ z, z < H.size → H1[z]? = H[z]?) (c0 : H1[H.size]? = some (arrV (cA t) n (fun j => if j < n then .ref (H.size + 1 + j) else .null))) (c1 : ∀ j, j < n → H1[H.size + 1 + j]? = some (arrV (cA (t - 4)) k (fun _ => if t = 4 then .int 0 else .long 0))) (had : ∀ j, j < n → ad (S.length + 1 + j) = H.size + 1 + j) : va_P D cl (mz_ws ad cA (S ++ (t, n, []) :: List.replicate n (t - 4, k, [])) (mz_zz M S.length n)) H1 := by
  intro i x hx
  obtain ⟨q, hq, rfl⟩ := mz_ws_inv hx
  by_cases h1 : i < S.length
  · rw [List.getElem?_append_left h1] at hq
    have h2 := hP i _ (mz_ws_at hq)
    have e1 : (mz_zz M S.length n).1 i = M.1 i := if_neg (by omega)
    have e2 : (mz_zz M S.length n).2.1 i = M.2.1 i := if_neg (by omega)
    have e3 : (mz_zz M S.length n).2.2 i = M.2.2 i := by
      show (if i = S.length then _ else if S.length < i then _ else M.2.2 i) = _
      rw [if_neg (by omega), if_neg (by omega)]
    rw [e1, e2, e3]
    exact h2.kept (o1 _ h2.lt)
  · by_cases h2 : i = S.length
    · subst h2
      rw [List.getElem?_append_right (Nat.le_refl _), Nat.sub_self] at hq
      have hq' : q = (t, n, []) := (Option.some.inj hq).symm
      subst hq'
      have e3 : (mz_zz M S.length n).2.2 S.length = fun j => if j < n then some (S.length + 1 + j) else none := if_pos rfl
      rw [e3]
      have e4 : (fun j => va_rf ((if j < n then some (S.length + 1 + j) else none).map ad)) = (fun j => if j < n then Value.ref (H.size + 1 + j) else .null) := by
        funext j
        by_cases hj : j < n
        · rw [if_pos hj, if_pos hj, ← had j hj]; rfl
        · rw [if_neg hj, if_neg hj]; rfl
      rcases ht with rfl | rfl
      · show H1[ad S.length]? = some (vp_cell _ _)
        rw [vp_cell_q, e4, ← hsz]
        exact c0
      · show H1[ad S.length]? = some (vp_cell _ _)
        rw [vp_cell_q, e4, ← hsz]
        exact c0
    · rw [List.getElem?_append_right (by omega)] at hq
      obtain ⟨j, hj⟩ : ∃ j, i = S.length + 1 + j := ⟨i - S.length - 1, by omega⟩
      subst hj
      rw [show S.length + 1 + j - S.length = j + 1 by omega, List.getElem?_cons_succ, List.getElem?_replicate] at hq
      by_cases hj : j < n
      · rw [if_pos hj] at hq
        have hq' : q = (t - 4, k, []) := (Option.some.inj hq).symm
        subst hq'
        have e1 : (mz_zz M S.length n).1 (S.length + 1 + j) = fun _ => 0 := if_pos (by omega)
        have e2 : (mz_zz M S.length n).2.1 (S.length + 1 + j) = fun _ => 0 := if_pos (by omega)
        rw [e1, e2]
        rcases ht with rfl | rfl
        · show H1[ad (S.length + 1 + j)]? = some (vp_cell _ _)
          rw [vp_cell_i, had j hj]
          exact c1 j hj
        · show H1[ad (S.length + 1 + j)]? = some (vp_cell _ _)
          rw [vp_cell_l, had j hj]
          exact c1 j hj
      · rw [if_neg hj] at hq; cases hq
theorem mz_newm {cc : ByteArray} {pc : Nat} {ls : Array Slot} {S : mz_S} {M : mz_M} {H0 : Heap} (hx : p.tables.exec = Jvm.exec) (hb : c.code = cc) {own : String} {idx t : Nat} (hown : s.vm.findClass own = some m.cls) (ht : t = 4 ∨ t = 5) (hclink : (Jvm.Cond.classLink own idx (if t = 4 then "[[I" else "[[J")).before args s = true) (hca : mz_ca cA s) (hK : va_K D cl (mz_tys cA) s) (hP : mz_P D cl ad cA (fun q => b ≤ q) H0 S M H locs) (hsz : H.size = ad S.length) (had : ∀ a, a < 1000 → ad a = b + a)
    {n k : Int32} {rest : List Value} (hn : ¬ n < 0) (hk : ¬ k < 0) (hk1 : k.toNatClampNeg ≤ 30000) (hS : S.length + n.toNatClampNeg < 900) (hcells : cells + (1 + n.toNatClampNeg) ≤ R.cells) (hslots : slots + (n.toNatClampNeg + n.toNatClampNeg * k.toNatClampNeg) ≤ R.slots) (hd : decode cc pc = .ok (.multianewarray idx 2, 4))
    (kk : ∀ (H' : Heap) (locs' : List Loc), mz_P D cl ad cA (fun q => b ≤ q) H0 (S ++ (t, n.toNatClampNeg, []) :: List.replicate n.toNatClampNeg (t - 4, k.toNatClampNeg, [])) (mz_zz M S.length n.toNatClampNeg) H' locs' → W p l e R s m args below meth c H' locs' (cells + 1 + n.toNatClampNeg) (slots + n.toNatClampNeg + n.toNatClampNeg * k.toNatClampNeg) Q (F0 m (pc + 4) ls (.ref (ad S.length) :: rest))) : W p l e R s m args below meth c H locs cells slots Q (F0 m pc ls (.int k :: .int n :: rest)) := by
  obtain ⟨hP1, hD, hS1⟩ := hP
  have hb0 : ad S.length = b + S.length := had _ (by omega)
  have hadj : ∀ j, j < n.toNatClampNeg → ad (S.length + 1 + j) = H.size + 1 + j := fun j hj => by rw [had _ (by omega), hsz, hb0]; omega
  have fin : ∀ (H' : Heap) (L : List Loc), H'.size = H.size + 1 + n.toNatClampNeg → H'[H.size]? = some (arrV (cA t) n.toNatClampNeg (fun j => if j < n.toNatClampNeg then .ref (H.size + 1 + j) else .null)) → (∀ j, j < n.toNatClampNeg → H'[H.size + 1 + j]? = some (arrV (cA (t - 4)) k.toNatClampNeg (fun _ => if t = 4 then .int 0 else .long 0))) → (∀ q, q < H.size → H'[q]? = H[q]?) → (∀ z ∈ L, z ∈ locs ∨ z.base = H.size) → W p l e R s m args below meth c H' L (cells + 1 + n.toNatClampNeg) (slots + n.toNatClampNeg + n.toNatClampNeg * k.toNatClampNeg) Q (F0 m (pc + 4) ls (.ref H.size :: rest)) := by
    intro H' L z1 z2 z3 z4 z5
    have h9 := kk H' L ⟨mz_manyP hP1 ht hsz z4 z2 z3 hadj, mz_apart had (by simp; omega), Nat.le_trans hS1.1 (by omega), fun x h1 h2 => (z4 x (Nat.lt_of_lt_of_le h1 hS1.1)).trans (hS1.2.1 x h1 h2), fun z hz => (z5 z hz).elim (hS1.2.2 z) (fun h => by show b ≤ z.base; rw [h, hsz, hb0]; omega)⟩
    rw [← hsz] at h9
    exact h9
  rcases ht with rfl | rfl
  · obtain ⟨⟨kA, ka1, ka2⟩, -⟩ := hca
    obtain ⟨-, kc, kc1, comp0, kc2⟩ := (hK.2 0 _ rfl).1 0 (fun _ => .null)
    have hnm : s.vm.findClass "[[I" = some (cA 4) := (hK.2 4 _ rfl).2
    exact mu_W (type := .int) hx hb hown hclink hnm ka1 ka2 kc1 kc2 rfl (by decide) hn hk (by omega) (by omega) hcells hslots hd fin
  · obtain ⟨-, ⟨kA, ka1, ka2⟩⟩ := hca
    obtain ⟨-, kc, kc1, comp0, kc2⟩ := (hK.2 1 _ rfl).1 0 (fun _ => .null)
    have hnm : s.vm.findClass "[[J" = some (cA 5) := (hK.2 5 _ rfl).2
    exact mu_W (type := .long) hx hb hown hclink hnm ka1 ka2 kc1 kc2 rfl (by decide) hn hk (by omega) (by omega) hcells hslots hd fin
end Mz14
