/-! PURE (50zzzzzzk): the class lays a tour. -/
/-- when each place is done; when the worker is back -/
def vtm (sp : Nat → Nat) : Nat → Nat → List Nat → List Nat
  | _, _, [] => []
  | a, t, j :: p => (t + (wy a (sp j) + 15)) :: vtm sp (sp j) (t + (wy a (sp j) + 15)) p
def vend (sp : Nat → Nat) : Nat → Nat → List Nat → Nat
  | a, t, [] => t + wy a 0
  | a, t, j :: p => vend sp (sp j) (t + (wy a (sp j) + 15)) p
section Ly
variable {N M : mz_N} {n u t0 : Nat} {pl sp : Nat → Nat}
theorem gd_l {A B : List Nat} {i : Nat} (h : i < A.length) : gd (A ++ B) i = gd A i := by
  unfold gd
  rw [List.getD_eq_getElem?_getD, List.getD_eq_getElem?_getD, List.getElem?_append_left h]
theorem gd_e {A B : List Nat} {x : Nat} : gd (A ++ x :: B) A.length = x := by
  unfold gd
  rw [List.getD_eq_getElem?_getD, List.getElem?_append_right (Nat.le_refl _), Nat.sub_self]; rfl
theorem lay_t (hX : spX N n pl sp) (hs : ∀ j, sp j < 240) (h1 : 1 ≤ n) (hn : n ≤ 6) (hu : u < 2) (ht : t0 ≤ 2000000) (hB : ∀ k, 1 ≤ k → k < 2 ^ n → bst N n (Wy sp n) k) : cp_346_0 (nI u) (nI n) (nI t0) N ∧ ∃ P, P = GP wy sp n 0 0 ∧ P.length = n ∧ fq [136, 137, 139, 140, 141] [] N (cf_346_0 (nI u) (nI n) (nI t0) N) ∧ (∀ c, c = 136 ∨ c = 137 ∨ c = 139 ∨ c = 140 → c ≠ 136 + u → c ≠ 139 + u → (cf_346_0 (nI u) (nI n) (nI t0) N).1 c = N.1 c) ∧ (∀ i, i < n → (cf_346_0 (nI u) (nI n) (nI t0) N).1 (136 + u) i = nI (pl (gd P i)) ∧ gd P i < n ∧ (cf_346_0 (nI u) (nI n) (nI t0) N).1 (139 + u) i = nI (gd (vtm sp 0 t0 P) i) ∧ gd (vtm sp 0 t0 P) i ≤ t0 + 75 * 6) ∧ (cf_346_0 (nI u) (nI n) (nI t0) N).1 141 = upd (N.1 141) u (nI (vend sp 0 t0 P)) ∧ vend sp 0 t0 P ≤ t0 + 75 * 6 + 60 := by
  have cu : (nI u).toNatClampNeg = u := nI_clamp (by omega)
  have p64 : 2 ^ n ≤ 64 := by
    rcases (show n = 1 ∨ n = 2 ∨ n = 3 ∨ n = 4 ∨ n = 5 ∨ n = 6 by omega) with w | w | w | w | w | w <;> subst w <;> decide
  have iu : mz_ib (nI u) 2 := ib_n hu (by omega)
  rw [cp_346_0, cf_346_0, cp_346_12, cf_346_12]
  generalize hP : GP wy sp n 0 0 = P0
  have key := mz_lpn (f := cq_346_12 (nI u) (nI n)) (P := cd_346_12 (nI u) (nI n)) (Q := fun r => P0.length = n ∧ fq [136, 137, 139, 140, 141] [] N r ∧ (∀ c, c = 136 ∨ c = 137 ∨ c = 139 ∨ c = 140 → c ≠ 136 + u → c ≠ 139 + u → r.1 c = N.1 c) ∧ (∀ i, i < n → r.1 (136 + u) i = nI (pl (gd P0 i)) ∧ gd P0 i < n ∧ r.1 (139 + u) i = nI (gd (vtm sp 0 t0 P0) i) ∧ gd (vtm sp 0 t0 P0) i ≤ t0 + 75 * 6) ∧ r.1 141 = upd (N.1 141) u (nI (vend sp 0 t0 P0)) ∧ vend sp 0 t0 P0 ≤ t0 + 75 * 6 + 60) n (fun k s => ∃ m a tm M dn dt, s = (nI m, nI a, nI tm, nI k, M) ∧ m < 2 ^ n ∧ a < 240 ∧ tm ≤ t0 + 75 * k ∧ (rem n m).length = n - k ∧ P0 = dn ++ GP wy sp n m a ∧ dn.length = k ∧ vtm sp 0 t0 P0 = dt ++ vtm sp a tm (GP wy sp n m a) ∧ dt.length = k ∧ vend sp 0 t0 P0 = vend sp a tm (GP wy sp n m a) ∧ fq [136, 137, 139, 140] [] N M ∧ (∀ c, c = 136 ∨ c = 137 ∨ c = 139 ∨ c = 140 → c ≠ 136 + u → c ≠ 139 + u → M.1 c = N.1 c) ∧ ∀ i, i < k → M.1 (136 + u) i = nI (pl (gd dn i)) ∧ gd dn i < n ∧ M.1 (139 + u) i = nI (gd dt i) ∧ gd dt i ≤ t0 + 75 * k) ?_ ?_ (k := 0) (s := (0, 0, nI t0, 0, N)) (Nat.zero_le _) ⟨0, 0, t0, N, [], [], rfl, by have := Nat.one_le_two_pow (n := n); omega, by omega, by omega, by rw [rem_0 n (by omega), List.length_range]; rfl, hP.symm, rfl, by rw [hP]; rfl, rfl, by rw [hP], fq_refl _ _ _, fun _ _ _ _ => rfl, fun i hi => absurd hi (Nat.not_lt_zero i)⟩
  · exact ⟨key.1, P0, rfl, key.2⟩
  · rintro k s hk ⟨m, a, tm, M, dn, dt, rfl, hm, ha, htm, hrem, hp1, hp2, hv1, hv2, he, fM, oM, vM⟩
    have l : nI k < nI n := (nI_ltI (by omega) (by omega)).mpr hk
    have hXM : spX M n pl sp := spX_f hX (fM.1 142 rfl) (fM.1 118 rfl) (fM.1 119 rfl)
    have hBM : ∀ j, j < n → m.testBit j = false → bst M n (Wy sp n) (m ||| 1 <<< j) := fun j hj hb => by
      have c := or_ge n (by omega) m hm j hj
      rw [hb, Bool.false_or] at c
      simp only [Bool.and_eq_true] at c
      have c1 := of_decide_eq_true c.1
      have c2 := of_decide_eq_true c.2
      refine bst_f (hB _ (by omega) c2) (fM.1 _ ?_)
      have : ∀ y, y < 64 → 1 ≤ y → ([136, 137, 139, 140] : List Nat).contains (144 + y) = false := by decide +kernel
      exact this _ (by omega) (by omega)
    have ne : rem n m ≠ [] := fun z => by rw [z] at hrem; have : (0 : Nat) = n - k := hrem; omega
    obtain ⟨b1', _⟩ := best_c hXM hn (by omega) ha hBM
    obtain ⟨j, j1, j2, j3, j4, j5⟩ := (step_v hXM hs hn (by omega) ha hBM).2 ne
    obtain ⟨r1, r2, r3⟩ := rem_in n (by omega) m (by omega) j j1 j2
    have c := or_ge n (by omega) m hm j j1
    rw [j2, Bool.false_or] at c
    simp only [Bool.and_eq_true] at c
    have c2 := of_decide_eq_true c.2
    obtain ⟨s1, s2⟩ := spot_c hXM hn j1
    have wb := wy_b ha (hs j)
    have nj := (nI_neg2 (k := j) (by omega)).1
    have g142 : mz_gI M 142 (nI j) = nI (pl j) := by rw [gI_a, nI_clamp (by omega)]; exact (hXM.a j j1).1
    have ij : mz_ib (nI j) 6 := ib_n (by omega) (by omega)
    have ik : mz_ib (nI k) 6 := ib_n (by omega) (by omega)
    have ew : nI tm + (cf_345_0 (nI a) (nI (sp j)) + 15) = nI (tm + (wy a (sp j) + 15)) := by rw [way_c ha (hs j), show (15 : Int32) = nI 15 from rfl, nI_add, nI_add]
    have ob := or_b m (by omega) j (by omega)
    generalize hK : mz_wI (mz_wI M (136 + u) (nI k) (nI (pl j))) (139 + u) (nI k) (nI (tm + (wy a (sp j) + 15))) = K
    have fK : fq [136, 137, 139, 140] [] N K := by
      rw [← hK]
      refine fq_wI (fq_wI fM ?_) ?_ <;> rcases (show u = 0 ∨ u = 1 by omega) with y | y <;> rw [y] <;> rfl
    have hXK : spX K n pl sp := spX_f hX (fK.1 142 rfl) (fK.1 118 rfl) (fK.1 119 rfl)
    obtain ⟨s3, s4⟩ := spot_c hXK hn j1
    have k136 : ∀ i, K.1 (136 + u) i = if i = k then nI (pl j) else M.1 (136 + u) i := fun i => by rw [← hK, wI_ne (by omega), wI_at (by omega)]
    have k139 : ∀ i, K.1 (139 + u) i = if i = k then nI (tm + (wy a (sp j) + 15)) else M.1 (139 + u) i := fun i => by rw [← hK, wI_at (by omega), wI_ne (by omega)]
    have oK : ∀ c, c = 136 ∨ c = 137 ∨ c = 139 ∨ c = 140 → c ≠ 136 + u → c ≠ 139 + u → K.1 c = N.1 c := fun c hc h1 h2 => by rw [← hK, wI_ne h2, wI_ne h1]; exact oM c hc h1 h2
    rw [cd_346_12, cq_346_12]
    simp only [l, if_true, j3, if_neg nj, s2, g142, cu, ew, cf_346_70, cf_346_98, hK, s4, ob, nI_1]
    refine ⟨⟨fun _ => ⟨b1', fun z => absurd z nj, fun _ => ⟨s1, iu, ij, ik, ?_⟩⟩, fun z => absurd trivial z⟩, Or.inl ⟨_, rfl, m ||| 1 <<< j, sp j, tm + (wy a (sp j) + 15), K, dn ++ [j], dt ++ [tm + (wy a (sp j) + 15)], rfl, c2, hs j, by omega, by omega, ?_, by rw [List.length_append, hp2]; rfl, ?_, by rw [List.length_append, hv2]; rfl, ?_, fK, oK, fun i hi => ?_⟩⟩
    · rw [cp_346_70, cu, hK]
      exact ⟨iu, ik, s3, trivial⟩
    · rw [hp1, j5, List.append_assoc]; rfl
    · rw [hv1, j5, List.append_assoc]; rfl
    · rw [he, j5]; rfl
    · rw [k136, k139]
      by_cases y : i = k
      · have e1 : gd (dn ++ [j]) i = j := by rw [y, ← hp2]; exact gd_e
        have e2 : gd (dt ++ [tm + (wy a (sp j) + 15)]) i = tm + (wy a (sp j) + 15) := by rw [y, ← hv2]; exact gd_e
        rw [if_pos y, if_pos y, e1, e2]
        exact ⟨rfl, j1, rfl, by omega⟩
      · rw [if_neg y, if_neg y, gd_l (by omega), gd_l (by omega)]
        obtain ⟨z1, z2, z3, z4⟩ := vM i (by omega)
        exact ⟨z1, z2, z3, by omega⟩
  · rintro s ⟨m, a, tm, M, dn, dt, rfl, hm, ha, htm, hrem, hp1, hp2, hv1, hv2, he, fM, oM, vM⟩
    have l : ¬ nI n < nI n := fun z => by have := (nI_ltI (by omega) (by omega)).mp z; omega
    rw [Nat.sub_self] at hrem
    have e0 := List.eq_nil_of_length_eq_zero hrem
    obtain ⟨g1, g2⟩ := GV_0 (w := wy) (sp := sp) (a := a) e0
    rw [g2] at hp1 hv1 he
    have hv1' : vtm sp 0 t0 P0 = dt ++ [] := hv1
    rw [List.append_nil] at hp1 hv1'
    have he' : vend sp 0 t0 P0 = tm + wy a 0 := he
    have wb := wy_b ha (show 0 < 240 by omega)
    have ew : nI tm + cf_345_0 (nI a) 0 = nI (tm + wy a 0) := by rw [show cf_345_0 (nI a) 0 = nI (wy a 0) from way_c ha (show 0 < 240 by omega), nI_add]
    rw [cd_346_12, cq_346_12]
    simp only [l, if_false, ew]
    refine ⟨⟨False.elim, fun _ => iu⟩, _, rfl, by rw [hp1]; exact hp2, fq_wI (fq_sub fM rfl rfl) rfl, fun c hc h1 h2 => by rw [wI_ne (by omega)]; exact oM c hc h1 h2, fun i hi => ?_, ?_, by rw [he']; omega⟩
    · rw [wI_ne (by omega), wI_ne (by omega), hv1', hp1]
      obtain ⟨z1, z2, z3, z4⟩ := vM i hi
      exact ⟨z1, z2, z3, by omega⟩
    · rw [he', wI_s, sI_e, cu, fM.1 141 rfl]
end Ly
