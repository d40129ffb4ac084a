/-! THE FLOW (5): making cells. What has been made so far is a part of the layout, from its beginning. -/
def mz_Rl : List (Nat × Nat × Nat) → Nat → Nat → Option Nat
  | [], _, _ => none
  | q :: l, a, k => if a = q.1 ∧ k = q.2.1 then some q.2.2 else mz_Rl l a k
/-- the references, when m of them have been written -/
def mz_Rq (m : Nat) : Nat → Nat → Option Nat := mz_Rl (mz_ord.take m).reverse
theorem mz_Rl_none {a : Nat} : ∀ {l : List (Nat × Nat × Nat)}, l.all (fun q => q.1 != a) = true → ∀ k, mz_Rl l a k = none := by
  intro l
  induction l with
  | nil => intro _ k; rfl
  | cons q l ih =>
    intro h k
    rw [List.all_cons, Bool.and_eq_true] at h
    have h1 : q.1 ≠ a := by simpa using h.1
    rw [mz_Rl, if_neg (fun z => h1 z.1.symm)]
    exact ih h.2 k
theorem mz_tk1 {α : Type} {l : List α} {n : Nat} {q : α} (h : l[n]? = some q) : l.take (n + 1) = l.take n ++ [q] := by
  rw [List.take_succ, h]; rfl
theorem mz_Rq1 {m a k z : Nat} (h : mz_ord[m]? = some (a, k, z)) : mz_Rq (m + 1) = mz_Rl ((a, k, z) :: (mz_ord.take m).reverse) := by
  unfold mz_Rq
  rw [mz_tk1 h, List.reverse_append]
  rfl
theorem mz_tkl {n : Nat} (h : n ≤ 343) : (mz_S0.take n).length = n := by
  rw [List.length_take, show mz_S0.length = 343 by decide +kernel]; omega
theorem mz_slt (n : Nat) : mz_sl (mz_S0.take n) ≤ 7000000 := by
  have h : mz_sl mz_S0 ≤ 7000000 := by decide +kernel
  have h2 : mz_sl mz_S0 = mz_sl (mz_S0.take n) + mz_sl (mz_S0.drop n) := by
    unfold mz_sl
    rw [← List.sum_append, ← List.map_append, List.take_append_drop]
  omega
theorem mz_sla (S : mz_S) (q : Nat × Nat × List Nat) : mz_sl (S ++ [q]) = mz_sl S + (if q.1 = 9 then q.2.2.length else q.2.1) := by
  unfold mz_sl
  rw [List.map_append, List.sum_append]
  simp
theorem mz_slb (S T : mz_S) : mz_sl (S ++ T) = mz_sl S + mz_sl T := by
  unfold mz_sl
  rw [List.map_append, List.sum_append]
theorem mz_slr (n k m : Nat) (hk : k ≠ 9) : mz_sl (List.replicate n (k, m, [])) = n * m := by
  induction n with
  | zero => simp [mz_sl]
  | succ n ih =>
    have : mz_sl ((k, m, ([] : List Nat)) :: List.replicate n (k, m, [])) = m + mz_sl (List.replicate n (k, m, [])) := by
      unfold mz_sl
      rw [List.map_cons, List.sum_cons, if_neg hk]
    rw [List.replicate_succ, this, ih, Nat.succ_mul]; omega
theorem mz_takT {n a : Nat} {q : Nat × Nat × List Nat} (h : mz_S0[a]? = some q) (ha : a < n) : (mz_S0.take n)[a]? = some q := by
  rw [List.getElem?_take, if_pos ha]; exact h
theorem mz_extT {n l : Nat} (hn : n ≤ 343) (h : l ≤ n) : mz_extR (mz_S0.take n) l := by
  refine ⟨by rw [mz_tkl hn]; omega, fun a ha => ?_⟩
  rw [List.getElem?_take, if_pos (by omega)]
/-- the references of the layout are among those that have been written -/
def mz_ckr (l : List (Nat × Nat × Nat)) (a : Nat) : Nat → List (Option Nat) → Bool
  | _, [] => true
  | k, none :: r => mz_ckr l a (k + 1) r
  | k, some z :: r => mz_Rl l a k == some z && mz_ckr l a (k + 1) r
def mz_ckR (l : List (Nat × Nat × Nat)) : Nat → List (List (Option Nat)) → Bool
  | _, [] => true
  | a, r :: rs => mz_ckr l a 0 r && mz_ckR l (a + 1) rs
theorem mz_ckr_ok {l : List (Nat × Nat × Nat)} {a : Nat} : ∀ {r : List (Option Nat)} {k0 : Nat}, mz_ckr l a k0 r = true → ∀ k z, r.getD k none = some z → mz_Rl l a (k0 + k) = some z := by
  intro r
  induction r with
  | nil => intro k0 _ k z h; simp at h
  | cons o r ih =>
    intro k0 h k z hz
    cases o with
    | none =>
      rw [mz_ckr] at h
      cases k with
      | zero => simp at hz
      | succ k =>
        have := ih h k z (by simpa using hz)
        rw [show k0 + (k + 1) = k0 + 1 + k by omega]; exact this
    | some w =>
      rw [mz_ckr, Bool.and_eq_true] at h
      cases k with
      | zero =>
        have h1 : mz_Rl l a k0 = some w := by simpa using h.1
        have h2 : w = z := by simpa using hz
        rw [Nat.add_zero, h1, h2]
      | succ k =>
        have := ih h.2 k z (by simpa using hz)
        rw [show k0 + (k + 1) = k0 + 1 + k by omega]; exact this
theorem mz_ckR_ok {l : List (Nat × Nat × Nat)} : ∀ {rs : List (List (Option Nat))} {a0 n : Nat}, mz_ckR l a0 (rs.take n) = true → ∀ a, a < n → ∀ k z, (rs.getD a []).getD k none = some z → mz_Rl l (a0 + a) k = some z := by
  intro rs
  induction rs with
  | nil => intro a0 n _ a _ k z h; simp at h
  | cons r rs ih =>
    intro a0 n h a ha k z hz
    cases n with
    | zero => omega
    | succ n =>
      rw [List.take_succ_cons, mz_ckR, Bool.and_eq_true] at h
      cases a with
      | zero =>
        have := mz_ckr_ok h.1 k z (by simpa using hz)
        rw [Nat.zero_add] at this; exact this
      | succ a =>
        have := ih h.2 a (by omega) k z (by simpa using hz)
        rw [show a0 + (a + 1) = a0 + 1 + a by omega]; exact this
theorem mz_rokT {m n : Nat} (h : mz_ckR (mz_ord.take m).reverse 0 (mz_Rt.take n) = true) : mz_rok (mz_Rq m) n := by
  intro a k z ha e
  have := mz_ckR_ok h a ha k z e
  rw [Nat.zero_add] at this; exact this
theorem mz_rbT {b : Bool} {R : Nat → Nat → Option Nat} {a k z : Nat} (h41 : (a == 41 && (k == 2 || k == 3)) = false) (e : R a k = some z) : mz_Rb b R a k = some z := by
  unfold mz_Rb
  by_cases h1 : a = 41
  · subst h1
    simp only [beq_self_eq_true, Bool.true_and, Bool.or_eq_false_iff, beq_eq_false_iff_ne] at h41
    rw [if_pos rfl, if_neg h41.1, if_neg h41.2]
    exact e
  · rw [if_neg h1]; exact e
theorem mz_rok0 (R : Nat → Nat → Option Nat) : mz_rok R 0 := fun _ _ _ h => absurd h (Nat.not_lt_zero _)
/-- of the store's cells alone -/
def mz_rs (R : Nat → Nat → Option Nat) : Prop := ∀ a k z, 219 ≤ a → a < 228 → mz_R0 a k = some z → R a k = some z
theorem mz_rs_of {R : Nat → Nat → Option Nat} {n : Nat} (h : mz_rok R n) (hn : 228 ≤ n) : mz_rs R := fun a k z _ h2 e => h a k z (by omega) e
theorem mz_rbs {R : Nat → Nat → Option Nat} {a k z : Nat} {b : Bool} (h : mz_rs R) (h1 : 219 ≤ a) (h2 : a < 228) (_ : (a == 41 && (k == 2 || k == 3)) = false) (e : mz_R0 a k = some z) : mz_Rb b R a k = some z := by
  unfold mz_Rb
  rw [if_neg (by omega)]; exact h _ _ _ h1 h2 e
theorem mz_rsT {m : Nat} (h : mz_ckR (mz_ord.take m).reverse 219 ((mz_Rt.drop 219).take 9) = true) : mz_rs (mz_Rq m) := by
  intro a k z h1 h2 e
  have h3 := mz_ckR_ok h (a - 219) (by omega) k z (by
    have : (mz_Rt.drop 219).getD (a - 219) [] = mz_Rt.getD a [] := by
      rw [List.getD_eq_getElem?_getD, List.getD_eq_getElem?_getD, List.getElem?_drop, show 219 + (a - 219) = a by omega]
    rw [this]; exact e)
  rw [show 219 + (a - 219) = a by omega] at h3; exact h3
/-- rows of an array of arrays -/
def mz_rw (a : Nat) : Nat → List (Nat × Nat × Nat)
  | 0 => []
  | n + 1 => (a, n, a + 1 + n) :: mz_rw a n
theorem mz_Rl_rw {a : Nat} {l : List (Nat × Nat × Nat)} : ∀ (n : Nat) (c k : Nat), mz_Rl (mz_rw a n ++ l) c k = if c = a ∧ k < n then some (a + 1 + k) else mz_Rl l c k := by
  intro n
  induction n with
  | zero => intro c k; rw [if_neg (by omega)]; rfl
  | succ n ih =>
    intro c k
    show (if c = a ∧ k = n then some (a + 1 + n) else mz_Rl (mz_rw a n ++ l) c k) = _
    rw [ih]
    by_cases h1 : c = a
    · by_cases h2 : k = n
      · rw [if_pos ⟨h1, h2⟩, if_pos ⟨h1, by omega⟩, h2]
      · rw [if_neg (fun z => h2 z.2)]
        by_cases h3 : k < n
        · rw [if_pos ⟨h1, h3⟩, if_pos ⟨h1, by omega⟩]
        · rw [if_neg (fun z => h3 z.2), if_neg (fun z => h3 (by omega))]
    · rw [if_neg (fun z => h1 z.1), if_neg (fun z => h1 z.1), if_neg (fun z => h1 z.1)]
theorem mz_Rl_ge {a : Nat} {l : List (Nat × Nat × Nat)} (h : l.all (fun q => decide (q.1 < a)) = true) {c : Nat} (hc : a ≤ c) (k : Nat) : mz_Rl l c k = none := by
  refine mz_Rl_none ?_ k
  rw [List.all_eq_true] at h ⊢
  intro q hq
  have : q.1 < a := by simpa using h q hq
  simp
  omega
section Fl5
variable {L : Nat} {xs : Nat → Int32} {d0 : Nat} {rt : Option FieldType} {hs : List (Nat × Nat × Nat)} {cd : List mz_i} {nL : Nat} {Q : mz_Q} {pc : Nat} {r : List mz_i} {lv : List (Nat × Value)} {st : List Value} {cl : Bool} {K : mz_K} {u w a n m z : Nat} {cv : Value} {S : mz_S} {R : Nat → Nat → Option Nat} {N : mz_N} {b : Bool} {t : Nat} {ins : Instr} {len : Nat} {fk : List Nat} {ix : Nat}
theorem mz_Rb_none {c : Nat} (h : ∀ k, R c k = none) (k : Nat) : mz_Rb b R c k = none := by
  unfold mz_Rb
  by_cases h1 : c = 41
  · subst h1
    rw [if_pos rfl, h, h, h]
    by_cases h2 : k = 2
    · rw [if_pos h2]; rfl
    · rw [if_neg h2]
      by_cases h3 : k = 3
      · rw [if_pos h3]; rfl
      · rw [if_neg h3]
  · rw [if_neg h1, h]
theorem mz_kz (hR : ∀ k, R a k = none) : ((mz_k S R N b t).2.1 |> fun M => mz_z M a) = ((mz_nN N a).1, (mz_nN N a).2, mz_Rb b R) := by
  show (_, _, _) = (_, _, _)
  congr 1
  congr 1
  funext c
  by_cases hc : c = a
  · subst hc
    show (if c = c then _ else _) = _
    rw [if_pos rfl]
    funext k
    exact (mz_Rb_none hR k).symm
  · show (if c = a then _ else _) = _
    rw [if_neg hc]
    rfl
theorem g_newT (e : mz_S0[a]? = some (9, u, mz_FK0 u)) (h : ((mz_ord.take m).reverse).all (fun q => q.1 != a) = true) (k : mz_G (d0, mz_X0 L xs, rt, hs, cd, nL, Q) (pc + 3) r lv (.ref a :: st) false (mz_k (mz_S0.take (a + 1)) (mz_Rq m) (mz_nN N a) b 0)) : mz_G (d0, mz_X0 L xs, rt, hs, cd, nL, Q) pc ((11, ins, 3, u, w, cv) :: r) lv st cl (mz_k (mz_S0.take a) (mz_Rq m) N b 0) := by
  have ha : a < 343 := by
    have := (List.getElem?_eq_some_iff.mp e).1
    rw [show mz_S0.length = 343 by decide +kernel] at this; exact this
  have hl : (mz_S0.take a).length = a := mz_tkl (by omega)
  have hs2 := mz_tk1 e
  intro hsf lv2 h2
  obtain ⟨n, hn⟩ := k (mz_sf_next hsf (by show 0 < 3; decide)) lv2 h2
  refine ⟨n + 1, ?_⟩
  unfold mz_W
  refine ⟨rfl, ?_, ?_, ?_⟩
  · show (mz_S0.take a).length < 900; rw [hl]; omega
  · show mz_sl (mz_S0.take a) + (mz_FK0 u).length ≤ 7000000
    have := mz_slt (a + 1)
    rw [hs2, mz_sla, if_pos rfl] at this; exact this
  · have e1 := mz_kz (S := mz_S0.take a) (N := N) (b := b) (t := 0) (mz_Rl_none h)
    show mz_W _ _ _ _ _ _ _ _ n (pc + 3) r lv2 (.ref (mz_S0.take a).length :: st) false (mz_S0.take a ++ [(9, u, mz_FK0 u)], mz_z (mz_k (mz_S0.take a) (mz_Rq m) N b 0).2.1 (mz_S0.take a).length, 0)
    rw [hl, ← hs2]
    have e2 : mz_z (mz_k (mz_S0.take a) (mz_Rq m) N b 0).2.1 a = ((mz_nN N a).1, (mz_nN N a).2, mz_Rb b (mz_Rq m)) := e1
    rw [e2]
    exact hn
theorem g_newarrT {i0 : Int32} (hi : ¬ i0 < 0) (hin : i0.toNatClampNeg = n) (h3 : n ≤ 30000) (hu : u ≠ 9) (e : mz_S0[a]? = some (u, n, [])) (h : ((mz_ord.take m).reverse).all (fun q => q.1 != a) = true) (k : mz_G (d0, mz_X0 L xs, rt, hs, cd, nL, Q) (pc + 2) r lv (.ref a :: st) false (mz_k (mz_S0.take (a + 1)) (mz_Rq m) (mz_nN N a) b 0)) : mz_G (d0, mz_X0 L xs, rt, hs, cd, nL, Q) pc ((10, ins, 2, u, w, cv) :: r) lv (.int i0 :: st) cl (mz_k (mz_S0.take a) (mz_Rq m) N b 0) := by
  have ha : a < 343 := by
    have := (List.getElem?_eq_some_iff.mp e).1
    rw [show mz_S0.length = 343 by decide +kernel] at this; exact this
  have hl : (mz_S0.take a).length = a := mz_tkl (by omega)
  have hs2 := mz_tk1 e
  intro hsf lv2 h2
  obtain ⟨n1, hn⟩ := k (mz_sf_next hsf (by show 0 < 2; decide)) lv2 h2
  refine ⟨n1 + 1, ?_⟩
  unfold mz_W
  refine ⟨hi, by rw [hin]; exact h3, rfl, ?_, ?_, ?_⟩
  · show (mz_S0.take a).length < 900; rw [hl]; omega
  · show mz_sl (mz_S0.take a) + i0.toNatClampNeg ≤ 7000000
    have := mz_slt (a + 1)
    rw [hs2, mz_sla, if_neg hu] at this; rw [hin]; exact this
  · have e1 := mz_kz (S := mz_S0.take a) (N := N) (b := b) (t := 0) (mz_Rl_none h)
    show mz_W _ _ _ _ _ _ _ _ n1 (pc + 2) r lv2 (.ref (mz_S0.take a).length :: st) false (mz_S0.take a ++ [(u, i0.toNatClampNeg, [])], mz_z (mz_k (mz_S0.take a) (mz_Rq m) N b 0).2.1 (mz_S0.take a).length, 0)
    rw [hin, hl, ← hs2]
    have e2 : mz_z (mz_k (mz_S0.take a) (mz_Rq m) N b 0).2.1 a = ((mz_nN N a).1, (mz_nN N a).2, mz_Rb b (mz_Rq m)) := e1
    rw [e2]
    exact hn
theorem g_new2T {i0 i1 : Int32} {n0 n1 m2 a2 : Nat} (hi0 : ¬ i0 < 0) (hi1 : ¬ i1 < 0) (h0 : i0.toNatClampNeg = n0) (h1 : i1.toNatClampNeg = n1) (hb0 : n0 ≤ 1000) (hb1 : n1 ≤ 30000) (hu : u = 4 ∨ u = 5) (ha : a + n0 < 343) (e : mz_S0.take a2 = mz_S0.take a ++ (u, n0, []) :: List.replicate n0 (u - 4, n1, [])) (h : ((mz_ord.take m).reverse).all (fun q => decide (q.1 < a)) = true) (h41 : a ≠ 41) (hm : (mz_ord.take m2).reverse = mz_rw a n0 ++ (mz_ord.take m).reverse) (k : mz_G (d0, mz_X0 L xs, rt, hs, cd, nL, Q) (pc + 4) r lv (.ref a :: st) false (mz_k (mz_S0.take a2) (mz_Rq m2) (mz_nNN N a) b 0)) : mz_G (d0, mz_X0 L xs, rt, hs, cd, nL, Q) pc ((12, ins, 4, u, w, cv) :: r) lv (.int i1 :: .int i0 :: st) cl (mz_k (mz_S0.take a) (mz_Rq m) N b 0) := by
  have hl : (mz_S0.take a).length = a := mz_tkl (by omega)
  intro hsf lv2 h2
  obtain ⟨n2, hn⟩ := k (mz_sf_next hsf (by show 0 < 4; decide)) lv2 h2
  refine ⟨n2 + 1, ?_⟩
  unfold mz_W
  refine ⟨hi0, hi1, by rw [h0]; exact hb0, by rw [h1]; exact hb1, rfl, ?_, ?_, ?_⟩
  · show (mz_S0.take a).length + i0.toNatClampNeg < 900; rw [hl, h0]; omega
  · show mz_sl (mz_S0.take a) + (i0.toNatClampNeg + i0.toNatClampNeg * i1.toNatClampNeg) ≤ 7000000
    have h5 := mz_slt a2
    rw [e, mz_slb] at h5
    have h6 : mz_sl ((u, n0, ([] : List Nat)) :: List.replicate n0 (u - 4, n1, [])) = n0 + n0 * n1 := by
      have h7 := mz_slb [(u, n0, ([] : List Nat))] (List.replicate n0 (u - 4, n1, []))
      rw [mz_slr _ _ _ (by omega)] at h7
      have h8 : mz_sl [(u, n0, ([] : List Nat))] = n0 := by
        unfold mz_sl
        rw [List.map_cons, List.sum_cons, if_neg (by omega)]; rfl
      rw [h8] at h7; exact h7
    rw [h6] at h5
    rw [h0, h1]; exact h5
  · show mz_W _ _ _ _ _ _ _ _ n2 (pc + 4) r lv2 (.ref (mz_S0.take a).length :: st) false (mz_S0.take a ++ (u, i0.toNatClampNeg, []) :: List.replicate i0.toNatClampNeg (u - 4, i1.toNatClampNeg, []), mz_zz (mz_k (mz_S0.take a) (mz_Rq m) N b 0).2.1 (mz_S0.take a).length i0.toNatClampNeg, 0)
    rw [h0, h1, hl, ← e]
    have e2 : mz_zz (mz_k (mz_S0.take a) (mz_Rq m) N b 0).2.1 a n0 = ((mz_nNN N a).1, (mz_nNN N a).2, mz_Rb b (mz_Rq m2)) := by
      show (_, _, _) = (_, _, _)
      congr 1
      congr 1
      funext c k
      have hq : mz_Rq m2 = mz_Rl (mz_rw a n0 ++ (mz_ord.take m).reverse) := by unfold mz_Rq; rw [hm]
      have hc2 : ∀ c, c ≠ 41 → ∀ R : Nat → Nat → Option Nat, mz_Rb b R c k = R c k := fun c hc R => by unfold mz_Rb; rw [if_neg hc]
      show (if c = a then (fun j => if j < n0 then some (a + 1 + j) else none) else if a < c then (fun _ => none) else mz_Rb b (mz_Rq m) c) k = mz_Rb b (mz_Rq m2) c k
      by_cases h1 : c = a
      · rw [if_pos h1, hc2 c (by omega), hq, mz_Rl_rw]
        by_cases h3 : k < n0
        · rw [if_pos h3, if_pos ⟨h1, h3⟩]
        · rw [if_neg h3, if_neg (fun z => h3 z.2), mz_Rl_ge h (by omega)]
      · rw [if_neg h1]
        by_cases h3 : a < c
        · rw [if_pos h3, mz_Rb_none (fun k => by rw [hq, mz_Rl_rw, if_neg (fun z => h1 z.1), mz_Rl_ge h (by omega)])]
        · rw [if_neg h3]
          have h4 : ∀ k, mz_Rq m c k = mz_Rq m2 c k := fun k => by rw [hq, mz_Rl_rw, if_neg (fun z => h1 z.1)]; rfl
          have h5 : ∀ k, c ≠ 41 → mz_Rq m c k = mz_Rq m2 c k := fun k _ => h4 k
          unfold mz_Rb
          by_cases h6 : c = 41
          · subst h6
            rw [if_pos rfl, if_pos rfl, h4, h4, h4]
          · rw [if_neg h6, if_neg h6, h4]
    rw [e2]
    exact hn
theorem mz_pRk (hz : (a = 41 → w = 2 → z = mz_lv b) ∧ (a = 41 → w = 3 → z = mz_ot b)) (l : List (Nat × Nat × Nat)) : (mz_uR (N.1, N.2, mz_Rb b (mz_Rl l)) a w (some z)).2.2 = mz_Rb b (mz_Rl ((a, w, z) :: l)) := by
  funext c k
  show (if c = a then va_up (mz_Rb b (mz_Rl l) a) w (some z) else mz_Rb b (mz_Rl l) c) k = _
  by_cases h1 : c = a
  · subst h1
    rw [if_pos rfl]
    show (if k = w then some z else mz_Rb b (mz_Rl l) c k) = _
    unfold mz_Rb
    by_cases h2 : k = w
    · subst h2
      rw [if_pos rfl]
      by_cases h3 : c = 41
      · subst h3
        rw [if_pos rfl]
        by_cases h4 : k = 2
        · subst h4
          rw [if_pos rfl, mz_Rl, if_pos ⟨rfl, rfl⟩, hz.1 rfl rfl]; rfl
        · rw [if_neg h4]
          by_cases h5 : k = 3
          · subst h5
            rw [if_pos rfl, mz_Rl, if_pos ⟨rfl, rfl⟩, hz.2 rfl rfl]; rfl
          · rw [if_neg h5, mz_Rl, if_pos ⟨rfl, rfl⟩]
      · rw [if_neg h3, mz_Rl, if_pos ⟨rfl, rfl⟩]
    · rw [if_neg h2]
      by_cases h3 : c = 41
      · subst h3
        rw [if_pos rfl, if_pos rfl]
        by_cases h4 : k = 2
        · subst h4
          rw [if_pos rfl, if_pos rfl, mz_Rl, if_neg (fun z => h2 z.2)]
        · rw [if_neg h4, if_neg h4]
          by_cases h5 : k = 3
          · subst h5
            rw [if_pos rfl, if_pos rfl, mz_Rl, if_neg (fun z => h2 z.2)]
          · rw [if_neg h5, if_neg h5, mz_Rl, if_neg (fun z => h2 z.2)]
      · rw [if_neg h3, if_neg h3, mz_Rl, if_neg (fun z => h2 z.2)]
  · rw [if_neg h1]
    have h2 : ∀ k, mz_Rl ((a, w, z) :: l) c k = mz_Rl l c k := fun k => by rw [mz_Rl, if_neg (fun z => h1 z.1)]
    unfold mz_Rb
    by_cases h3 : c = 41
    · subst h3
      rw [if_pos rfl, if_pos rfl, h2, h2, h2]
    · rw [if_neg h3, if_neg h3, h2]
theorem g_putRT (hS : S[a]? = some (9, u, fk)) (hf : fk[w]? = some 2) (e : mz_ord[m]? = some (a, w, z)) (hz : (a = 41 → w = 2 → z = mz_lv b) ∧ (a = 41 → w = 3 → z = mz_ot b)) (k : mz_G (d0, mz_X0 L xs, rt, hs, cd, nL, Q) (pc + 3) r lv st false (mz_k S (mz_Rq (m + 1)) N b t)) : mz_G (d0, mz_X0 L xs, rt, hs, cd, nL, Q) pc ((8, .putfield ix, 3, u, w, cv) :: r) lv (.ref z :: .ref a :: st) cl (mz_k S (mz_Rq m) N b t) := by
  refine g_wr (hl := by decide) (K := mz_k S (mz_Rq m) N b t) (st2 := st) (M2 := mz_uR (N.1, N.2, mz_Rb b (mz_Rq m)) a w (some z)) (by unfold mz_wr mz_k; simp only [hS, hf, and_self, if_true]) ?_
  have e2 : ((mz_k S (mz_Rq m) N b t).1, mz_uR (N.1, N.2, mz_Rb b (mz_Rq m)) a w (some z), (mz_k S (mz_Rq m) N b t).2.2) = mz_k S (mz_Rq (m + 1)) N b t := by
    have e3 := mz_pRk (N := N) hz (mz_ord.take m).reverse
    rw [mz_Rq1 e]
    show (S, (N.1, N.2, (mz_uR (N.1, N.2, mz_Rb b (mz_Rl (mz_ord.take m).reverse)) a w (some z)).2.2), t) = (S, (N.1, N.2, mz_Rb b (mz_Rl ((a, w, z) :: (mz_ord.take m).reverse))), t)
    rw [e3]
  rw [e2]
  exact k
theorem g_objT (hw : st.length ≤ 20) (k : mz_G (d0, mz_X0 L xs, rt, hs, cd, nL, Q) (pc + 3) r lv st cl K) : mz_G (d0, mz_X0 L xs, rt, hs, cd, nL, Q) pc ((13, ins, 3, u, w, cv) :: r) lv (.ref a :: st) cl K := by
  intro hsf lv2 h2
  obtain ⟨n, hn⟩ := k (mz_sf_next hsf (by show 0 < 3; decide)) lv2 h2
  refine ⟨n + 1, ?_⟩
  unfold mz_W
  exact ⟨mz_wtb hw, hn⟩
/-- the two Readers change places -/
theorem g_xch1 (hS : S[41]? = some (9, u, fk)) (hf : fk[2]? = some 2) (k : mz_G (d0, mz_X0 L xs, rt, hs, cd, nL, Q) (pc + 3) r lv st false (S, mz_uR (N.1, N.2, mz_Rb b R) 41 2 (some z), t)) : mz_G (d0, mz_X0 L xs, rt, hs, cd, nL, Q) pc ((8, .putfield ix, 3, u, 2, cv) :: r) lv (.ref z :: .ref 41 :: st) cl (mz_k S R N b t) := g_wr (hl := by decide) (K := mz_k S R N b t) (by unfold mz_wr mz_k; simp only [hS, hf, and_self, if_true]) k
theorem g_xch2 (hR : mz_rok R n) (hn : 41 < n) (hS : S[41]? = some (9, u, fk)) (hf : fk[3]? = some 2) (k : mz_G (d0, mz_X0 L xs, rt, hs, cd, nL, Q) (pc + 3) r lv st false (mz_k S R N (!b) t)) : mz_G (d0, mz_X0 L xs, rt, hs, cd, nL, Q) pc ((8, .putfield ix, 3, u, 3, cv) :: r) lv (.ref (mz_lv b) :: .ref 41 :: st) cl (S, mz_uR (N.1, N.2, mz_Rb b R) 41 2 (some (mz_ot b)), t) := by
  refine g_wr (hl := by decide) (st2 := st) (M2 := mz_uR (mz_uR (N.1, N.2, mz_Rb b R) 41 2 (some (mz_ot b))) 41 3 (some (mz_lv b))) (by unfold mz_wr; simp only [hS, hf, and_self, if_true]) ?_
  have e2 : (S, mz_uR (mz_uR (N.1, N.2, mz_Rb b R) 41 2 (some (mz_ot b))) 41 3 (some (mz_lv b)), t) = mz_k S R N (!b) t := by
    unfold mz_k
    congr 1
    congr 1
    show (N.1, N.2, _) = _
    congr 1
    congr 1
    funext c k
    show (if c = 41 then va_up ((fun c => if c = 41 then va_up (mz_Rb b R 41) 2 (some (mz_ot b)) else mz_Rb b R c) 41) 3 (some (mz_lv b)) else (if c = 41 then va_up (mz_Rb b R 41) 2 (some (mz_ot b)) else mz_Rb b R c)) k = _
    by_cases h1 : c = 41
    · subst h1
      rw [if_pos rfl]
      show (if k = 3 then some (mz_lv b) else (if 41 = 41 then va_up (mz_Rb b R 41) 2 (some (mz_ot b)) else mz_Rb b R 41) k) = _
      by_cases h3 : k = 3
      · subst h3
        rw [if_pos rfl, mz_rb_ot (!b) hR hn]
        cases b <;> rfl
      · rw [if_neg h3, if_pos rfl]
        show (if k = 2 then some (mz_ot b) else mz_Rb b R 41 k) = _
        by_cases h2 : k = 2
        · subst h2
          rw [if_pos rfl, mz_rb_lv (!b) hR hn]
          cases b <;> rfl
        · rw [if_neg h2]
          unfold mz_Rb
          rw [if_pos rfl, if_pos rfl, if_neg h2, if_neg h2, if_neg h3, if_neg h3]
    · rw [if_neg h1, if_neg h1]
      unfold mz_Rb
      rw [if_neg h1, if_neg h1]
  exact e2 ▸ k
end Fl5
