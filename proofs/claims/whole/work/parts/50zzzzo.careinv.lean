/-! PURE (50zzzzo): what stays true in care and wear. -/
def CI (q : Nat) (st : Bool) (H : Kp) (x : CrS) : Prop := (∃ tm, tm ≤ 2000000 ∧ H.2.1 5 0 = nI tm ∧ ∀ i, i < x.oc → tm + b1 st ≤ x.od i) ∧ (∀ i j, i ≤ j → j < x.oc → x.od i ≤ x.od j) ∧ (∃ cr, H.2.1 5 2 = nI cr ∧ cr + 3000 * sumN x.om x.oc + 500 * ((x.vs 0 - x.vd 0) + (x.vs 1 - x.vd 1)) ≤ 100000000 + 10000 * q) ∧ (x.oc ≤ 8) ∧ (∀ i, i < x.oc → x.op i < 3 ∧ x.om i < 100000 ∧ x.od i < 2 ^ 30) ∧ (∀ u, u < 2 → x.vs u ≤ 6 ∧ x.vd u ≤ x.vs u) ∧ (∀ u, u < 2 → ∀ i, x.vd u ≤ i → i < x.vs u → x.tp u i < 16 ∧ H.1 8 (x.tp u i) = 1) ∧ (∀ u, u < 2 → ∀ i, i < x.vs u → x.tt u i < 2 ^ 30) ∧ (∀ u, u < 2 → x.bk u < 2 ^ 30) ∧ (∀ u i v j, u < 2 → v < 2 → x.vd u ≤ i → i < x.vs u → x.vd v ≤ j → j < x.vs v → x.tp u i = x.tp v j → u = v ∧ i = j) ∧ (∀ j, j < 16 → H.1 8 j = 1 → ∃ n, n < x.nn ∧ H.2.1 11 j = nI n)
theorem CI.tm {q : Nat} {st : Bool} {H : Kp} {x : CrS} (h : CI q st H x) : ∃ tm, tm ≤ 2000000 ∧ H.2.1 5 0 = nI tm ∧ ∀ i, i < x.oc → tm + b1 st ≤ x.od i := h.1
theorem CI.so {q : Nat} {st : Bool} {H : Kp} {x : CrS} (h : CI q st H x) : ∀ i j, i ≤ j → j < x.oc → x.od i ≤ x.od j := h.2.1
theorem CI.cs {q : Nat} {st : Bool} {H : Kp} {x : CrS} (h : CI q st H x) : ∃ cr, H.2.1 5 2 = nI cr ∧ cr + 3000 * sumN x.om x.oc + 500 * ((x.vs 0 - x.vd 0) + (x.vs 1 - x.vd 1)) ≤ 100000000 + 10000 * q := h.2.2.1
theorem CI.oc {q : Nat} {st : Bool} {H : Kp} {x : CrS} (h : CI q st H x) : x.oc ≤ 8 := h.2.2.2.1
theorem CI.od {q : Nat} {st : Bool} {H : Kp} {x : CrS} (h : CI q st H x) : ∀ i, i < x.oc → x.op i < 3 ∧ x.om i < 100000 ∧ x.od i < 2 ^ 30 := h.2.2.2.2.1
theorem CI.vs {q : Nat} {st : Bool} {H : Kp} {x : CrS} (h : CI q st H x) : ∀ u, u < 2 → x.vs u ≤ 6 ∧ x.vd u ≤ x.vs u := h.2.2.2.2.2.1
theorem CI.tp {q : Nat} {st : Bool} {H : Kp} {x : CrS} (h : CI q st H x) : ∀ u, u < 2 → ∀ i, x.vd u ≤ i → i < x.vs u → x.tp u i < 16 ∧ H.1 8 (x.tp u i) = 1 := h.2.2.2.2.2.2.1
theorem CI.tt {q : Nat} {st : Bool} {H : Kp} {x : CrS} (h : CI q st H x) : ∀ u, u < 2 → ∀ i, i < x.vs u → x.tt u i < 2 ^ 30 := h.2.2.2.2.2.2.2.1
theorem CI.bk {q : Nat} {st : Bool} {H : Kp} {x : CrS} (h : CI q st H x) : ∀ u, u < 2 → x.bk u < 2 ^ 30 := h.2.2.2.2.2.2.2.2.1
theorem CI.ds {q : Nat} {st : Bool} {H : Kp} {x : CrS} (h : CI q st H x) : ∀ u i v j, u < 2 → v < 2 → x.vd u ≤ i → i < x.vs u → x.vd v ≤ j → j < x.vs v → x.tp u i = x.tp v j → u = v ∧ i = j := h.2.2.2.2.2.2.2.2.2.1
theorem CI.nu {q : Nat} {st : Bool} {H : Kp} {x : CrS} (h : CI q st H x) : ∀ j, j < 16 → H.1 8 j = 1 → ∃ n, n < x.nn ∧ H.2.1 11 j = nI n := h.2.2.2.2.2.2.2.2.2.2
def IvS (q : Nat) (st : Bool) (sl : Kp → Nat) (D H : Kp) (x : CrS) : Prop := (Jd q D) ∧ (KB q H) ∧ (plB (H.1 0) (H.1 1)) ∧ ((prs (H.1 4) (H.1 5 0)).1 = 0) ∧ (tDs H) ∧ (KA D H) ∧ (CI q st H x) ∧ (x.nn + sl H ≤ 1000000000 + 4 * q)
theorem IvS.jd {q : Nat} {st : Bool} {sl : Kp → Nat} {D H : Kp} {x : CrS} (h : IvS q st sl D H x) : Jd q D := h.1
theorem IvS.kb {q : Nat} {st : Bool} {sl : Kp → Nat} {D H : Kp} {x : CrS} (h : IvS q st sl D H x) : KB q H := h.2.1
theorem IvS.pl {q : Nat} {st : Bool} {sl : Kp → Nat} {D H : Kp} {x : CrS} (h : IvS q st sl D H x) : plB (H.1 0) (H.1 1) := h.2.2.1
theorem IvS.pr {q : Nat} {st : Bool} {sl : Kp → Nat} {D H : Kp} {x : CrS} (h : IvS q st sl D H x) : (prs (H.1 4) (H.1 5 0)).1 = 0 := h.2.2.2.1
theorem IvS.ds {q : Nat} {st : Bool} {sl : Kp → Nat} {D H : Kp} {x : CrS} (h : IvS q st sl D H x) : tDs H := h.2.2.2.2.1
theorem IvS.ka {q : Nat} {st : Bool} {sl : Kp → Nat} {D H : Kp} {x : CrS} (h : IvS q st sl D H x) : KA D H := h.2.2.2.2.2.1
theorem IvS.ci {q : Nat} {st : Bool} {sl : Kp → Nat} {D H : Kp} {x : CrS} (h : IvS q st sl D H x) : CI q st H x := h.2.2.2.2.2.2.1
theorem IvS.nn {q : Nat} {st : Bool} {sl : Kp → Nat} {D H : Kp} {x : CrS} (h : IvS q st sl D H x) : x.nn + sl H ≤ 1000000000 + 4 * q := h.2.2.2.2.2.2.2
theorem sumN_hd {f : Nat → Nat} : ∀ n, sumN f (n + 1) = f 0 + sumN (fun i => f (i + 1)) n := by
  intro n
  induction n with
  | zero => show 0 + f 0 = f 0 + 0; omega
  | succ n ih =>
    show sumN f (n + 1) + f (n + 1) = f 0 + (sumN (fun i => f (i + 1)) n + f (n + 1))
    rw [ih]; omega
section Cl
variable {D H : Kp} {x : CrS} {q : Nat} {st : Bool} {sl : Kp → Nat} {u v : Nat}
theorem CI_ok (hq : q < 2 ^ 15) (h : IvS q st sl D H x) : Cok H x := by
  obtain ⟨tm, t1, t2, t3⟩ := h.ci.tm
  obtain ⟨cr, c1, c2⟩ := h.ci.cs
  have hn := h.nn
  exact ⟨⟨tm, by omega, t2, fun i hi => by have := t3 i hi; omega⟩, ⟨cr, by omega, c1⟩, h.ci.oc, h.ci.od, h.ci.vs, h.ci.tp, h.ci.tt, h.ci.bk, by omega⟩
theorem sw_cl (h : IvS q false sl D H x) (hn : ¬ (0 < x.oc ∧ H.2.1 5 0 = nI (x.od 0))) : IvS q true sl D H x := by
  obtain ⟨h1, h2, h3, h4, h5, h6, h7, h8⟩ := h
  refine ⟨h1, h2, h3, h4, h5, h6, ?_, h8⟩
  obtain ⟨⟨tm, t1, t2, t3⟩, c2, c3, c4, c5, c6, c7, c8, c9, c10, c11⟩ := h7
  refine ⟨⟨tm, t1, t2, fun i hi => ?_⟩, c2, c3, c4, c5, c6, c7, c8, c9, c10, c11⟩
  have a1 := t3 0 (by omega)
  have a2 : x.od 0 ≠ tm := fun z => hn ⟨by omega, by rw [t2, z]⟩
  have a3 := c2 0 i (Nat.zero_le _) hi
  have e0 : b1 false = 0 := rfl
  show tm + 1 ≤ x.od i
  omega
/-- a change of parts and books alone -/
theorem KA_pb {G : Kp} {l : List (Nat × Nat)} (hA : KA D H) (ha : gka l) (ht : ∀ k, k ∈ l → kxt G k.1 k.2) (e1 : ∀ f, f ≠ 7 → G.1 f = H.1 f) (e2 : ∀ f, f = 0 ∨ f = 1 ∨ f = 10 ∨ f = 11 ∨ f = 12 → G.2.1 f = H.2.1 f) : KA (DG (gkl l) D G l.length) G := by
  refine KA_DG hA ha ht (fun k hk hk2 _ => ?_)
  by_cases w : kdk k = 12
  · rw [w]
    show H.1 8 _ = G.1 8 _ ∧ (H.1 8 _ = 1 → H.1 9 _ = G.1 9 _ ∧ H.1 10 _ = G.1 10 _ ∧ H.1 11 _ = G.1 11 _ ∧ H.2.1 10 _ = G.2.1 10 _ ∧ H.2.1 11 _ = G.2.1 11 _)
    rw [e1 8 (by omega), e1 9 (by omega), e1 10 (by omega), e1 11 (by omega), e2 10 (by omega), e2 11 (by omega)]
    exact ⟨rfl, fun _ => ⟨rfl, rfl, rfl, rfl, rfl⟩⟩
  · exact kag_f (fun f hf => e1 f (by omega)) (fun f hf => e2 f (by omega)) hk (by omega)
theorem or_cl (hsl : ∀ G : Kp, G.1 = H.1 → sl G = sl H) (h : IvS q false sl D H x) (h0 : 0 < x.oc) (ht : H.2.1 5 0 = nI (x.od 0)) : IvS q false sl (DG (gkl [(11, x.op 0), (9, 0)]) D (orH H x) 2) (orH H x) (orX x) := by
  have hI := h
  obtain ⟨h1, h2, h3, h4, h5, h6, h7, h8⟩ := h
  obtain ⟨⟨tm, t1, t2, t3⟩, c2, ⟨cr, r1, r2⟩, c4, c5, c6, c7, c8, c9, c10, c11⟩ := h7
  have hp := (c5 0 h0).1
  have hs : sumN x.om x.oc = x.om 0 + sumN (fun i => x.om (i + 1)) (x.oc - 1) := by
    have := sumN_hd (f := x.om) (x.oc - 1)
    rw [show x.oc - 1 + 1 = x.oc by omega] at this
    exact this
  have ec : (orH H x).2.1 5 2 = nI (cr + 3000 * x.om 0) := by
    show H.2.1 5 2 + nI (3000 * x.om 0) = _
    rw [r1, nI_add]
  have ha : gka [(11, x.op 0), (9, 0)] := gka_c (by omega) (by omega) (kyo_11 _ hp) (gka_c (by omega) (by omega) kyo_9 gka_n)
  have e2 : ∀ f, f ≠ 5 → f ≠ 9 → (orH H x).2.1 f = H.2.1 f := fun f a b => by unfold orH; rw [kI2 f b a]
  have hKB : KB q (orH H x) := by
    obtain ⟨d1, d2, d3, d4, d5, d6, d7, d8, d9, d10, d11, d12, d13, d14, d15, d16, d17⟩ := h2
    exact ⟨d1, d2, d3, d4, d5, d6, d7, d8, d9, d10, d11, ⟨_, by omega, ec⟩, d13, d14, d15, d16, d17⟩
  have hA : KA (DG (gkl [(11, x.op 0), (9, 0)]) D (orH H x) 2) (orH H x) := KA_pb (l := [(11, x.op 0), (9, 0)]) h6 ha (al_c (kxt_n (show 11 ≤ 12 by omega)) (al_c (kxt_n (show 9 ≤ 12 by omega)) al_n)) (fun _ _ => rfl) (fun f hf => e2 f (by omega) (by omega))
  have hJ : Jd q (DG (gkl [(11, x.op 0), (9, 0)]) D (orH H x) 2) := Jd_DG (l := [(11, x.op 0), (9, 0)]) h1 hKB h5 hA (al_c (show 8 ≤ 11 ∧ 11 ≤ 12 by omega) (al_c (show 8 ≤ 9 ∧ 9 ≤ 12 by omega) al_n)) ha
  refine ⟨hJ, hKB, h3, h4, h5, hA, ⟨⟨tm, t1, t2, fun i hi => ?_⟩, fun i j hij hj => ?_, ⟨cr + 3000 * x.om 0, ec, ?_⟩, ?_, fun i hi => ?_, c6, c7, c8, c9, c10, c11⟩, by rw [hsl (orH H x) rfl]; exact h8⟩
  · have hi' : i < x.oc - 1 := hi
    exact t3 (i + 1) (by omega)
  · have hj' : j < x.oc - 1 := hj
    exact c2 (i + 1) (j + 1) (by omega) (by omega)
  · show cr + 3000 * x.om 0 + 3000 * sumN (fun i => x.om (i + 1)) (x.oc - 1) + 500 * ((x.vs 0 - x.vd 0) + (x.vs 1 - x.vd 1)) ≤ _
    omega
  · show x.oc - 1 ≤ 8
    omega
  · have hi' : i < x.oc - 1 := hi
    exact c5 (i + 1) (by omega)
theorem bk_cl (h : IvS q st sl D H x) (hu : u < 2) : IvS q st sl D H (bkX x u) := by
  obtain ⟨h1, h2, h3, h4, h5, h6, h7, h8⟩ := h
  obtain ⟨c1, c2, ⟨cr, r1, r2⟩, c4, c5, c6, c7, c8, c9, c10, c11⟩ := h7
  have V : ∀ t i, up x.vd u 0 t ≤ i → i < up x.vs u 0 t → t ≠ u ∧ x.vd t ≤ i ∧ i < x.vs t := fun t i a b => by
    rw [up_d] at a b
    by_cases w : t = u
    · rw [if_pos w] at b; omega
    · rw [if_neg w] at a b; exact ⟨w, a, b⟩
  refine ⟨h1, h2, h3, h4, h5, h6, ⟨c1, c2, ⟨cr, r1, ?_⟩, c4, c5, fun t ht => ?_, fun t ht i a b => ?_, fun t ht i b => ?_, c9, fun t i s j ht hs a b c d e => ?_, c11⟩, h8⟩
  · show cr + 3000 * sumN x.om x.oc + 500 * ((up x.vs u 0 0 - up x.vd u 0 0) + (up x.vs u 0 1 - up x.vd u 0 1)) ≤ _
    rw [up_d, up_d, up_d, up_d]
    split <;> split <;> omega
  · show up x.vs u 0 t ≤ 6 ∧ up x.vd u 0 t ≤ up x.vs u 0 t
    rw [up_d, up_d]
    split
    · omega
    · exact c6 t ht
  · obtain ⟨w, a', b'⟩ := V t i a b
    exact c7 t ht i a' b'
  · have b' : i < up x.vs u 0 t := b
    rw [up_d] at b'
    by_cases w : t = u
    · rw [if_pos w] at b'; omega
    · rw [if_neg w] at b'; exact c8 t ht i b'
  · obtain ⟨_, a1, a2⟩ := V t i a b
    obtain ⟨_, a3, a4⟩ := V s j c d
    exact c10 t i s j ht hs a1 a2 a3 a4 e
end Cl
