/-! PURE (50zzzzzzzp): put: judging leaves all as it was. -/
def ljA : List Nat := plA ++ [53, 56, 58, 59, 60, 61, 65, 72, 73, 81, 82, 83, 85, 86, 99]
def ljC : List Nat := [257, 272, 273, 274, 275, 278, 279, 280, 285]
section Jx
variable {N N1 N2 M M1 M2 : mz_N} {b : Bool} {B q : Nat} {s : st_S} {D H : Kp} {x : CrS} {L : LvS} {R : RsS} {e fl : Nat → Nat}
/-- the reference's plan is made anew, and its rows -/
theorem LR_j {A1 B1 A2 B2 : List Nat} (h : LR q e fl L N1 b N2) (hpl : r_pl e fl M2) (hp : prR M1 b M2 L.S) (f1 : fq A1 B1 N1 M1) (f2 : fq A2 B2 N2 M2) (a1 : ljA.all (fun c => !A1.contains c) = true) (b1' : lrB.all (fun c => !B1.contains c) = true) (a2 : ljC.all (fun c => !A2.contains c) = true) (b2 : lrD.all (fun c => !B2.contains c) = true) (i2 : ∀ f, (52 ≤ f ∧ f ≤ 65) ∨ f = 72 → M2.1 232 f = N2.1 232 f) (j2 : ∀ f, f = 1 ∨ f = 66 ∨ f = 68 → M2.2 232 f = N2.2 232 f) : LR q e fl L M1 b M2 := by
  have c1 : ∀ z, ljA.contains z = true → M1.1 z = N1.1 z := fun z hz => f1.1 z (ct_nt a1 hz)
  have l1 : ∀ z, lrB.contains z = true → M1.2 z = N1.2 z := fun z hz => f1.2 z (ct_nt b1' hz)
  have c2 : ∀ z, ljC.contains z = true → M2.1 z = N2.1 z := fun z hz => f2.1 z (ct_nt a2 hz)
  have l2 : ∀ z, lrD.contains z = true → M2.2 z = N2.2 z := fun z hz => f2.2 z (ct_nt b2 hz)
  have r3 : ∀ z, z < 276 → 272 ≤ z → ljC.contains z = true := by decide +kernel
  have r4 : ∀ z, z < 281 → 278 ≤ z → ljC.contains z = true := by decide +kernel
  have r5 : ∀ z, z < 62 → 58 ≤ z → ljA.contains z = true := by decide +kernel
  have r6 : ∀ z, z < 72 → 68 ≤ z → lrB.contains z = true := by decide +kernel
  have r7 : ∀ z, z < 99 → 91 ≤ z → lrB.contains z = true := by decide +kernel
  have r8 : ∀ z, z < 266 → 260 ≤ z → lrD.contains z = true := by decide +kernel
  obtain ⟨p1, p2, p3, p4, p5, p6, p7, p8, p9, p10, p11, p12, p13, p14, p15, p16, p17, p18⟩ := h
  refine ⟨⟨pl_cg (fun z hz => c1 z ?_) p1.1, hpl⟩, hp, p3, tgR_f p4 (c1 53 rfl) (c2 257 rfl), p5, ciR_f p6 (fun z h1 h2 => c1 z (r5 z (by omega) h1)) (fun z h1 h2 => c2 z (r3 z (by omega) h1)), p7, suC_f p8 (fun f _ _ => by rw [c1 56 rfl]), suR_f p9 (fun f h1 h2 => i2 f (by omega)) (j2 68 (by omega)) (j2 66 (by omega)), p10, clC_f p11 (fun z h1 h2 => l1 z (r6 z (by omega) h1)) (c1 72 rfl) (c1 73 rfl) (by rw [c1 65 rfl]), clR_f p12 (fun z h1 h2 => l2 z (r8 z (by omega) h1)), p13, waR_f p14 (fun z hz => by rcases hz with w | w | w | w <;> subst w <;> exact c1 _ rfl) (by rw [c1 81 rfl]) (fun z h1 h2 => c2 z (r4 z (by omega) h1)) (l2 281 rfl) (i2 72 (by omega)), p15, poR_f p16 (fun z h1 h2 => l1 z (r7 z (by omega) h1)) (c1 99 rfl) (l2 286 rfl) (c2 285 rfl), p17, by rw [l1 56 rfl]; exact p18.1, by rw [j2 1 (by omega)]; exact p18.2⟩
  have : z ∈ plA := by simpa using hz
  simp [ljA, this]
theorem rkp_j {A B : List Nat} (h : r_kp N H) (f : fq A B N M) (hA : ([234, 244, 245, 246, 247, 248, 249, 250, 252, 282, 283, 284, 287, 288, 289, 290, 306, 307, 308, 309, 310, 311, 312, 313, 314, 315] : List Nat).all (fun c => !A.contains c) = true) (hB : krL.all (fun c => !B.contains c) = true) (h233 : ∀ j, j < 550 → M.1 233 j = N.1 233 j) (h27 : M.1 232 27 = N.1 232 27) (h21 : M.1 232 21 = N.1 232 21) (h9 : M.2 232 = N.2 232) : r_kp M H := by
  have q1 : ∀ c, ([234, 244, 245, 246, 247, 248, 249, 250, 252, 282, 283, 284, 287, 288, 289, 290, 306, 307, 308, 309, 310, 311, 312, 313, 314, 315] : List Nat).contains c = true → M.1 c = N.1 c := fun c hc => f.1 c (ct_nt hA hc)
  have q2 : ∀ c, krL.contains c = true → M.2 c = N.2 c := fun c hc => f.2 c (ct_nt hB hc)
  obtain ⟨r1, r2, r3, r4, r5, r6, r6b, r7, r8, r8b, r9, r10, r11, r12, r13, r14, r15⟩ := h
  unfold r_kp
  rw [q1 234 rfl, q1 244 rfl, q1 245 rfl, q1 246 rfl, q1 247 rfl, q1 248 rfl, q1 252 rfl, q2 321 rfl, q2 322 rfl, q2 323 rfl, q2 324 rfl, q2 325 rfl, h9, h21, h27, q1 249 rfl, q1 250 rfl, q2 305 rfl, q1 306 rfl, q1 307 rfl, q1 287 rfl, q1 288 rfl, q1 289 rfl, q1 290 rfl, q2 291 rfl, q2 292 rfl, q1 308 rfl, q1 309 rfl, q1 310 rfl, q1 311 rfl, q1 312 rfl, q1 313 rfl, q1 314 rfl, q1 315 rfl, q1 282 rfl, q1 283 rfl, q1 284 rfl]
  exact ⟨fun j hj => (h233 j hj).trans (r1 j hj), r2, r3, r4, r5, r6, r6b, r7, r8, r8b, r9, r10, r11, r12, r13, r14, r15⟩
theorem RsR_j {A1 B1 A2 B2 : List Nat} (h : RsR H L R N1 N2) (f1 : fq A1 B1 N1 M1) (f2 : fq A2 B2 N2 M2) (a1 : (1 :: 2 :: 100 :: rsA).all (fun c => !A1.contains c) = true) (c : rsC.all (fun c => !A2.contains c) = true) (d : B2.contains 317 = false) (k41 : ∀ f, f ≠ 9 → M1.1 41 f = N1.1 41 f) (h233 : ∀ j, j < 3850 → M2.1 233 j = N2.1 233 j) (i : ∀ f, rsI.contains f = true → M2.1 232 f = N2.1 232 f) : RsR H L R M1 M2 := by
  have c1 : ∀ z, (1 :: 2 :: 100 :: rsA).contains z = true → M1.1 z = N1.1 z := fun z hz => f1.1 z (ct_nt a1 hz)
  have c2 : ∀ z, rsC.contains z = true → M2.1 z = N2.1 z := fun z hz => f2.1 z (ct_nt c hz)
  obtain ⟨a1', a2, a3, a4, a5, a6, a7, a8, a9, a10, a11, a12, a13, a14, a15⟩ := h
  refine ⟨fun d hd i hi => ?_, fun d hd i hi => ?_, a3, ?_, ?_, ?_, ?_, ?_, a9, ?_, ?_, ?_, ?_, a14, a15⟩
  · have d1 : M1.1 (5 + d) = N1.1 (5 + d) ∧ M1.1 (9 + d) = N1.1 (9 + d) := by
      rcases (show d = 0 ∨ d = 1 ∨ d = 2 by omega) with w | w | w <;> subst w <;> exact ⟨c1 _ rfl, c1 _ rfl⟩
    rw [d1.1, d1.2]; exact a1' d hd i hi
  · rw [h233 _ (by omega), h233 _ (by omega)]; exact a2 d hd i hi
  · rw [c1 2 rfl, i 4 rfl]; exact a4
  · rw [k41 1 (by decide), i 25 rfl]; exact a5
  · rw [c1 42 rfl, c2 251 rfl]; exact a6
  · rw [k41 4 (by decide), k41 5 (by decide), i 34 rfl, i 35 rfl, i 36 rfl]; exact a7
  · rw [c1 109 rfl, c2 316 rfl]; exact a8
  · rw [c1 100 rfl, i 112 rfl]; exact a10
  · rw [c1 111 rfl, c1 112 rfl, c1 113 rfl, c1 114 rfl, f2.2 317 d, c2 318 rfl, c2 319 rfl, c2 320 rfl]; exact a11
  · rw [c1 1 rfl, c1 228 rfl, i 141 rfl, c2 334 rfl]; exact a12
  · rw [c1 1 rfl, c1 229 rfl, i 143 rfl, c2 335 rfl]; exact a13
/-- a reel is judged: nothing that counts has changed -/
theorem jw_MR (h : MR q B s D H x L N1 b N2) (h4 : RsR H L R N1 N2) (c : jcW N1 M1 b) (r : jrW N2 M2 (H.1 0) (H.1 1) L.S) : MR q B s D H x L M1 b M2 ∧ RsR H L R M1 M2 := by
  have f1 := c.f
  have f2 := r.f
  have l2 : M2.2 232 = N2.2 232 := f2.2 232 rfl
  have i2 : ∀ f, f ≠ 7 → f ≠ 28 → f ≠ 31 → (f < 147 ∨ 154 < f) → f ≠ 156 → f ≠ 157 → M2.1 232 f = N2.1 232 f := r.i
  have hk := h.cs.ks
  have o0 : M1.1 (mz_lv b) = N1.1 (mz_lv b) := c.lv 0 (by omega)
  refine ⟨⟨⟨KS_B hk (stK_of f1 f2 rfl rfl (fun f hf => i2 f (by omega) (by omega) (by omega) (by omega) (by omega) (by omega)) (by rw [l2])) rfl ?_ ?_, crC_f h.cs.cc f1 rfl rfl, crR_f h.cs.cr f2 rfl rfl (i2 96 (by omega) (by omega) (by omega) (by omega) (by omega) (by omega)) (by rw [l2]) rfl⟩, ?_, h.iv⟩, ?_⟩
  · refine ckp_t hk.kc f1 rfl rfl (fun _ _ _ => rfl) rfl ?_ (fun j hj => ?_)
    · rw [o0]; exact hk.kc.2.2.2.2.2.1
    · rw [c.lv 1 (by omega)]; exact hk.kc.2.2.2.2.2.2.1 j hj
  · exact rkp_j hk.kr f2 rfl rfl (fun j hj => r.p j (by omega)) (i2 27 (by omega) (by omega) (by omega) (by omega) (by omega) (by omega)) (i2 21 (by omega) (by omega) (by omega) (by omega) (by omega) (by omega)) l2
  · obtain ⟨q1, q2, q3, q4, q5⟩ := h.lr.pr
    exact LR_j h.lr r.pl ⟨by rw [o0]; exact q1, by rw [o0]; exact q2, by rw [c.lv 2 (by omega), c.lv 3 (by omega)]; exact q3, r.r8, r.rw⟩ f1 f2 rfl rfl rfl rfl (fun f hf => i2 f (by omega) (by omega) (by omega) (by omega) (by omega) (by omega)) (fun f _ => by rw [l2])
  · refine RsR_j h4 f1 f2 rfl rfl rfl c.x r.p (fun f hf => ?_)
    have : f = 4 ∨ f = 25 ∨ f = 34 ∨ f = 35 ∨ f = 36 ∨ f = 112 ∨ f = 141 ∨ f = 143 := by simpa [rsI] using hf
    exact i2 f (by omega) (by omega) (by omega) (by omega) (by omega) (by omega)
end Jx
