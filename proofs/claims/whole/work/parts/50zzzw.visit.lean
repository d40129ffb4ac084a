/-! PURE (50zzzw): a visit is over. -/
section Jn
variable {N : mz_N} {s : st_S} {l : List (Nat × Nat)} {k1 k2 : Nat}
theorem cj_go (hc : st_c N s) : st_c (cf_117_0 N) s ∧ gr_c (cf_117_0 N) (gkl []) 0 ∧ cyF N (cf_117_0 N) := by
  have f : fr [219, 226] N (cf_117_0 N) := (gjc_ok (N := N) (l := []) gka_n (Nat.zero_le _)).2.1
  have g : ∀ f, f ≠ 11 → (cf_117_0 N).1 219 f = N.1 219 f := (gjc_ok (N := N) (l := []) gka_n (Nat.zero_le _)).2.2
  exact ⟨st_cF hc (f.1 221 rfl) (f.1 222 rfl) (f.1 223 rfl) (f.1 224 rfl) (fun f _ _ => g f (by omega)), start_c, cyF_j f⟩
theorem rj_go (hc : st_r N s) : st_r (cf_471_0 N) s ∧ gr_r (cf_471_0 N) (gkl []) 0 ∧ ryF N (cf_471_0 N) := by
  have f : fr [232, 333] N (cf_471_0 N) := (gjr_ok (N := N) (l := []) gka_n (Nat.zero_le _)).2.1
  have g : ∀ f, f ≠ 139 → (cf_471_0 N).1 232 f = N.1 232 f := (gjr_ok (N := N) (l := []) gka_n (Nat.zero_le _)).2.2
  exact ⟨st_rF hc (f.1 329 rfl) (f.1 330 rfl) (f.1 331 rfl) (fun f hf => g f (by omega)) (by rw [f.2]), start_r, ryF_j f g⟩
theorem cj_add (hc : st_c N s) (g1 : gr_c N (gkl l) l.length) (h1 : k1 ≤ 15) (h2 : k2 < 40) (h3 : kyo k1 k2 < 135) (hl : l.length < 16) : cp_119_0 (nI k1) (nI k2) N ∧ st_c (cf_119_0 (nI k1) (nI k2) N) s ∧ gr_c (cf_119_0 (nI k1) (nI k2) N) (gkl ((k1, k2) :: l)) (l.length + 1) ∧ cyF N (cf_119_0 (nI k1) (nI k2) N) := by
  obtain ⟨a1, a2, a3, a4⟩ := join_c (N := N) (gk := gkl l) (gc := l.length) (kd := k1) (ix := k2) (by omega) (by omega) h3 g1 (by omega)
  exact ⟨a1, st_cF hc (a3.1 221 rfl) (a3.1 222 rfl) (a3.1 223 rfl) (a3.1 224 rfl) (fun f _ _ => by rw [a4, up_a, if_neg (by omega)]), a2, cyF_j a3⟩
theorem rj_add (hc : st_r N s) (g1 : gr_r N (gkl l) l.length) (h1 : k1 ≤ 15) (h2 : k2 < 40) (h3 : kyo k1 k2 < 135) (hl : l.length < 16) : cp_472_0 (nI k1) (nI k2) N ∧ st_r (cf_472_0 (nI k1) (nI k2) N) s ∧ gr_r (cf_472_0 (nI k1) (nI k2) N) (gkl ((k1, k2) :: l)) (l.length + 1) ∧ ryF N (cf_472_0 (nI k1) (nI k2) N) := by
  obtain ⟨b1', b2, b3, b4⟩ := join_r (N := N) (gk := gkl l) (gc := l.length) (kd := k1) (ix := k2) (by omega) (by omega) h3 g1 (by omega)
  have e2 : ∀ f, f ≠ 139 → (cf_472_0 (nI k1) (nI k2) N).1 232 f = N.1 232 f := fun f hf => by rw [b4, up_a, if_neg hf]
  exact ⟨b1', st_rF hc (b3.1 329 rfl) (b3.1 330 rfl) (b3.1 331 rfl) (fun f hf => e2 f (by omega)) (by rw [b3.2]), b2, ryF_j b3 e2⟩
end Jn
/-- a ticket's visit is over: the kept things, the rest -/
def vi0 (H : Kp) (p : Nat) : Kp := kI (kS H 8 p 0) 5 2 (H.2.1 5 2 + 500)
def vi1 (H : Kp) (q : Nat) : Kp := kS (kI (kI H 9 q (H.2.1 9 q - 1)) 8 q 0) 7 q 0
def viH (H : Kp) (p : Nat) : Kp := if H.1 11 p < 3 then vi1 (vi0 H p) (H.1 11 p) else vi0 H p
def viX (x : CrS) (u : Nat) : CrS := (x.wk, x.nn, x.oc, x.op, x.om, x.od, x.vs, up x.vd u (x.vd u + 1), x.tp, x.tt, x.bk)
def viL (H : Kp) (p : Nat) : List (Nat × Nat) := if H.1 11 p < 3 then [(11, H.1 11 p), (9, 0)] else [(9, 0)]
def viK (H : Kp) (p : Nat) : List (Nat × Nat) := (12, p) :: viL H p
def bkX (x : CrS) (u : Nat) : CrS := (x.wk, x.nn, x.oc, x.op, x.om, x.od, up x.vs u 0, up x.vd u 0, x.tp, x.tt, x.bk)
section Vi
variable {N : mz_N} {b : Bool} {H : Kp} {x : CrS} {p q u tm cr : Nat}
theorem vi0_b (h : kpb H) : kpb (vi0 H p) := by
  obtain ⟨h0, h1, h2, h3, h4, h5, h6, h7, h8, h9, h10, h11, h12, h13, h14, h15, h16⟩ := h
  refine ⟨h0, h1, h2, h3, h4, h5, h6, h7, h8, fun j => ?_, h10, h11, h12, h13, h14, h15, h16⟩
  show up (H.1 8) p 0 j ≤ 1
  rw [up_d]; split; exact Nat.zero_le _; exact h9 j
theorem vi1_b (h : kpb H) : kpb (vi1 H q) := by
  obtain ⟨h0, h1, h2, h3, h4, h5, h6, h7, h8, h9, h10, h11, h12, h13, h14, h15, h16⟩ := h
  refine ⟨h0, h1, h2, h3, h4, h5, h6, h7, fun j => ?_, h9, h10, h11, h12, h13, h14, h15, h16⟩
  show up (H.1 7) q 0 j ≤ 1
  rw [up_d]; split; exact Nat.zero_le _; exact h8 j
/-- class: the ticket goes, care costs -/
theorem vi0_c (hk : c_kp N b H) (hp : p < 16) {M : mz_N} (f : fq [123, 134, 208] [] N M) (h1 : M.1 123 = upd (N.1 123) p 0) (h2 : M.1 208 = upd (N.1 208) 4 (N.1 208 4 + 500)) : c_kp M b (vi0 H p) := by
  have k12 := hk.2.2.2.2.2.2.2.2.2.2.2.2.2.1
  have k9 := hk.2.2.2.2.2.2.2.2.2.2.1
  have A0 : c_kp (mz_sI N 123 (M.1 123)) b (kS H 8 p 0) := by
    have ft : fq [123] [] N (mz_sI N 123 (M.1 123)) := fq_sI (fq_refl _ _ _) rfl
    refine ckp_12 hk ft rfl rfl (fun f n8 _ _ _ => kS_1 f n8) (fun _ _ _ => rfl) (fun _ => rfl) (fun j hj => ?_)
    obtain ⟨a1, a2⟩ := k12 j hj
    rw [ft.1 118 rfl, ft.1 119 rfl, ft.1 120 rfl, ft.1 121 rfl, ft.1 117 rfl, sI_e, h1]
    show upd _ p 0 j = nI (up (H.1 8) p 0 j) ∧ (up (H.1 8) p 0 j = 1 → _)
    rw [up_a, up_d]
    by_cases w : j = p
    · rw [if_pos w, if_pos w]; exact ⟨rfl, fun z => absurd z (by decide)⟩
    · rw [if_neg w, if_neg w]; exact ⟨a1, a2⟩
  have ft : fq [134, 208] [] (mz_sI N 123 (M.1 123)) M := by
    refine ⟨fun c hc => ?_, fun c _ => f.2 c rfl⟩
    by_cases w : c = 123
    · rw [w, sI_e]
    · rw [sI_n w]
      refine f.1 c ?_
      have n1 : c ≠ 134 := fun z => by rw [z] at hc; cases hc
      have n2 : c ≠ 208 := fun z => by rw [z] at hc; cases hc
      simp [n1, n2, w]
  refine ckp_9 A0 ft rfl rfl (fun _ => rfl) kI_1 (fun _ _ => rfl) ?_
  rw [h2, f.2 208 rfl]
  refine ⟨?_, k9.2.1, k9.2.2.1, ?_, ?_⟩
  · rw [up_a, if_neg (by decide)]; exact k9.1
  · rw [up_a, if_neg (by decide)]; exact k9.2.2.2.1
  · rw [up_a, if_pos rfl, k9.2.2.2.2]; rfl
theorem vi1_c (hk : c_kp N b H) (hq : q < 3) {M : mz_N} (f : fq [126, 127, 128] [] N M) (h1 : M.1 127 = upd (N.1 127) q (H.2.1 9 q - 1)) (h2 : M.1 126 = upd (N.1 126) q 0) (h3 : M.1 128 = upd (N.1 128) q 0) : c_kp M b (vi1 H q) := by
  have k11 := hk.2.2.2.2.2.2.2.2.2.2.2.2.1
  refine ckp_11 hk f rfl rfl kS_1 (fun f _ n8 n9 => kI2 f n9 n8) (fun _ => rfl) (fun j hj => ?_)
  obtain ⟨a1, a2, a3, a4⟩ := k11 j hj
  rw [f.1 125 rfl, h1, h2, h3]
  show _ ∧ upd _ q 0 j = up (H.2.1 8) q 0 j ∧ upd _ q _ j = up (H.2.1 9) q (H.2.1 9 q - 1) j ∧ upd _ q 0 j = nI (up (H.1 7) q 0 j)
  simp only [up_a, up_d]
  by_cases w : j = q
  · simp only [if_pos w]; exact ⟨a1, trivial, trivial, rfl⟩
  · simp only [if_neg w]; exact ⟨a1, a2, a3, a4⟩
theorem vi0_r (hk : r_kp N H) (hp : p < 16) (hcr : H.2.1 5 2 = nI cr) (hcr2 : cr < 2 ^ 30) {M : mz_N} (f : fq [287, 297] [232] N M) (h1 : M.1 287 = upd (N.1 287) p 0) (h2 : M.2 232 = vp_updL (N.2 232) 125 (N.2 232 125 + 500)) : r_kp M (vi0 H p) := by
  have k12 := hk.2.2.2.2.2.2.2.2.2.2.2.2.2.1
  have k9 := hk.2.2.2.2.2.2.2.2.2.2.1
  have A0 : r_kp (mz_sI N 287 (M.1 287)) (kS H 8 p 0) := by
    have ft : fq [287] [] N (mz_sI N 287 (M.1 287)) := fq_sI (fq_refl _ _ _) rfl
    refine rkp_12 hk ft rfl rfl (by rw [ft.1 232 rfl]) (by rw [ft.1 232 rfl]) (fun f _ => by rw [ft.2 232 rfl]) (fun f n8 _ _ _ => kS_1 f n8) (fun _ _ _ => rfl) (fun _ => rfl) (fun j hj => ?_)
    obtain ⟨a1, a2⟩ := k12 j hj
    rw [ft.1 288 rfl, ft.1 289 rfl, ft.1 290 rfl, ft.2 291 rfl, ft.2 292 rfl, sI_e, h1]
    show upd _ p 0 j = nI (up (H.1 8) p 0 j) ∧ (up (H.1 8) p 0 j = 1 → _)
    rw [up_a, up_d]
    by_cases w : j = p
    · rw [if_pos w, if_pos w]; exact ⟨rfl, fun z => absurd z (by decide)⟩
    · rw [if_neg w, if_neg w]; exact ⟨a1, a2⟩
  have ft : fq [297] [232] (mz_sI N 287 (M.1 287)) M := by
    refine ⟨fun c hc => ?_, fun c hc => f.2 c hc⟩
    by_cases w : c = 287
    · rw [w, sI_e]
    · rw [sI_n w]
      refine f.1 c ?_
      have n1 : c ≠ 297 := fun z => by rw [z] at hc; cases hc
      simp [n1, w]
  refine rkp_9 A0 ft rfl rfl (by rw [ft.1 232 rfl]) (by rw [ft.1 232 rfl]) (fun _ => rfl) kI_1 (fun _ _ => rfl) ?_
  rw [h2]
  refine ⟨?_, ?_, ?_, ?_, ?_⟩
  · rw [upL_a, if_neg (by decide)]; exact k9.1
  · rw [upL_a, if_neg (by decide)]; exact k9.2.1
  · rw [upL_a, if_neg (by decide)]; exact k9.2.2.1
  · rw [upL_a, if_neg (by decide)]; exact k9.2.2.2.1
  · show _ = (H.2.1 5 2 + 500).toInt64
    rw [upL_a, if_pos rfl, k9.2.2.2.2, hcr, nI_L (by omega), show (500 : Int32) = nI 500 from rfl, nI_add, nI_L (by omega)]
    exact lN_add _ _
theorem vi1_r (hk : r_kp N H) (hq : q < 3) {M : mz_N} (f : fq [306, 307] [305] N M) (h1 : M.1 306 = upd (N.1 306) q (H.2.1 9 q - 1)) (h2 : M.2 305 = vp_updL (N.2 305) q 0) (h3 : M.1 307 = upd (N.1 307) q 0) : r_kp M (vi1 H q) := by
  have k11 := hk.2.2.2.2.2.2.2.2.2.2.2.2.1
  refine rkp_11 hk f rfl rfl (by rw [f.1 232 rfl]) (by rw [f.1 232 rfl]) (fun _ _ => by rw [f.2 232 rfl]) kS_1 (fun f _ n8 n9 => kI2 f n9 n8) (fun _ => rfl) (fun j hj => ?_)
  obtain ⟨a1, a2, a3, a4⟩ := k11 j hj
  rw [f.1 250 rfl, h1, h2, h3]
  show _ ∧ vp_updL _ q 0 j = (up (H.2.1 8) q 0 j).toInt64 ∧ upd _ q _ j = up (H.2.1 9) q (H.2.1 9 q - 1) j ∧ upd _ q 0 j = nI (up (H.1 7) q 0 j)
  simp only [up_a, up_d, upL_a]
  by_cases w : j = q
  · simp only [if_pos w]; exact ⟨a1, rfl, trivial, rfl⟩
  · simp only [if_neg w]; exact ⟨a1, a2, a3, a4⟩
/-- the worker is back -/
theorem wL_id {a : Nat} {i : Int32} : mz_wL N a i (mz_gL N a i) = N := by
  rw [wL_s]
  refine mz_ext (fun c => rfl) (fun c => ?_)
  rw [sL_2]
  by_cases w : c = a
  · rw [if_pos w, w]
    funext j
    rw [upL_a, gL_a]
    by_cases v : j = i.toNatClampNeg
    · rw [if_pos v, v]
    · rw [if_neg v]
  · rw [if_neg w]
theorem bac_c (hc : crC N H x) (hu : u < 2) (hv : x.vs u < 2 ^ 30) (hb : x.bk u < 2 ^ 30) (ht : tm < 2 ^ 30) : cp_207_0 (nI u) (nI tm) N ∧ crC (cf_207_0 (nI u) (nI tm) N) H (if 0 < x.vs u ∧ x.bk u = tm then bkX x u else x) ∧ fr [133, 134] N (cf_207_0 (nI u) (nI tm) N) := by
  have cl : (nI u).toNatClampNeg = u := nI_clamp (by omega)
  have ib : mz_ib (nI u) 2 := ib_n hu (by omega)
  have g133 : mz_gI N 133 (nI u) = nI (x.vs u) := by rw [gI_a, cl]; exact (hc.vs u hu).1
  rw [cp_207_0, cf_207_0, g133]
  by_cases w : 0 < x.vs u
  · have w' : 0 < nI (x.vs u) := (nI_gt0 (by omega)).mpr w
    have g141 : mz_gI N 141 (nI u) = nI (x.bk u) := by rw [gI_a, cl]; exact hc.bk u hu w
    rw [if_pos w', g141]
    by_cases v : x.bk u = tm
    · rw [if_pos (by rw [v]), if_pos ⟨w, v⟩]
      refine ⟨⟨ib, fun _ => ⟨ib, fun _ => ⟨ib, ib⟩, fun _ => trivial⟩, fun z => absurd w' z⟩, ?_, ?_⟩
      · have e133 : (mz_wI (mz_wI N 133 (nI u) 0) 134 (nI u) 0).1 133 = upd (N.1 133) u 0 := by rw [show (mz_wI (mz_wI N 133 (nI u) 0) 134 (nI u) 0).1 133 = upd (N.1 133) (nI u).toNatClampNeg 0 from rfl, cl]
        have e134 : (mz_wI (mz_wI N 133 (nI u) 0) 134 (nI u) 0).1 134 = upd (N.1 134) u 0 := by rw [show (mz_wI (mz_wI N 133 (nI u) 0) 134 (nI u) 0).1 134 = upd (N.1 134) (nI u).toNatClampNeg 0 from rfl, cl]
        have ff : fq [133, 134] [] N (mz_wI (mz_wI N 133 (nI u) 0) 134 (nI u) 0) := fq_wI (fq_wI (fq_refl _ _ _) rfl) rfl
        generalize mz_wI (mz_wI N 133 (nI u) 0) 134 (nI u) 0 = M at e133 e134 ff ⊢
        obtain ⟨c1, c2, c3, c4, c5, c6, c7⟩ := hc
        refine ⟨by rw [ff.1 122 rfl]; exact c1, by rw [ff.1 115 rfl]; exact c2, by rw [ff.1 115 rfl]; exact c3, by rw [ff.1 130 rfl, ff.1 131 rfl, ff.1 132 rfl]; exact c4, fun t ht => ?_, fun t ht i hi => ?_, fun t ht h0 => ?_⟩
        · rw [e133, e134]
          show upd _ u 0 t = nI (up x.vs u 0 t) ∧ upd _ u 0 t = nI (up x.vd u 0 t)
          rw [up_a, up_a, up_d, up_d]
          by_cases z : t = u
          · rw [if_pos z, if_pos z, if_pos z, if_pos z]; exact ⟨rfl, rfl⟩
          · rw [if_neg z, if_neg z, if_neg z, if_neg z]; exact c5 t ht
        · have e1 : M.1 (136 + t) = N.1 (136 + t) := by rcases (show t = 0 ∨ t = 1 by omega) with w | w <;> rw [w] <;> exact ff.1 _ rfl
          have e2 : M.1 (139 + t) = N.1 (139 + t) := by rcases (show t = 0 ∨ t = 1 by omega) with w | w <;> rw [w] <;> exact ff.1 _ rfl
          rw [e1, e2]
          have hi' : i < up x.vs u 0 t := hi
          rw [up_d] at hi'
          by_cases z : t = u
          · rw [if_pos z] at hi'; omega
          · rw [if_neg z] at hi'; exact c6 t ht i hi'
        · have h0' : 0 < up x.vs u 0 t := h0
          rw [up_d] at h0'
          rw [ff.1 141 rfl]
          by_cases z : t = u
          · rw [if_pos z] at h0'; omega
          · rw [if_neg z] at h0'; exact c7 t ht h0'
      · exact fr_sI (fr_sI (fr_refl _ _) rfl) rfl
    · have v' : ¬ nI (x.bk u) = nI tm := fun z => v ((nI_eq (by omega) (by omega)).mp z)
      rw [if_neg v', if_neg (fun z => v z.2)]
      exact ⟨⟨ib, fun _ => ⟨ib, fun z => absurd z v', fun _ => trivial⟩, fun z => absurd w' z⟩, hc, fr_refl _ _⟩
  · have w' : ¬ 0 < nI (x.vs u) := fun z => w ((nI_gt0 (by omega)).mp z)
    rw [if_neg w', if_neg (fun z => w z.1)]
    exact ⟨⟨ib, fun z => absurd z w', fun _ => trivial⟩, hc, fr_refl _ _⟩
theorem bac_r (hc : crR N H x) (hu : u < 2) (h0 : 0 < x.vs u) (hb : x.bk u < 2 ^ 30) (htm : N.2 232 2 = lN tm) (ht : tm < 2 ^ 30) : cp_510_168 (nI u) N ∧ ∃ M, cf_510_168 (nI u) N = (true, M) ∧ crR M H (if 0 < x.vs u ∧ x.bk u = tm then bkX x u else x) ∧ fq [] [298] N M := by
  have cl : (nI u).toNatClampNeg = u := nI_clamp (by omega)
  have ib : mz_ib (nI u) 2 := ib_n hu (by omega)
  have g298 : mz_gL N 298 (nI u) = lN (x.bk u) := by rw [gL_a, cl]; exact (hc.vs u hu h0).2.2
  rw [cp_510_168, cf_510_168, g298, htm]
  by_cases v : x.bk u = tm
  · rw [if_pos (by rw [v]), if_pos ⟨h0, v⟩, cf_510_199, cp_510_199]
    have ff : fq [] [298] N (mz_wL N 298 (nI u) (-1)) := fq_wL (fq_refl _ _ _) rfl
    refine ⟨⟨ib, fun _ => ib, fun z => absurd (by rw [v]) z⟩, _, rfl, ?_, ff⟩
    have e298 : (mz_wL N 298 (nI u) (-1)).2 298 = vp_updL (N.2 298) u (-1) := by rw [wL_s, sL_e, cl]
    generalize mz_wL N 298 (nI u) (-1) = M at ff e298 ⊢
    obtain ⟨c1, c2, c3, c4, c5, c6, c7⟩ := hc
    refine ⟨by rw [ff.1 293 rfl]; exact c1, by rw [ff.2 232 rfl]; exact c2, by rw [ff.1 232 rfl]; exact c3, by rw [ff.1 302 rfl, ff.1 303 rfl, ff.2 304 rfl]; exact c4, fun t ht hz => ?_, fun t ht hz => ?_, fun t ht i hi => ?_⟩
    · have hz' : up x.vs u 0 t = 0 := hz
      rw [e298, upL_a]
      rw [up_d] at hz'
      by_cases z : t = u
      · rw [if_pos z]
      · rw [if_neg z] at hz' ⊢; exact c5 t ht hz'
    · have hz' : 0 < up x.vs u 0 t := hz
      rw [up_d] at hz'
      by_cases z : t = u
      · rw [if_pos z] at hz'; omega
      · rw [if_neg z] at hz'
        rw [ff.1 296 rfl, ff.1 297 rfl, e298, upL_a, if_neg z]
        show _ = nI (up x.vs u 0 t) ∧ _ = nI (up x.vd u 0 t) ∧ _
        rw [up_d, up_d, if_neg z, if_neg z]
        exact c6 t ht hz'
    · have hi' : i < up x.vs u 0 t := hi
      rw [up_d] at hi'
      rw [ff.1 294 rfl, ff.2 295 rfl]
      by_cases z : t = u
      · rw [if_pos z] at hi'; omega
      · rw [if_neg z] at hi'; exact c7 t ht i hi'
  · have v' : ¬ lN (x.bk u) = lN tm := fun z => v ((lN_e (by omega) (by omega)).mp z)
    rw [if_neg v', if_neg (fun z => v z.2), cf_510_199, cp_510_199, ← g298, wL_id]
    rw [← g298] at v'
    exact ⟨⟨ib, fun z => absurd z v', fun _ => ⟨ib, ib⟩⟩, _, rfl, hc, fq_refl _ _ _⟩
end Vi
