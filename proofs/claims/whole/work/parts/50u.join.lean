/-! PURE (50u): keys join a group. -/
section Joi
variable {N : mz_N} {gk : Nat → Nat} {gc kd ix : Nat}
/-- the group so far -/
def gr_c (N : mz_N) (gk : Nat → Nat) (gc : Nat) : Prop := N.1 219 11 = nI gc ∧ ∀ i, i < gc → N.1 226 i = nI (gk i) ∧ gk i < 135
def gr_r (N : mz_N) (gk : Nat → Nat) (gc : Nat) : Prop := N.1 232 139 = nI gc ∧ ∀ i, i < gc → N.1 333 i = nI (gk i) ∧ gk i < 135
theorem start_c : gr_c (cf_117_0 N) gk 0 := ⟨rfl, fun i hi => absurd hi (Nat.not_lt_zero _)⟩
theorem start_r : gr_r (cf_471_0 N) gk 0 := ⟨rfl, fun i hi => absurd hi (Nat.not_lt_zero _)⟩
theorem join_c (hkd : kd < 2 ^ 30) (hix : ix < 2 ^ 30) (hk : kyo kd ix < 135) (hg : gr_c N gk gc) (hgc : gc < 16) : cp_119_0 (nI kd) (nI ix) N ∧ gr_c (cf_119_0 (nI kd) (nI ix) N) (up gk gc (kyo kd ix)) (gc + 1) ∧ fr [219, 226] N (cf_119_0 (nI kd) (nI ix) N) ∧ (cf_119_0 (nI kd) (nI ix) N).1 219 = upd (N.1 219) 11 (nI (gc + 1)) := by
  obtain ⟨h1, h2⟩ := hg
  obtain ⟨p1, p2⟩ := kyo_c (kd := kd) (ix := ix) (by omega) (by omega)
  rw [nO_lt hk] at p2
  have hne : ¬ nI (kyo kd ix) = -1 := by rw [nI_m1 (by omega)]; exact fun w => w
  have hlt : nI gc < 16 := (nI_ltI (b := 16) (by omega) (by omega)).mpr hgc
  have e : cf_119_0 (nI kd) (nI ix) N = mz_pI (mz_wI N 226 (nI gc) (nI (kyo kd ix))) 219 11 (nI (gc + 1)) := by
    rw [cf_119_0, p2, if_neg hne, h1, if_pos hlt, cf_119_52, show (mz_wI N 226 (nI gc) (nI (kyo kd ix))).1 219 11 = nI gc from h1, nI_1]
  refine ⟨⟨p1, fun _ => trivial, fun _ => ⟨fun _ => ⟨by rw [h1]; exact ib_n hgc (by omega), trivial⟩, fun _ => trivial⟩⟩, ?_⟩
  rw [e]
  refine ⟨⟨rfl, fun i hi => ?_⟩, fr_pI (fr_wI (fr_refl _ _) rfl) rfl, rfl⟩
  show (mz_wI N 226 (nI gc) (nI (kyo kd ix))).1 226 i = nI (up gk gc (kyo kd ix) i) ∧ up gk gc (kyo kd ix) i < 135
  rw [wI_at (by omega), up_d]
  by_cases w : i = gc
  · rw [if_pos w, if_pos w]; exact ⟨rfl, hk⟩
  · rw [if_neg w, if_neg w]; exact h2 i (by omega)
theorem join_r (hkd : kd < 2 ^ 30) (hix : ix < 2 ^ 30) (hk : kyo kd ix < 135) (hg : gr_r N gk gc) (hgc : gc < 160) : cp_472_0 (nI kd) (nI ix) N ∧ gr_r (cf_472_0 (nI kd) (nI ix) N) (up gk gc (kyo kd ix)) (gc + 1) ∧ fr [232, 333] N (cf_472_0 (nI kd) (nI ix) N) ∧ (cf_472_0 (nI kd) (nI ix) N).1 232 = upd (N.1 232) 139 (nI (gc + 1)) := by
  obtain ⟨h1, h2⟩ := hg
  obtain ⟨p1, p2⟩ := kyo_r (kd := kd) (ix := ix) (by omega) (by omega)
  rw [nO_lt hk] at p2
  have e : cf_472_0 (nI kd) (nI ix) N = mz_pI (mz_wI N 333 (nI gc) (nI (kyo kd ix))) 232 139 (nI (gc + 1)) := by
    rw [cf_472_0, p2, h1, cf_472_24, show (mz_wI N 333 (nI gc) (nI (kyo kd ix))).1 232 139 = nI gc from h1, nI_1]
  refine ⟨⟨by rw [h1]; exact ib_n hgc (by omega), trivial⟩, ?_⟩
  rw [e]
  refine ⟨⟨rfl, fun i hi => ?_⟩, fr_pI (fr_wI (fr_refl _ _) rfl) rfl, rfl⟩
  show (mz_wI N 333 (nI gc) (nI (kyo kd ix))).1 333 i = nI (up gk gc (kyo kd ix) i) ∧ up gk gc (kyo kd ix) i < 135
  rw [wI_at (by omega), up_d]
  by_cases w : i = gc
  · rw [if_pos w, if_pos w]; exact ⟨rfl, hk⟩
  · rw [if_neg w, if_neg w]; exact h2 i (by omega)
/-- the store with nothing in it tells the first things -/
theorem kpb_H0 : kpb H0 := by
  have h0 : ∀ j, H0.1 0 j < 4 := fun j => by
    show fe0 j < 4
    unfold fe0; split <;> omega
  refine ⟨h0, fun j => ?_, fun j => ?_, fun j => ?_, ?_, fun j => ?_, fun j _ => rfl, fun j => ?_, fun j => ?_, fun j => ?_, fun j => ⟨?_, ?_, ?_⟩, fun j => ?_, fun j => ⟨?_, ?_⟩, fun j => ?_, fun j => ⟨?_, ?_, ?_⟩, fun j => ?_, fun j => ⟨?_, ?_⟩⟩
  · show (15 : Nat) < 16; omega
  all_goals first | exact Nat.zero_le _ | exact (show (0 : Nat) < 256 by omega) | exact (show (0 : Nat) < 128 by omega)
theorem st_D0 {kb : Nat → Nat → Nat} : st_D (fun _ => false) kb H0 := by
  refine ⟨kpb_H0, rfl, fun k hk => ⟨(fun q => by cases q), fun _ => ?_⟩⟩
  obtain ⟨a1, a2, -⟩ := kdk_ok k hk
  exact kag_refl a1 a2
end Joi
