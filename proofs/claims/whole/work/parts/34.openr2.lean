/-! PURE (34): the reference opens its store again. -/
section Opr2
variable {N : mz_N} {d : Nat → Nat → Nat} {a gn us : Nat} {kt : Nat → Bool} {kb : Nat → Nat → Nat}
/-- keys and bytes as the reference finds them -/
def r_kf (kt : Nat → Bool) (kb : Nat → Nat → Nat) (h f : Nat → Int32) : Prop := (∀ k, k < 135 → kt k = true → ∀ j, j < 28 → f (28 * k + j) = by8 (kb k j)) ∧ ∀ k, k < 135 → h k = nI (b1 (kt k))
/-- the store before beginning anew -/
def r_mo (K : mz_N) (h f : Nat → Int32) (us : Nat) : mz_N := mz_pI (mz_sI (mz_sI K 330 h) 331 f) 232 135 (nI us)
theorem r_take {K : mz_N} (hI : DI d a gn us kt kb) (hd : r_dk d K) (hd2 : ∀ a j, d a j < 256) (h133 : K.1 232 133 = nI a) (ht0 : ∀ k, k < 135 → K.1 330 k = 0) (H : ∀ h f, r_kf kt kb h f → cp_414_0 (r_mo K h f us)) :
    cp_592_174 (nI (us - 1)) 1 K ∧ ∃ h f, cf_592_174 (nI (us - 1)) 1 K = (nI (us - 1), cf_414_0 (r_mo K h f us)) ∧ r_kf kt kb h f := by
  obtain ⟨ha, i2, i3, -, i5, i6, i7, i8, i9, i10, i11, i12, i13, i14, i15⟩ := hI
  refine mz_lpn (f := cq_592_174 (nI (us - 1))) (P := cd_592_174 (nI (us - 1))) (Q := fun t => ∃ h f, t = (nI (us - 1), cf_414_0 (r_mo K h f us)) ∧ r_kf kt kb h f) us (fun r s => 1 ≤ r ∧ ∃ f h, s = (nI r, mz_sI (mz_sI K 330 h) 331 f) ∧ r_kf (fkt d a (r - 1)) (fkb d a (r - 1)) h f) ?_ ?_ (show 1 ≤ us from i2) ⟨Nat.le_refl _, K.1 331, K.1 330, ?_, ?_, ?_⟩
  · rintro r s hr ⟨h1, f, h, rfl, hf, hh⟩
    have hkr := i7 r h1 hr
    have hky : rky d a r < 135 := hkr.2.2
    have hlt : ¬ nI (us - 1) < nI r := fun w => by have := (nI_ltI (by omega) (by omega)).mp w; omega
    have e4 : (mz_sI (mz_sI K 330 h) 331 f).1 232 133 = nI a := by rw [sI_n (by decide), sI_n (by decide)]; exact h133
    obtain ⟨p1, f2, q1, q2⟩ := r_take1 (K := mz_sI (mz_sI K 330 h) 331 f) (r := r) (fun a' ha' j hj => by rw [sI_n (by decide), sI_n (by decide)]; exact hd a' ha' j hj) hd2 ha (by omega) hky
    have hfkb : fkb d a r = up (fkb d a (r - 1)) (rky d a r) (fun i => d a (48 * r + 12 + i)) := by
      have e : fkb d a (r - 1 + 1) = up (fkb d a (r - 1)) (rky d a (r - 1 + 1)) (fun i => d a (48 * (r - 1 + 1) + 12 + i)) := rfl
      rw [show r - 1 + 1 = r by omega] at e; exact e
    have hfkt : fkt d a r = up (fkt d a (r - 1)) (rky d a r) true := by
      have e : fkt d a (r - 1 + 1) = up (fkt d a (r - 1)) (rky d a (r - 1 + 1)) true := rfl
      rw [show r - 1 + 1 = r by omega] at e; exact e
    rw [cd_592_174, cq_592_174]
    simp only [hlt, if_false, e4, nI_1]
    refine ⟨⟨False.elim, fun _ => p1⟩, Or.inl ⟨_, rfl, by omega, f2, upd h (rky d a r) 1, ?_, ?_, ?_⟩⟩
    · rw [q1, sI_n (by decide), sI_e, sI_comm (a := 331) (b := 330) (by decide), sI_sI, sI_sI]
    · intro k hk hkt j hj
      rw [Nat.add_sub_cancel, hfkt, up_d] at hkt
      rw [q2, Nat.add_sub_cancel, hfkb, up_d, sI_e]
      by_cases w : k = rky d a r
      · rw [if_pos (by omega), if_pos w, show 28 * k + j - 28 * rky d a r = j by omega]
      · rw [if_neg w] at hkt
        rw [if_neg (by omega), if_neg w]; exact hf k hk hkt j hj
    · intro k hk
      rw [up_a, Nat.add_sub_cancel, hfkt, up_d]
      by_cases w : k = rky d a r
      · rw [if_pos w, if_pos w]; rfl
      · rw [if_neg w, if_neg w]; exact hh k hk
  · rintro s ⟨h1, f, h, rfl, hf, hh⟩
    have hlt : nI (us - 1) < nI us := (nI_ltI (by omega) (by omega)).mpr (by omega)
    have e6 : nI (us - 1) + 1 = nI us := by rw [nI_1]; congr 1; omega
    have hkf : r_kf kt kb h f := ⟨fun k hk hkt j hj => by rw [hf k hk (by rw [← i10 k hk]; exact hkt) j hj, i11 k hk j hj], fun k hk => by rw [hh k hk, ← i10 k hk]⟩
    have Hc := H h f hkf
    unfold r_mo at Hc ⊢
    rw [cd_592_174, cq_592_174, if_pos hlt, e6]
    exact ⟨⟨fun _ => Hc, fun w => absurd hlt w⟩, _, rfl, h, f, rfl, hkf⟩
  · rw [sI_same, sI_same]; rfl
  · intro k hk hkt; cases hkt
  · intro k hk; exact ht0 k hk
theorem r_clear {K : mz_N} (hI : DI d a gn us kt kb) (hd : r_dk d K) (hd2 : ∀ a j, d a j < 256) (h133 : K.1 232 133 = nI a) (H : ∀ h f, r_kf kt kb h f → cp_414_0 (r_mo K h f us)) :
    cp_592_152 (nI (us - 1)) 0 K ∧ ∃ h f, cf_592_152 (nI (us - 1)) 0 K = (nI (us - 1), cf_414_0 (r_mo K h f us)) ∧ r_kf kt kb h f := by
  refine mz_lpn (f := cq_592_152 (nI (us - 1))) (P := cd_592_152 (nI (us - 1))) (Q := fun t => ∃ h f, t = (nI (us - 1), cf_414_0 (r_mo K h f us)) ∧ r_kf kt kb h f) 135 (fun r s => ∃ h, s = (nI r, mz_sI K 330 h) ∧ ∀ k, k < r → h k = 0) ?_ ?_ (Nat.zero_le _) ⟨K.1 330, ?_, ?_⟩
  · rintro r s hr ⟨h, rfl, hh⟩
    have hlt : nI r < 135 := (nI_ltI (b := 135) (by omega) (by omega)).mpr hr
    rw [cd_592_152, cq_592_152]
    simp only [hlt, if_true, nI_1]
    refine ⟨⟨fun _ => ib_n hr (by omega), fun w => absurd trivial w⟩, Or.inl ⟨_, rfl, upd h r 0, ?_, ?_⟩⟩
    · rw [wI_s, sI_e, sI_sI, nI_clamp (by omega)]; rfl
    · intro k hk
      rw [up_a]
      by_cases w : k = r
      · rw [if_pos w]
      · rw [if_neg w]; exact hh k (by omega)
  · rintro s ⟨h, rfl, hh⟩
    have hlt : ¬ nI 135 < 135 := by decide
    have eM : ∀ h2 f, r_mo (mz_sI K 330 h) h2 f us = r_mo K h2 f us := fun h2 f => by unfold r_mo; rw [sI_sI]
    obtain ⟨p, h2, f2, q, r⟩ := r_take (K := mz_sI K 330 h) hI (fun a' ha' j hj => by rw [sI_n (by decide)]; exact hd a' ha' j hj) hd2 (by rw [sI_n (by decide)]; exact h133) (fun k hk => by rw [sI_e]; exact hh k hk) (fun h3 f3 w => by rw [eM]; exact H h3 f3 w)
    rw [eM] at q
    rw [cd_592_152, cq_592_152]
    simp only [hlt, if_false]
    exact ⟨⟨False.elim, fun _ => p⟩, _, rfl, h2, f2, q, r⟩
  · rw [sI_same]; rfl
  · intro k hk; omega
theorem r_count {K : mz_N} (hI : DI d a gn us kt kb) (hd : r_dk d K) (hd2 : ∀ a j, d a j < 256) (hgn : gn < 2 ^ 31) (h133 : K.1 232 133 = nI a) (h134 : K.2 232 134 = lN gn) (H : ∀ h f, r_kf kt kb h f → cp_414_0 (r_mo K h f us)) :
    cp_592_87 (nI (cnn d a)) K ∧ ∃ h f, cf_592_87 (nI (cnn d a)) K = (nI (us - 1), cf_414_0 (r_mo K h f us)) ∧ r_kf kt kb h f := by
  have hcl := r_clear hI hd hd2 h133 H
  obtain ⟨ha, i2, i3, ⟨-, -, -, -, g5, -, -⟩, i5, i6, i7, i8, i9, i10, i11, i12, i13, i14, i15⟩ := hI
  generalize cnn d a = c at *
  rw [cp_592_87, cf_592_87, nI_1]
  refine mz_lpn (f := cq_592_91 K) (P := cd_592_91 K) (Q := fun t => ∃ h f, t = (nI (us - 1), cf_414_0 (r_mo K h f us)) ∧ r_kf kt kb h f) 200 (fun r s => ∃ t, s = (nI t, nI r) ∧ t ≤ us - 1 ∧ c + 1 ≤ r ∧ (us ≤ r → t = us - 1)) ?_ ?_ (show c + 1 ≤ 200 by omega) ⟨c, rfl, by omega, by omega, fun w => by omega⟩
  · rintro r s hr ⟨t, rfl, ht, h1, h2⟩
    obtain ⟨p1, q1⟩ := wh_r (n := r) (g := gn) hd hd2 ha hr (by omega)
    obtain ⟨p2, q2⟩ := ls_r (n := r) hd hd2 ha hr
    obtain ⟨p3, q3⟩ := ky_r (n := r) hd hd2 ha hr
    have kk := kr_r (n := r) (g := gn) hd hd2 ha hr (by omega)
    have hlt : nI r < 200 := (nI_ltI (b := 200) (by omega) (by omega)).mpr hr
    have hend : ¬ krw d a r gn → t = us - 1 := by
      intro wk
      rcases Nat.lt_or_ge r us with y | y
      · exact absurd (i7 r (by omega) y) wk
      · exact h2 y
    have hno : ∀ hw : ¬ krw d a r gn, cp_592_150 (nI t) K := fun hw => by rw [hend hw]; exact hcl.1
    rw [cd_592_91, cq_592_91, h133, h134]
    simp only [hlt, if_true, cp_592_143, cf_592_143, nI_1]
    refine ⟨⟨fun _ => ⟨p1, fun y1 => ⟨p3, fun y2 => hno (fun w => (kk.mpr w).2 y2), fun _ => ⟨p2, fun _ => trivial, fun _ => trivial⟩⟩, fun y1 => hno (fun w => y1 (kk.mpr w).1)⟩, fun w => absurd trivial w⟩, ?_⟩
    by_cases wk : krw d a r gn
    · obtain ⟨y1, y2⟩ := kk.mpr wk
      rw [if_pos y1, if_neg y2]
      by_cases wl : lsr d a r
      · rw [if_pos (q2.mpr wl)]
        have hru : r < us := by
          rcases Nat.lt_or_ge r us with y | y
          · exact y
          · exact absurd wl (i9 r y hr wk)
        exact Or.inl ⟨_, rfl, r, rfl, by omega, by omega, fun w => by omega⟩
      · rw [if_neg (fun q => wl (q2.mp q))]
        refine Or.inl ⟨_, rfl, t, rfl, ht, by omega, fun w => ?_⟩
        rcases Nat.lt_or_ge r us with y | y
        · have : r = us - 1 := by omega
          rcases i8 with z | z
          · omega
          · rw [this] at wl; exact absurd z wl
        · exact h2 y
    · have hr2 : ∃ h f, cf_592_150 (nI t) K = (nI (us - 1), cf_414_0 (r_mo K h f us)) ∧ r_kf kt kb h f := by rw [hend wk]; exact hcl.2
      by_cases y1 : cf_595_0 (nI a) (nI r) (lN gn) K = true
      · rw [if_pos y1, if_pos (Classical.byContradiction fun y2 => wk (kk.mp ⟨y1, y2⟩))]
        exact Or.inr ⟨_, rfl, hr2⟩
      · rw [if_neg y1]
        exact Or.inr ⟨_, rfl, hr2⟩
  · rintro s ⟨t, rfl, ht, h1, h2⟩
    have hlt : ¬ nI 200 < 200 := by decide
    rw [cd_592_91, cq_592_91]
    simp only [hlt, if_false]
    rw [h2 i3]
    exact ⟨⟨False.elim, fun _ => hcl.1⟩, _, rfl, hcl.2⟩
end Opr2
