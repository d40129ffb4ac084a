/-! PURE (50zzzzzj): calls that only ask, up or down (made by wip/gen/asks2.py). -/
section A5
variable {N N1 N2 : mz_N} {b : Bool} {B q : Nat} {v v1 v2 v3 : Int32}
theorem edge_al (h : Sm q B N1 b N2) : cp_148_0 v1 v2 N1 ∧ cp_481_0 v1 v2 N2 ∧ caq q B b N1 N2 (cf_148_0 v1 v2 N1) (cf_481_0 v1 v2 N2) := by
  rcases h with h | h
  · obtain ⟨p, C, s, D, H, x, L, R, h1, h2, h3, h4, h5, h6⟩ := id h
    obtain ⟨a1, a2, a3⟩ := edge_ok h3
    exact ⟨a1, a2, caq_q (Or.inl h) a3⟩
  · obtain ⟨w1, w2⟩ := Sm_d h
    obtain ⟨u1, u2⟩ := c104_d w1
    obtain ⟨F1, F2⟩ := F_d w2
    exact ⟨by simp [cp_148_0, u1, u2], by simp [cp_481_0, F1, F2], caq_q (Or.inr h) (qok_d (by simp [cf_148_0, u2]; rfl) (by simp [cf_481_0, F2]; rfl))⟩
theorem spaceAt_al (h : Sm q B N1 b N2) : cp_162_0 v1 v2 N1 ∧ cp_490_0 v1 v2 N2 ∧ caq q B b N1 N2 (cf_162_0 v1 v2 N1) (cf_490_0 v1 v2 N2) := by
  rcases h with h | h
  · obtain ⟨p, C, s, D, H, x, L, R, h1, h2, h3, h4, h5, h6⟩ := id h
    obtain ⟨a1, a2, a3⟩ := spaceAt_ok h3
    exact ⟨a1, a2, caq_q (Or.inl h) a3⟩
  · obtain ⟨w1, w2⟩ := Sm_d h
    obtain ⟨u1, u2⟩ := c104_d w1
    obtain ⟨F1, F2⟩ := F_d w2
    exact ⟨by simp [cp_162_0, u1, u2], by simp [cp_490_0, F1, F2], caq_q (Or.inr h) (qok_d (by simp [cf_162_0, u2]; rfl) (by simp [cf_490_0, F2]; rfl))⟩
theorem draft_al (h : Sm q B N1 b N2) : cp_150_0 v1 v2 v3 N1 ∧ cp_482_0 v1 v2 v3 N2 ∧ caq q B b N1 N2 (cf_150_0 v1 v2 v3 N1) (cf_482_0 v1 v2 v3 N2) := by
  rcases h with h | h
  · obtain ⟨p, C, s, D, H, x, L, R, h1, h2, h3, h4, h5, h6⟩ := id h
    obtain ⟨a1, a2, a3⟩ := draft_ok h3 h4
    exact ⟨a1, a2, caq_q (Or.inl h) a3⟩
  · obtain ⟨w1, w2⟩ := Sm_d h
    obtain ⟨u1, u2⟩ := c104_d w1
    obtain ⟨F1, F2⟩ := F_d w2
    exact ⟨by simp [cp_150_0, u1, u2], by simp [cp_482_0, cp_482_21, cp_482_20, F1, F2], caq_q (Or.inr h) (qok_d (by simp [cf_150_0, u2]; rfl) (by simp [cf_482_0, cf_482_21, cf_482_20, F2]; rfl))⟩
theorem fault_al (h : Sm q B N1 b N2) : cp_194_0 v1 N1 ∧ cp_504_0 v1 N2 ∧ caq q B b N1 N2 (cf_194_0 v1 N1) (cf_504_0 v1 N2) := by
  rcases h with h | h
  · obtain ⟨p, C, s, D, H, x, L, R, h1, h2, h3, h4, h5, h6⟩ := id h
    obtain ⟨a1, a2, a3⟩ := fault_ok h3 h4
    exact ⟨a1, a2, caq_q (Or.inl h) a3⟩
  · obtain ⟨w1, w2⟩ := Sm_d h
    obtain ⟨u1, u2⟩ := c104_d w1
    obtain ⟨F1, F2⟩ := F_d w2
    exact ⟨by simp [cp_194_0, u1, u2], by simp [cp_504_0, F1, F2], caq_q (Or.inr h) (qok_d (by simp [cf_194_0, u2]; rfl) (by simp [cf_504_0, F2]; rfl))⟩
theorem disk_al (h : Sm q B N1 b N2) : cp_368_0 v1 v2 v3 N1 ∧ cp_600_0 v1 v2 v3 N2 ∧ caq q B b N1 N2 (cf_368_0 v1 v2 v3 N1) (cf_600_0 v1 v2 v3 N2) := by
  rcases h with h | h
  · obtain ⟨p, C, s, D, H, x, L, R, h1, h2, h3, h4, h5, h6⟩ := id h
    obtain ⟨a1, a2, a3⟩ := disk_ok h3
    exact ⟨a1, a2, caq_q (Or.inl h) a3⟩
  · obtain ⟨w1, w2⟩ := Sm_d h
    obtain ⟨u1, u2⟩ := c104_d w1
    obtain ⟨F1, F2⟩ := F_d w2
    exact ⟨by simp [cp_368_0, u1, u2], by simp [cp_600_0, cp_600_40, cp_600_39, F1, F2], caq_q (Or.inr h) (qok_d (by simp [cf_368_0, u2]; rfl) (by simp [cf_600_0, cf_600_40, cf_600_39, F2]; rfl))⟩
theorem tape_al (h : Sm q B N1 b N2) : cp_373_0 v1 N1 ∧ cp_602_0 v1 N2 ∧ caq q B b N1 N2 (cf_373_0 v1 N1) (cf_602_0 v1 N2) := by
  rcases h with h | h
  · obtain ⟨p, C, s, D, H, x, L, R, h1, h2, h3, h4, h5, h6⟩ := id h
    obtain ⟨a1, a2, a3⟩ := tape_ok h3 h4
    exact ⟨a1, a2, caq_q (Or.inl h) a3⟩
  · obtain ⟨w1, w2⟩ := Sm_d h
    obtain ⟨u1, u2⟩ := c104_d w1
    obtain ⟨F1, F2⟩ := F_d w2
    exact ⟨by simp [cp_373_0, u1, u2], by simp [cp_602_0, cp_602_18, cp_602_17, F1, F2], caq_q (Or.inr h) (qok_d (by simp [cf_373_0, u2]; rfl) (by simp [cf_602_0, cf_602_18, cf_602_17, F2]; rfl))⟩
theorem detected_al (h : Sm q B N1 b N2) : cp_293_0 v1 N1 ∧ cp_555_0 v1 N2 ∧ caq q B b N1 N2 (cf_293_0 v1 N1) (cf_555_0 v1 N2) := by
  rcases h with h | h
  · obtain ⟨p, C, s, D, H, x, L, R, h1, h2, h3, h4, h5, h6⟩ := id h
    obtain ⟨a1, a2, a3⟩ := detected_ok h3
    exact ⟨a1, a2, caq_q (Or.inl h) a3⟩
  · obtain ⟨w1, w2⟩ := Sm_d h
    obtain ⟨u1, u2⟩ := c104_d w1
    obtain ⟨F1, F2⟩ := F_d w2
    exact ⟨by simp [cp_293_0, u1, u2], by simp [cp_555_0, cp_555_21, cp_555_33, F1, F2], caq_q (Or.inr h) (qok_d (by simp [cf_293_0, u2]; rfl) (by simp [cf_555_0, cf_555_21, cf_555_33, F2]; rfl))⟩
theorem space_al (h : Sm q B N1 b N2) : cp_156_0 v1 v2 N1 ∧ cp_486_0 v1 v2 N2 ∧ caq q B b N1 N2 (cf_156_0 v1 v2 N1) (cf_486_0 v1 v2 N2) := by
  rcases h with h | h
  · obtain ⟨p, C, s, D, H, x, L, R, h1, h2, h3, h4, h5, h6⟩ := id h
    obtain ⟨a1, a2, a3⟩ := space_ok h3
    exact ⟨a1, a2, caq_q (Or.inl h) a3⟩
  · obtain ⟨w1, w2⟩ := Sm_d h
    obtain ⟨u1, u2⟩ := c104_d w1
    obtain ⟨F1, F2⟩ := F_d w2
    exact ⟨by simp [cp_156_0, u1, u2], by simp [cp_486_0, cp_486_34, cp_486_33, F1, F2], caq_q (Or.inr h) (qok_d (by simp [cf_156_0, u2]; rfl) (by simp [cf_486_0, cf_486_34, cf_486_33, F2]; rfl))⟩
theorem rows_al (h : Sm q B N1 b N2) : cp_366_0 v1 N1 ∧ cp_599_0 v1 N2 ∧ caq q B b N1 N2 (cf_366_0 v1 N1) (cf_599_0 v1 N2) := by
  rcases h with h | h
  · obtain ⟨p, C, s, D, H, x, L, R, h1, h2, h3, h4, h5, h6⟩ := id h
    obtain ⟨a1, a2, a3⟩ := rows_ok h3
    exact ⟨a1, a2, caq_q (Or.inl h) a3⟩
  · obtain ⟨w1, w2⟩ := Sm_d h
    obtain ⟨u1, u2⟩ := c104_d w1
    obtain ⟨F1, F2⟩ := F_d w2
    exact ⟨by simp [cp_366_0, u1, u2], by simp [cp_599_0, F1, F2], caq_q (Or.inr h) (qok_d (by simp [cf_366_0, u2]; rfl) (by simp [cf_599_0, F2]; rfl))⟩
theorem log_al (hq : q < 2 ^ 20) (h : Sm q B N1 b N2) : cp_321_0 v1 v2 N1 ∧ cp_585_0 v1 v2 N2 ∧ caq q B b N1 N2 (cf_321_0 v1 v2 N1) (cf_585_0 v1 v2 N2) := by
  rcases h with h | h
  · obtain ⟨p, C, s, D, H, x, L, R, h1, h2, h3, h4, h5, h6⟩ := id h
    obtain ⟨a1, a2, a3⟩ := log_ok h3 h4 (by omega)
    exact ⟨a1, a2, caq_q (Or.inl h) a3⟩
  · obtain ⟨w1, w2⟩ := Sm_d h
    obtain ⟨u1, u2⟩ := c104_d w1
    obtain ⟨F1, F2⟩ := F_d w2
    exact ⟨by simp [cp_321_0, u1, u2], by simp [cp_585_0, cp_585_31, cp_585_30, F1, F2], caq_q (Or.inr h) (qok_d (by simp [cf_321_0, u2]; rfl) (by simp [cf_585_0, cf_585_31, cf_585_30, F2]; rfl))⟩
theorem alarm_al (hq : q < 2 ^ 20) (h : Sm q B N1 b N2) : cp_297_0 v1 v2 N1 ∧ cp_546_0 v1 v2 N2 ∧ caq q B b N1 N2 (cf_297_0 v1 v2 N1) (cf_546_0 v1 v2 N2) := by
  rcases h with h | h
  · obtain ⟨p, C, s, D, H, x, L, R, h1, h2, h3, h4, h5, h6⟩ := id h
    obtain ⟨a1, a2, a3⟩ := alarm_qok h3 (by omega)
    exact ⟨a1, a2, caq_q (Or.inl h) a3⟩
  · obtain ⟨w1, w2⟩ := Sm_d h
    obtain ⟨u1, u2⟩ := c104_d w1
    obtain ⟨F1, F2⟩ := F_d w2
    exact ⟨by simp [cp_297_0, u1, u2], by simp [cp_546_0, cp_546_29, cp_546_28, F1, F2], caq_q (Or.inr h) (qok_d (by simp [cf_297_0, u2]; rfl) (by simp [cf_546_0, cf_546_29, cf_546_28, F2]; rfl))⟩
theorem version_al (h : Sm q B N1 b N2) : cp_152_0 N1 ∧ cp_483_0 N2 ∧ caq1 q B b N1 N2 (cf_152_0 N1) (cf_483_0 N2) := by
  rcases h with h | h
  · obtain ⟨p, C, s, D, H, x, L, R, h1, h2, h3, h4, h5, h6⟩ := id h
    obtain ⟨a1, a2, a3⟩ := version_ok h3 h4
    obtain ⟨u1, u2⟩ := c104_u (MR_u1 h3)
    exact ⟨a1, a2, caq1_u (Or.inl h) (by simp [cf_152_0, u2]) a3⟩
  · obtain ⟨w1, w2⟩ := Sm_d h
    obtain ⟨u1, u2⟩ := c104_d w1
    obtain ⟨F1, F2⟩ := f484_d w2
    exact ⟨by simp [cp_152_0, u1, u2], by simp [cp_483_0, F1, F2], caq1_d (Or.inr h) (by simp [cf_152_0, u2]; rfl) (by simp [cf_483_0, F2]; rfl)⟩
theorem tickets_al (h : Sm q B N1 b N2) : cp_330_0 N1 ∧ cp_561_0 N2 ∧ caq1 q B b N1 N2 (cf_330_0 N1) (cf_561_0 N2) := by
  rcases h with h | h
  · obtain ⟨p, C, s, D, H, x, L, R, h1, h2, h3, h4, h5, h6⟩ := id h
    obtain ⟨a1, a2, a3⟩ := tickets_ok h3
    obtain ⟨u1, u2⟩ := c104_u (MR_u1 h3)
    exact ⟨a1, a2, caq1_u (Or.inl h) (by simp [cf_330_0, u2]) a3⟩
  · obtain ⟨w1, w2⟩ := Sm_d h
    obtain ⟨u1, u2⟩ := c104_d w1
    obtain ⟨F1, F2⟩ := f484_d w2
    exact ⟨by simp [cp_330_0, u1, u2], by simp [cp_561_0, F1, F2], caq1_d (Or.inr h) (by simp [cf_330_0, u2]; rfl) (by simp [cf_561_0, F2]; rfl)⟩
theorem ib_466 {hi : Nat} (hh : hi < 2 ^ 31) {g : Int64} (hg : g = (nI hi).toInt64) (h : cf_466_0 v.toInt64 0 g = true) : ∃ k, k ≤ hi ∧ v = nI k := by
  obtain ⟨p, c⟩ := in_r hi hh v (w := nI hi) (g := g) rfl hg
  rcases c with ⟨k, h1, h2, _, _⟩ | ⟨_, c⟩
  · exact ⟨k, h1, h2⟩
  · rw [c] at h; cases h
theorem card_d (h : dz N) : cp_579_0 v N := by
  rw [cp_579_0]
  refine ⟨fun _ => trivial, fun a => ⟨fun c => ?_, fun _ => trivial⟩⟩
  obtain ⟨e1, e2⟩ := v_nn a
  have hb := Int32.toInt_lt v
  generalize v.toInt.toNat = k at e1 e2
  subst e1
  have c' : k < 40 := (nI_ltI (b := 40) (by omega) (by omega)).mp c
  exact ⟨ib_n c' (by omega), by rw [gI_a, nI_clamp (by omega)]; exact h.2.1 k c'⟩
theorem Dn_z (h : Dn q B N1 N2) : dz N2 := by
  obtain ⟨D, ⟨d, kt, kb, h1, h2, h3, h4, h5, h6, h7, h8⟩, i2, i3⟩ := h
  exact h7
theorem place_al (h : Sm q B N1 b N2) : cp_316_0 v1 N1 ∧ cp_583_0 v1 N2 ∧ caq q B b N1 N2 (cf_316_0 v1 N1) (cf_583_0 v1 N2) := by
  rcases h with h | h
  · obtain ⟨p, C, s, D, H, x, L, R, h1, h2, h3, h4, h5, h6⟩ := id h
    obtain ⟨a1, a2, a3⟩ := place_ok h3 h4
    exact ⟨a1, a2, caq_q (Or.inl h) a3⟩
  · obtain ⟨w1, w2⟩ := Sm_d h
    obtain ⟨u1, u2⟩ := c104_d w1
    obtain ⟨F1, F2⟩ := F_d w2
    exact ⟨by simp [cp_316_0, u1, u2], by simp [cp_583_0, F1, F2, card_d (Dn_z h)], caq_q (Or.inr h) (qok_d (by simp [cf_316_0, u2]; rfl) (by simp [cf_583_0, F2]; rfl))⟩
theorem trend_al (hq : q < 2 ^ 20) (h : Sm q B N1 b N2) : cp_326_0 v1 v2 N1 ∧ cp_559_0 v1 v2 N2 ∧ caq q B b N1 N2 (cf_326_0 v1 v2 N1) (cf_559_0 v1 v2 N2) := by
  rcases h with h | h
  · obtain ⟨p, C, s, D, H, x, L, R, h1, h2, h3, h4, h5, h6⟩ := id h
    obtain ⟨a1, a2, a3⟩ := trend_ok h3 h4 (by omega)
    exact ⟨a1, a2, caq_q (Or.inl h) a3⟩
  · obtain ⟨w1, w2⟩ := Sm_d h
    obtain ⟨u1, u2⟩ := c104_d w1
    obtain ⟨F1, F2⟩ := F_d w2
    have hz : cf_466_0 v1.toInt64 0 7 = true → mz_ib v1 8 ∧ mz_z01 (mz_gI N2 282 v1) := fun z => by
      obtain ⟨k, hk, e⟩ := ib_466 (hi := 7) (by omega) rfl z
      subst e
      exact ⟨ib_n (by omega) (by omega), by rw [gI_a, nI_clamp (by omega)]; exact (Dn_z h).2.2.1 k (by omega)⟩
    refine ⟨by simp [cp_326_0, u1, u2], ?_, caq_q (Or.inr h) (qok_d (by simp [cf_326_0, u2]; rfl) (by simp [cf_559_0, cf_559_42, cf_559_43, F2]; rfl))⟩
    simp [cp_559_0, cp_559_42, cp_559_43, F1, F2]
    exact fun z => ⟨(hz z).1, (hz z).2, fun _ => (hz z).1⟩
end A5
