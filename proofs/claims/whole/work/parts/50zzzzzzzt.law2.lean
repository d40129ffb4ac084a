/-! PURE (50zzzzzzzt): the law: each call, with how the law keeps its answer (made by wip/gen/genlc.py). -/
section Lc
variable {N : mz_N} {b : Bool} {B q t : Nat}
theorem ib_01 : mz_ib 0 1 := ib_n (k := 0) (n := 1) (by omega) (by omega)
theorem lc_0 (v1 : Int32) (hq : q + 130 < 2 ^ 15) (hB : B + 1700 < 2 ^ 30) (ht : t < 1000) (h : Sm q B N b N) : cp_102_0 v1 N t ∧ cp_460_0 v1 (cf_102_0 v1 N t).2.1 ∧ (cf_102_0 v1 N t).2.2 ≤ t + 1 ∧ lawR (q + 130) (B + 1700) b (cf_102_0 v1 N t).1 (cf_460_0 v1 (cf_102_0 v1 N t).2.1).2 (cf_460_0 v1 (cf_102_0 v1 N t).2.1).1.toInt64 := by
  have e : cf_102_0 v1 N t = lw3 Int32.toInt64 (cf_103_0 v1 N) t := rfl
  obtain ⟨p1, p2, p3, p4, p5⟩ := law3 (g := Int32.toInt64) (t := t) (PR := fun M => cp_460_0 v1 M) (r := fun M => cf_460_0 v1 M) (c := cf_103_0 v1 N) h (fun M hM => take_al  hM)
  rw [e]
  exact ⟨cw3 p1 ht p2 trivial, p3, p4, lawR_m (by omega) (by omega) p5⟩
theorem lc_1 (v1 : Int32) (v2 : Int32) (v3 : Int32) (v4 : Int32) (v5 : Int32) (v6 : Int32) (hq : q + 130 < 2 ^ 15) (hB : B + 1700 < 2 ^ 30) (ht : t < 1000) (h : Sm q B N b N) : cp_106_0 v1 v2 v3 v4 v5 v6 N t ∧ cp_463_0 v1 v2 v3 v4 v5 v6 (cf_106_0 v1 v2 v3 v4 v5 v6 N t).2.1 ∧ (cf_106_0 v1 v2 v3 v4 v5 v6 N t).2.2 ≤ t + 1 ∧ lawR (q + 130) (B + 1700) b (cf_106_0 v1 v2 v3 v4 v5 v6 N t).1 (cf_463_0 v1 v2 v3 v4 v5 v6 (cf_106_0 v1 v2 v3 v4 v5 v6 N t).2.1).2 (cf_463_0 v1 v2 v3 v4 v5 v6 (cf_106_0 v1 v2 v3 v4 v5 v6 N t).2.1).1.toInt64 := by
  have e : cf_106_0 v1 v2 v3 v4 v5 v6 N t = lw3 Int32.toInt64 (cf_107_0 v1 v2 v3 v4 v5 v6 N) t := rfl
  obtain ⟨p1, p2, p3, p4, p5⟩ := law3 (g := Int32.toInt64) (t := t) (PR := fun M => cp_463_0 v1 v2 v3 v4 v5 v6 M) (r := fun M => cf_463_0 v1 v2 v3 v4 v5 v6 M) (c := cf_107_0 v1 v2 v3 v4 v5 v6 N) h (fun M hM => edit_al  hM)
  rw [e]
  exact ⟨cw3 p1 ht p2 trivial, p3, p4, lawR_m (by omega) (by omega) p5⟩
theorem lc_2 (v1 : Int32) (hq : q + 130 < 2 ^ 15) (hB : B + 1700 < 2 ^ 30) (ht : t < 1000) (h : Sm q B N b N) : cp_110_0 v1 N b t ∧ cp_467_0 v1 (cf_110_0 v1 N b t).2.1 ∧ (cf_110_0 v1 N b t).2.2 ≤ t + 1 ∧ lawR (q + 130) (B + 1700) b (cf_110_0 v1 N b t).1 (cf_467_0 v1 (cf_110_0 v1 N b t).2.1).2 (cf_467_0 v1 (cf_110_0 v1 N b t).2.1).1.toInt64 := by
  have e : cf_110_0 v1 N b t = lw3 Int32.toInt64 (cf_111_0 v1 N b) t := rfl
  obtain ⟨p1, p2, p3, p4, p5⟩ := law3 (g := Int32.toInt64) (t := t) (PR := fun M => cp_467_0 v1 M) (r := fun M => cf_467_0 v1 M) (c := cf_111_0 v1 N b) h (fun M hM => merge_al (by omega) hM)
  rw [e]
  exact ⟨cw3 p1 ht p2 trivial, p3, p4, lawR_m (by omega) (by omega) p5⟩
theorem lc_3 (v1 : Int32) (v2 : Int32) (hq : q + 130 < 2 ^ 15) (hB : B + 1700 < 2 ^ 30) (ht : t < 1000) (h : Sm q B N b N) : cp_140_0 v1 v2 N t ∧ cp_478_0 v1 v2 (cf_140_0 v1 v2 N t).2.1 ∧ (cf_140_0 v1 v2 N t).2.2 ≤ t + 1 ∧ lawR (q + 130) (B + 1700) b (cf_140_0 v1 v2 N t).1 (cf_478_0 v1 v2 (cf_140_0 v1 v2 N t).2.1).2 (cf_478_0 v1 v2 (cf_140_0 v1 v2 N t).2.1).1.toInt64 := by
  have e : cf_140_0 v1 v2 N t = lw3 Int32.toInt64 (((cf_141_0 v1 v2 N).1, (cf_141_0 v1 v2 N).2, N)) t := rfl
  obtain ⟨p1, p2, p3, p4, p5⟩ := law3 (g := Int32.toInt64) (t := t) (PR := fun M => cp_478_0 v1 v2 M) (r := fun M => cf_478_0 v1 v2 M) (c := ((cf_141_0 v1 v2 N).1, (cf_141_0 v1 v2 N).2, N)) h (fun M hM => ⟨(conflict_al  hM).1, (conflict_al  hM).2.1, caq_c (conflict_al  hM).2.2⟩)
  rw [e]
  exact ⟨cw3 p1 ht p2 trivial, p3, p4, lawR_m (by omega) (by omega) p5⟩
theorem lc_4 (v1 : Int32) (v2 : Int32) (v3 : Bool) (hq : q + 130 < 2 ^ 15) (hB : B + 1700 < 2 ^ 30) (ht : t < 1000) (h : Sm q B N b N) : cp_144_0 v1 v2 v3 N t ∧ cp_480_0 v1 v2 v3 (cf_144_0 v1 v2 v3 N t).2.1 ∧ (cf_144_0 v1 v2 v3 N t).2.2 ≤ t + 1 ∧ lawR (q + 130) (B + 1700) b (cf_144_0 v1 v2 v3 N t).1 (cf_480_0 v1 v2 v3 (cf_144_0 v1 v2 v3 N t).2.1).2 (cf_480_0 v1 v2 v3 (cf_144_0 v1 v2 v3 N t).2.1).1.toInt64 := by
  have e : cf_144_0 v1 v2 v3 N t = lw3 Int32.toInt64 (cf_145_0 v1 v2 v3 N) t := rfl
  obtain ⟨p1, p2, p3, p4, p5⟩ := law3 (g := Int32.toInt64) (t := t) (PR := fun M => cp_480_0 v1 v2 v3 M) (r := fun M => cf_480_0 v1 v2 v3 M) (c := cf_145_0 v1 v2 v3 N) h (fun M hM => settle_al  hM)
  rw [e]
  exact ⟨cw3 p1 ht p2 trivial, p3, p4, lawR_m (by omega) (by omega) p5⟩
theorem lc_5 (v1 : Int32) (v2 : Int32) (hq : q + 130 < 2 ^ 15) (hB : B + 1700 < 2 ^ 30) (ht : t < 1000) (h : Sm q B N b N) : cp_147_0 v1 v2 N t ∧ cp_481_0 v1 v2 (cf_147_0 v1 v2 N t).2.1 ∧ (cf_147_0 v1 v2 N t).2.2 ≤ t + 1 ∧ lawR (q + 130) (B + 1700) b (cf_147_0 v1 v2 N t).1 (cf_481_0 v1 v2 (cf_147_0 v1 v2 N t).2.1).2 (cf_481_0 v1 v2 (cf_147_0 v1 v2 N t).2.1).1.toInt64 := by
  have e : cf_147_0 v1 v2 N t = lw3 Int32.toInt64 (((cf_148_0 v1 v2 N).1, (cf_148_0 v1 v2 N).2, N)) t := rfl
  obtain ⟨p1, p2, p3, p4, p5⟩ := law3 (g := Int32.toInt64) (t := t) (PR := fun M => cp_481_0 v1 v2 M) (r := fun M => cf_481_0 v1 v2 M) (c := ((cf_148_0 v1 v2 N).1, (cf_148_0 v1 v2 N).2, N)) h (fun M hM => ⟨(edge_al  hM).1, (edge_al  hM).2.1, caq_c (edge_al  hM).2.2⟩)
  rw [e]
  exact ⟨cw3 p1 ht p2 trivial, p3, p4, lawR_m (by omega) (by omega) p5⟩
theorem lc_6 (v1 : Int32) (v2 : Int32) (v3 : Int32) (hq : q + 130 < 2 ^ 15) (hB : B + 1700 < 2 ^ 30) (ht : t < 1000) (h : Sm q B N b N) : cp_149_0 v1 v2 v3 N t ∧ cp_482_0 v1 v2 v3 (cf_149_0 v1 v2 v3 N t).2.1 ∧ (cf_149_0 v1 v2 v3 N t).2.2 ≤ t + 1 ∧ lawR (q + 130) (B + 1700) b (cf_149_0 v1 v2 v3 N t).1 (cf_482_0 v1 v2 v3 (cf_149_0 v1 v2 v3 N t).2.1).2 (cf_482_0 v1 v2 v3 (cf_149_0 v1 v2 v3 N t).2.1).1.toInt64 := by
  have e : cf_149_0 v1 v2 v3 N t = lw3 Int32.toInt64 (((cf_150_0 v1 v2 v3 N).1, (cf_150_0 v1 v2 v3 N).2, N)) t := rfl
  obtain ⟨p1, p2, p3, p4, p5⟩ := law3 (g := Int32.toInt64) (t := t) (PR := fun M => cp_482_0 v1 v2 v3 M) (r := fun M => cf_482_0 v1 v2 v3 M) (c := ((cf_150_0 v1 v2 v3 N).1, (cf_150_0 v1 v2 v3 N).2, N)) h (fun M hM => ⟨(draft_al  hM).1, (draft_al  hM).2.1, caq_c (draft_al  hM).2.2⟩)
  rw [e]
  exact ⟨cw3 p1 ht p2 trivial, p3, p4, lawR_m (by omega) (by omega) p5⟩
theorem lc_7 (hq : q + 130 < 2 ^ 15) (hB : B + 1700 < 2 ^ 30) (ht : t < 1000) (h : Sm q B N b N) : cp_151_0 N t ∧ cp_483_0 (cf_151_0 N t).2.1 ∧ (cf_151_0 N t).2.2 ≤ t + 1 ∧ lawR (q + 130) (B + 1700) b (cf_151_0 N t).1 (cf_483_0 (cf_151_0 N t).2.1).2 (cf_483_0 (cf_151_0 N t).2.1).1.toInt64 := by
  have e : cf_151_0 N t = lw2 Int32.toInt64 (((cf_152_0 N).1, (cf_152_0 N).2, N)) t := rfl
  obtain ⟨p1, p2, p3, p4, p5⟩ := law2 (g := Int32.toInt64) (t := t) (PR := fun M => cp_483_0 M) (r := fun M => cf_483_0 M) (c := ((cf_152_0 N).1, (cf_152_0 N).2, N)) h (fun M hM => ⟨(version_al  hM).1, (version_al  hM).2.1, caq1_c (version_al  hM).2.2⟩)
  rw [e]
  exact ⟨cw2 p1 ht p2 trivial, p3, p4, lawR_m (by omega) (by omega) p5⟩
theorem lc_8 (hq : q + 130 < 2 ^ 15) (hB : B + 1700 < 2 ^ 30) (ht : t < 1000) (h : Sm q B N b N) : cp_153_0 N t ∧ cp_485_0 (cf_153_0 N t).2.1 ∧ (cf_153_0 N t).2.2 ≤ t + 1 ∧ lawR (q + 130) (B + 1700) b (cf_153_0 N t).1 (cf_485_0 (cf_153_0 N t).2.1).2 (cf_485_0 (cf_153_0 N t).2.1).1.toInt64 := by
  have e : cf_153_0 N t = lw2 Int32.toInt64 (((cf_154_0 N).1, (cf_154_0 N).2, N)) t := rfl
  obtain ⟨p1, p2, p3, p4, p5⟩ := law2 (g := Int32.toInt64) (t := t) (PR := fun M => cp_485_0 M) (r := fun M => cf_485_0 M) (c := ((cf_154_0 N).1, (cf_154_0 N).2, N)) h (fun M hM => ⟨(spaces_al  hM).1, (spaces_al  hM).2.1, caq1_c (spaces_al  hM).2.2⟩)
  rw [e]
  exact ⟨cw2 p1 ht p2 trivial, p3, p4, lawR_m (by omega) (by omega) p5⟩
theorem lc_9 (v1 : Int32) (v2 : Int32) (hq : q + 130 < 2 ^ 15) (hB : B + 1700 < 2 ^ 30) (ht : t < 1000) (h : Sm q B N b N) : cp_155_0 v1 v2 N t ∧ cp_486_0 v1 v2 (cf_155_0 v1 v2 N t).2.1 ∧ (cf_155_0 v1 v2 N t).2.2 ≤ t + 1 ∧ lawR (q + 130) (B + 1700) b (cf_155_0 v1 v2 N t).1 (cf_486_0 v1 v2 (cf_155_0 v1 v2 N t).2.1).2 (cf_486_0 v1 v2 (cf_155_0 v1 v2 N t).2.1).1.toInt64 := by
  have e : cf_155_0 v1 v2 N t = lw3 Int32.toInt64 (((cf_156_0 v1 v2 N).1, (cf_156_0 v1 v2 N).2, N)) t := rfl
  obtain ⟨p1, p2, p3, p4, p5⟩ := law3 (g := Int32.toInt64) (t := t) (PR := fun M => cp_486_0 v1 v2 M) (r := fun M => cf_486_0 v1 v2 M) (c := ((cf_156_0 v1 v2 N).1, (cf_156_0 v1 v2 N).2, N)) h (fun M hM => ⟨(space_al  hM).1, (space_al  hM).2.1, caq_c (space_al  hM).2.2⟩)
  rw [e]
  exact ⟨cw3 p1 ht p2 trivial, p3, p4, lawR_m (by omega) (by omega) p5⟩
theorem lc_10 (v1 : Int32) (v2 : Int32) (hq : q + 130 < 2 ^ 15) (hB : B + 1700 < 2 ^ 30) (ht : t < 1000) (h : Sm q B N b N) : cp_161_0 v1 v2 N t ∧ cp_490_0 v1 v2 (cf_161_0 v1 v2 N t).2.1 ∧ (cf_161_0 v1 v2 N t).2.2 ≤ t + 1 ∧ lawR (q + 130) (B + 1700) b (cf_161_0 v1 v2 N t).1 (cf_490_0 v1 v2 (cf_161_0 v1 v2 N t).2.1).2 (cf_490_0 v1 v2 (cf_161_0 v1 v2 N t).2.1).1.toInt64 := by
  have e : cf_161_0 v1 v2 N t = lw3 Int32.toInt64 (((cf_162_0 v1 v2 N).1, (cf_162_0 v1 v2 N).2, N)) t := rfl
  obtain ⟨p1, p2, p3, p4, p5⟩ := law3 (g := Int32.toInt64) (t := t) (PR := fun M => cp_490_0 v1 v2 M) (r := fun M => cf_490_0 v1 v2 M) (c := ((cf_162_0 v1 v2 N).1, (cf_162_0 v1 v2 N).2, N)) h (fun M hM => ⟨(spaceAt_al  hM).1, (spaceAt_al  hM).2.1, caq_c (spaceAt_al  hM).2.2⟩)
  rw [e]
  exact ⟨cw3 p1 ht p2 trivial, p3, p4, lawR_m (by omega) (by omega) p5⟩
theorem lc_11 (v1 : Int32) (v2 : Int32) (v3 : Int32) (hq : q + 130 < 2 ^ 15) (hB : B + 1700 < 2 ^ 30) (ht : t < 1000) (h : Sm q B N b N) : cp_163_0 v1 v2 v3 N t ∧ cp_492_0 v1 v2 v3 (cf_163_0 v1 v2 v3 N t).2.1 ∧ (cf_163_0 v1 v2 v3 N t).2.2 ≤ t + 1 ∧ lawR (q + 130) (B + 1700) b (cf_163_0 v1 v2 v3 N t).1 (cf_492_0 v1 v2 v3 (cf_163_0 v1 v2 v3 N t).2.1).2 (cf_492_0 v1 v2 v3 (cf_163_0 v1 v2 v3 N t).2.1).1.toInt64 := by
  have e : cf_163_0 v1 v2 v3 N t = lw3 Int32.toInt64 (((cf_164_0 v1 v2 v3 N).1, (cf_164_0 v1 v2 v3 N).2, N)) t := rfl
  obtain ⟨p1, p2, p3, p4, p5⟩ := law3 (g := Int32.toInt64) (t := t) (PR := fun M => cp_492_0 v1 v2 v3 M) (r := fun M => cf_492_0 v1 v2 v3 M) (c := ((cf_164_0 v1 v2 v3 N).1, (cf_164_0 v1 v2 v3 N).2, N)) h (fun M hM => ⟨(between_al  hM).1, (between_al  hM).2.1, caq_c (between_al  hM).2.2⟩)
  rw [e]
  exact ⟨cw3 p1 ht p2 trivial, p3, p4, lawR_m (by omega) (by omega) p5⟩
theorem lc_12 (v1 : Int32) (v2 : Int32) (v3 : Int32) (hq : q + 130 < 2 ^ 15) (hB : B + 1700 < 2 ^ 30) (ht : t < 1000) (h : Sm q B N b N) : cp_168_0 v1 v2 v3 N b t ∧ cp_493_0 v1 v2 v3 (cf_168_0 v1 v2 v3 N b t).2.1 ∧ (cf_168_0 v1 v2 v3 N b t).2.2 ≤ t + 1 ∧ lawR (q + 130) (B + 1700) b (cf_168_0 v1 v2 v3 N b t).1 (cf_493_0 v1 v2 v3 (cf_168_0 v1 v2 v3 N b t).2.1).2 (cf_493_0 v1 v2 v3 (cf_168_0 v1 v2 v3 N b t).2.1).1.toInt64 := by
  have e : cf_168_0 v1 v2 v3 N b t = lw3 Int32.toInt64 (cf_169_0 v1 v2 v3 N b) t := rfl
  obtain ⟨p1, p2, p3, p4, p5⟩ := law3 (g := Int32.toInt64) (t := t) (PR := fun M => cp_493_0 v1 v2 v3 M) (r := fun M => cf_493_0 v1 v2 v3 M) (c := cf_169_0 v1 v2 v3 N b) h (fun M hM => flat_al (by omega) hM)
  rw [e]
  exact ⟨cw3 p1 ht p2 trivial, p3, p4, lawR_m (by omega) (by omega) p5⟩
theorem lc_13 (v1 : Int32) (v2 : Int32) (v3 : Int32) (hq : q + 130 < 2 ^ 15) (hB : B + 1700 < 2 ^ 30) (ht : t < 1000) (h : Sm q B N b N) : cp_172_0 v1 v2 v3 N b t ∧ cp_495_0 v1 v2 v3 (cf_172_0 v1 v2 v3 N b t).2.1 ∧ (cf_172_0 v1 v2 v3 N b t).2.2 ≤ t + 1 ∧ lawR (q + 130) (B + 1700) b (cf_172_0 v1 v2 v3 N b t).1 (cf_495_0 v1 v2 v3 (cf_172_0 v1 v2 v3 N b t).2.1).2 (cf_495_0 v1 v2 v3 (cf_172_0 v1 v2 v3 N b t).2.1).1.toInt64 := by
  have e : cf_172_0 v1 v2 v3 N b t = lw3 Int32.toInt64 (cf_173_0 v1 v2 v3 N b) t := rfl
  obtain ⟨p1, p2, p3, p4, p5⟩ := law3 (g := Int32.toInt64) (t := t) (PR := fun M => cp_495_0 v1 v2 v3 M) (r := fun M => cf_495_0 v1 v2 v3 M) (c := cf_173_0 v1 v2 v3 N b) h (fun M hM => people_al (by omega) hM)
  rw [e]
  exact ⟨cw3 p1 ht p2 trivial, p3, p4, lawR_m (by omega) (by omega) p5⟩
theorem lc_14 (v1 : Int32) (v2 : Int32) (hq : q + 130 < 2 ^ 15) (hB : B + 1700 < 2 ^ 30) (ht : t < 1000) (h : Sm q B N b N) : cp_174_0 v1 v2 N b t ∧ cp_496_0 v1 v2 (cf_174_0 v1 v2 N b t).2.1 ∧ (cf_174_0 v1 v2 N b t).2.2 ≤ t + 1 ∧ lawR (q + 130) (B + 1700) b (cf_174_0 v1 v2 N b t).1 (cf_496_0 v1 v2 (cf_174_0 v1 v2 N b t).2.1).2 (cf_496_0 v1 v2 (cf_174_0 v1 v2 N b t).2.1).1.toInt64 := by
  have e : cf_174_0 v1 v2 N b t = lw3 Int32.toInt64 (cf_175_0 v1 v2 N b) t := rfl
  obtain ⟨p1, p2, p3, p4, p5⟩ := law3 (g := Int32.toInt64) (t := t) (PR := fun M => cp_496_0 v1 v2 M) (r := fun M => cf_496_0 v1 v2 M) (c := cf_175_0 v1 v2 N b) h (fun M hM => weather_al (by omega) hM)
  rw [e]
  exact ⟨cw3 p1 ht p2 trivial, p3, p4, lawR_m (by omega) (by omega) p5⟩
theorem lc_15 (v1 : Int32) (v2 : Int32) (v3 : Int32) (hq : q + 130 < 2 ^ 15) (hB : B + 1700 < 2 ^ 30) (ht : t < 1000) (h : Sm q B N b N) : cp_176_0 v1 v2 v3 N b t ∧ cp_497_0 v1 v2 v3 (cf_176_0 v1 v2 v3 N b t).2.1 ∧ (cf_176_0 v1 v2 v3 N b t).2.2 ≤ t + 1 ∧ lawR (q + 130) (B + 1700) b (cf_176_0 v1 v2 v3 N b t).1 (cf_497_0 v1 v2 v3 (cf_176_0 v1 v2 v3 N b t).2.1).2 (cf_497_0 v1 v2 v3 (cf_176_0 v1 v2 v3 N b t).2.1).1.toInt64 := by
  have e : cf_176_0 v1 v2 v3 N b t = lw3 Int32.toInt64 (cf_177_0 v1 v2 v3 N b) t := rfl
  obtain ⟨p1, p2, p3, p4, p5⟩ := law3 (g := Int32.toInt64) (t := t) (PR := fun M => cp_497_0 v1 v2 v3 M) (r := fun M => cf_497_0 v1 v2 v3 M) (c := cf_177_0 v1 v2 v3 N b) h (fun M hM => sun_al (by omega) hM)
  rw [e]
  exact ⟨cw3 p1 ht p2 trivial, p3, p4, lawR_m (by omega) (by omega) p5⟩
theorem lc_16 (v1 : Int32) (v2 : Int32) (v3 : Int32) (hq : q + 130 < 2 ^ 15) (hB : B + 1700 < 2 ^ 30) (ht : t < 1000) (h : Sm q B N b N) : cp_178_0 v1 v2 v3 N b t ∧ cp_498_0 v1 v2 v3 (cf_178_0 v1 v2 v3 N b t).2.1 ∧ (cf_178_0 v1 v2 v3 N b t).2.2 ≤ t + 1 ∧ lawR (q + 130) (B + 1700) b (cf_178_0 v1 v2 v3 N b t).1 (cf_498_0 v1 v2 v3 (cf_178_0 v1 v2 v3 N b t).2.1).2 (cf_498_0 v1 v2 v3 (cf_178_0 v1 v2 v3 N b t).2.1).1.toInt64 := by
  have e : cf_178_0 v1 v2 v3 N b t = lw3 Int32.toInt64 (cf_179_0 v1 v2 v3 N b) t := rfl
  obtain ⟨p1, p2, p3, p4, p5⟩ := law3 (g := Int32.toInt64) (t := t) (PR := fun M => cp_498_0 v1 v2 v3 M) (r := fun M => cf_498_0 v1 v2 v3 M) (c := cf_179_0 v1 v2 v3 N b) h (fun M hM => rate_al (by omega) hM)
  rw [e]
  exact ⟨cw3 p1 ht p2 trivial, p3, p4, lawR_m (by omega) (by omega) p5⟩
theorem lc_17 (v1 : Int32) (v2 : Int32) (hq : q + 130 < 2 ^ 15) (hB : B + 1700 < 2 ^ 30) (ht : t < 1000) (h : Sm q B N b N) : cp_180_0 v1 v2 N b t ∧ cp_499_0 v1 v2 (cf_180_0 v1 v2 N b t).2.1 ∧ (cf_180_0 v1 v2 N b t).2.2 ≤ t + 1 ∧ lawR (q + 130) (B + 1700) b (cf_180_0 v1 v2 N b t).1 (cf_499_0 v1 v2 (cf_180_0 v1 v2 N b t).2.1).2 (cf_499_0 v1 v2 (cf_180_0 v1 v2 N b t).2.1).1.toInt64 := by
  have e : cf_180_0 v1 v2 N b t = lw3 Int32.toInt64 (cf_181_0 v1 v2 N b) t := rfl
  obtain ⟨p1, p2, p3, p4, p5⟩ := law3 (g := Int32.toInt64) (t := t) (PR := fun M => cp_499_0 v1 v2 M) (r := fun M => cf_499_0 v1 v2 M) (c := cf_181_0 v1 v2 N b) h (fun M hM => price_al (by omega) hM)
  rw [e]
  exact ⟨cw3 p1 ht p2 trivial, p3, p4, lawR_m (by omega) (by omega) p5⟩
theorem lc_18 (v1 : Int32) (v2 : Int32) (hq : q + 130 < 2 ^ 15) (hB : B + 1700 < 2 ^ 30) (ht : t < 1000) (h : Sm q B N b N) : cp_183_0 v1 v2 N b t ∧ cp_500_0 v1 v2 (cf_183_0 v1 v2 N b t).2.1 ∧ (cf_183_0 v1 v2 N b t).2.2 ≤ t + 1 ∧ lawR (q + 130) (B + 1700) b (cf_183_0 v1 v2 N b t).1 (cf_500_0 v1 v2 (cf_183_0 v1 v2 N b t).2.1).2 (cf_500_0 v1 v2 (cf_183_0 v1 v2 N b t).2.1).1.toInt64 := by
  have e : cf_183_0 v1 v2 N b t = lw3 Int32.toInt64 (cf_184_0 v1 v2 N b) t := rfl
  obtain ⟨p1, p2, p3, p4, p5⟩ := law3 (g := Int32.toInt64) (t := t) (PR := fun M => cp_500_0 v1 v2 M) (r := fun M => cf_500_0 v1 v2 M) (c := cf_184_0 v1 v2 N b) h (fun M hM => life_al (by omega) hM)
  rw [e]
  exact ⟨cw3 p1 ht p2 trivial, p3, p4, lawR_m (by omega) (by omega) p5⟩
theorem lc_19 (v1 : Int32) (hq : q + 130 < 2 ^ 15) (hB : B + 1700 < 2 ^ 30) (ht : t < 1000) (h : Sm q B N b N) : cp_185_0 v1 N t ∧ cp_501_0 v1 (cf_185_0 v1 N t).2.1 ∧ (cf_185_0 v1 N t).2.2 ≤ t + 1 ∧ lawR (q + 130) (B + 1700) b (cf_185_0 v1 N t).1 (cf_501_0 v1 (cf_185_0 v1 N t).2.1).2 (cf_501_0 v1 (cf_185_0 v1 N t).2.1).1.toInt64 := by
  have e : cf_185_0 v1 N t = lw3 Int32.toInt64 (cf_186_0 v1 N) t := rfl
  obtain ⟨p1, p2, p3, p4, p5⟩ := law3 (g := Int32.toInt64) (t := t) (PR := fun M => cp_501_0 v1 M) (r := fun M => cf_501_0 v1 M) (c := cf_186_0 v1 N) h (fun M hM => type_al  hM)
  rw [e]
  exact ⟨cw3 p1 ht p2 trivial, p3, p4, lawR_m (by omega) (by omega) p5⟩
theorem lc_20 (hq : q + 130 < 2 ^ 15) (hB : B + 1700 < 2 ^ 30) (ht : t < 1000) (h : Sm q B N b N) : cp_188_0 N t ∧ cp_502_0 (cf_188_0 N t).2.1 ∧ (cf_188_0 N t).2.2 ≤ t + 1 ∧ lawR (q + 130) (B + 1700) b (cf_188_0 N t).1 (cf_502_0 (cf_188_0 N t).2.1).2 (cf_502_0 (cf_188_0 N t).2.1).1.toInt64 := by
  have e : cf_188_0 N t = lw2 Int32.toInt64 (cf_189_0 N) t := rfl
  obtain ⟨p1, p2, p3, p4, p5⟩ := law2 (g := Int32.toInt64) (t := t) (PR := fun M => cp_502_0 M) (r := fun M => cf_502_0 M) (c := cf_189_0 N) h (fun M hM => wipe_al  hM)
  rw [e]
  exact ⟨cw2 p1 ht p2 trivial, p3, p4, lawR_m (by omega) (by omega) p5⟩
theorem lc_21 (hq : q + 130 < 2 ^ 15) (hB : B + 1700 < 2 ^ 30) (ht : t < 1000) (h : Sm q B N b N) : cp_190_0 N b t ∧ cp_503_0 (cf_190_0 N b t).2.1 ∧ (cf_190_0 N b t).2.2.2 ≤ t + 1 ∧ lawR (q + 130) (B + 1700) (cf_190_0 N b t).2.2.1 (cf_190_0 N b t).1 (cf_503_0 (cf_190_0 N b t).2.1).2 (cf_503_0 (cf_190_0 N b t).2.1).1.toInt64 := by
  have e : cf_190_0 N b t = ((lw2 Int32.toInt64 ((cf_191_0 N b).1, (cf_191_0 N b).2.1, (cf_191_0 N b).2.2.1) t).1, (lw2 Int32.toInt64 ((cf_191_0 N b).1, (cf_191_0 N b).2.1, (cf_191_0 N b).2.2.1) t).2.1, (cf_191_0 N b).2.2.2, (lw2 Int32.toInt64 ((cf_191_0 N b).1, (cf_191_0 N b).2.1, (cf_191_0 N b).2.2.1) t).2.2) := by
    rw [cf_190_0]
    unfold lw2
    split <;> rfl
  obtain ⟨p1, p2, p3, p4, p5⟩ := law2 (b' := (cf_191_0 N b).2.2.2) (g := Int32.toInt64) (t := t) (PR := fun M => cp_503_0 M) (r := fun M => cf_503_0 M) (c := ((cf_191_0 N b).1, (cf_191_0 N b).2.1, (cf_191_0 N b).2.2.1)) h (fun M hM => load_al (by omega) hM)
  rw [e]
  exact ⟨cw2 p1 ht p2 trivial, p3, p4, lawR_m (by omega) (by omega) p5⟩
theorem lc_22 (v1 : Int32) (hq : q + 130 < 2 ^ 15) (hB : B + 1700 < 2 ^ 30) (ht : t < 1000) (h : Sm q B N b N) : cp_193_0 v1 N t ∧ cp_504_0 v1 (cf_193_0 v1 N t).2.1 ∧ (cf_193_0 v1 N t).2.2 ≤ t + 1 ∧ lawR (q + 130) (B + 1700) b (cf_193_0 v1 N t).1 (cf_504_0 v1 (cf_193_0 v1 N t).2.1).2 (cf_504_0 v1 (cf_193_0 v1 N t).2.1).1.toInt64 := by
  have e : cf_193_0 v1 N t = lw3 Int32.toInt64 (((cf_194_0 v1 N).1, (cf_194_0 v1 N).2, N)) t := rfl
  obtain ⟨p1, p2, p3, p4, p5⟩ := law3 (g := Int32.toInt64) (t := t) (PR := fun M => cp_504_0 v1 M) (r := fun M => cf_504_0 v1 M) (c := ((cf_194_0 v1 N).1, (cf_194_0 v1 N).2, N)) h (fun M hM => ⟨(fault_al  hM).1, (fault_al  hM).2.1, caq_c (fault_al  hM).2.2⟩)
  rw [e]
  exact ⟨cw3 p1 ht p2 trivial, p3, p4, lawR_m (by omega) (by omega) p5⟩
theorem lc_23 (v1 : Int32) (hq : q + 130 < 2 ^ 15) (hB : B + 1700 < 2 ^ 30) (ht : t < 1000) (h : Sm q B N b N) : cp_195_0 v1 N t ∧ cp_505_0 v1 (cf_195_0 v1 N t).2.1 ∧ (cf_195_0 v1 N t).2.2 ≤ t + 1 ∧ lawR (q + 130) (B + 1700) b (cf_195_0 v1 N t).1 (cf_505_0 v1 (cf_195_0 v1 N t).2.1).2 (cf_505_0 v1 (cf_195_0 v1 N t).2.1).1.toInt64 := by
  have e : cf_195_0 v1 N t = lw3 Int32.toInt64 (((cf_196_0 v1 N).1, (cf_196_0 v1 N).2, N)) t := rfl
  obtain ⟨p1, p2, p3, p4, p5⟩ := law3 (g := Int32.toInt64) (t := t) (PR := fun M => cp_505_0 v1 M) (r := fun M => cf_505_0 v1 M) (c := ((cf_196_0 v1 N).1, (cf_196_0 v1 N).2, N)) h (fun M hM => ⟨(target_al  hM).1, (target_al  hM).2.1, caq_c (target_al  hM).2.2⟩)
  rw [e]
  exact ⟨cw3 p1 ht p2 trivial, p3, p4, lawR_m (by omega) (by omega) p5⟩
theorem lc_24 (v1 : Int32) (hq : q + 130 < 2 ^ 15) (hB : B + 1700 < 2 ^ 30) (ht : t < 1000) (h : Sm q B N b N) : cp_197_0 v1 N b t ∧ cp_506_0 v1 (cf_197_0 v1 N b t).2.1 ∧ (cf_197_0 v1 N b t).2.2 ≤ t + 1 ∧ lawR (q + 130) (B + 1700) b (cf_197_0 v1 N b t).1 (cf_506_0 v1 (cf_197_0 v1 N b t).2.1).2 (cf_506_0 v1 (cf_197_0 v1 N b t).2.1).1.toInt64 := by
  have e : cf_197_0 v1 N b t = lw3 Int32.toInt64 (cf_198_0 v1 N b) t := rfl
  obtain ⟨p1, p2, p3, p4, p5⟩ := law3 (g := Int32.toInt64) (t := t) (PR := fun M => cp_506_0 v1 M) (r := fun M => cf_506_0 v1 M) (c := cf_198_0 v1 N b) h (fun M hM => run_al (by omega) (by omega) hM)
  rw [e]
  exact ⟨cw3 p1 ht p2 trivial, p3, p4, lawR_m (by omega) (by omega) p5⟩
theorem lc_25 (v1 : Bool) (hq : q + 130 < 2 ^ 15) (hB : B + 1700 < 2 ^ 30) (ht : t < 1000) (h : Sm q B N b N) : cp_278_0 v1 N t ∧ cp_548_0 v1 (cf_278_0 v1 N t).2.1 ∧ (cf_278_0 v1 N t).2.2 ≤ t + 1 ∧ lawR (q + 130) (B + 1700) b (cf_278_0 v1 N t).1 (cf_548_0 v1 (cf_278_0 v1 N t).2.1).2 (bLg (cf_548_0 v1 (cf_278_0 v1 N t).2.1).1) := by
  have e : cf_278_0 v1 N t = lw2 bLg (cf_279_0 v1 N) t := lwb2 (c := cf_279_0 v1 N)
  obtain ⟨p1, p2, p3, p4, p5⟩ := law2 (g := bLg) (t := t) (PR := fun M => cp_548_0 v1 M) (r := fun M => cf_548_0 v1 M) (c := cf_279_0 v1 N) h (fun M hM => mains_al  hM)
  rw [e]
  exact ⟨cw2 p1 ht p2 ⟨fun _ => ib_01, fun _ => ib_01⟩, p3, p4, lawR_m (by omega) (by omega) p5⟩
theorem lc_26 (v1 : Int32) (hq : q + 130 < 2 ^ 15) (hB : B + 1700 < 2 ^ 30) (ht : t < 1000) (h : Sm q B N b N) : cp_280_0 v1 N t ∧ cp_549_0 v1 (cf_280_0 v1 N t).2.1 ∧ (cf_280_0 v1 N t).2.2 ≤ t + 1 ∧ lawR (q + 130) (B + 1700) b (cf_280_0 v1 N t).1 (cf_549_0 v1 (cf_280_0 v1 N t).2.1).2 (cf_549_0 v1 (cf_280_0 v1 N t).2.1).1.toInt64 := by
  have e : cf_280_0 v1 N t = lw3 Int32.toInt64 (cf_281_0 v1 N) t := rfl
  obtain ⟨p1, p2, p3, p4, p5⟩ := law3 (g := Int32.toInt64) (t := t) (PR := fun M => cp_549_0 v1 M) (r := fun M => cf_549_0 v1 M) (c := cf_281_0 v1 N) h (fun M hM => fuel_al  hM)
  rw [e]
  exact ⟨cw3 p1 ht p2 trivial, p3, p4, lawR_m (by omega) (by omega) p5⟩
theorem lc_27 (v1 : Int32) (hq : q + 130 < 2 ^ 15) (hB : B + 1700 < 2 ^ 30) (ht : t < 1000) (h : Sm q B N b N) : cp_282_0 v1 N t ∧ cp_550_0 v1 (cf_282_0 v1 N t).2.1 ∧ (cf_282_0 v1 N t).2.2 ≤ t + 1 ∧ lawR (q + 130) (B + 1700) b (cf_282_0 v1 N t).1 (cf_550_0 v1 (cf_282_0 v1 N t).2.1).2 (bLg (cf_550_0 v1 (cf_282_0 v1 N t).2.1).1) := by
  have e : cf_282_0 v1 N t = lw3 bLg (cf_283_0 v1 N) t := lwb3 (c := cf_283_0 v1 N)
  obtain ⟨p1, p2, p3, p4, p5⟩ := law3 (g := bLg) (t := t) (PR := fun M => cp_550_0 v1 M) (r := fun M => cf_550_0 v1 M) (c := cf_283_0 v1 N) h (fun M hM => reset_al  hM)
  rw [e]
  exact ⟨cw3 p1 ht p2 ⟨fun _ => ib_01, fun _ => ib_01⟩, p3, p4, lawR_m (by omega) (by omega) p5⟩
theorem lc_28 (v1 : Int32) (v2 : Int32) (hq : q + 130 < 2 ^ 15) (hB : B + 1700 < 2 ^ 30) (ht : t < 1000) (h : Sm q B N b N) : cp_284_0 v1 v2 N t ∧ cp_551_0 v1 v2 (cf_284_0 v1 v2 N t).2.1 ∧ (cf_284_0 v1 v2 N t).2.2 ≤ t + 1 ∧ lawR (q + 130) (B + 1700) b (cf_284_0 v1 v2 N t).1 (cf_551_0 v1 v2 (cf_284_0 v1 v2 N t).2.1).2 (cf_551_0 v1 v2 (cf_284_0 v1 v2 N t).2.1).1.toInt64 := by
  have e : cf_284_0 v1 v2 N t = lw3 Int32.toInt64 (((cf_285_0 v1 v2 N).1, (cf_285_0 v1 v2 N).2, N)) t := rfl
  obtain ⟨p1, p2, p3, p4, p5⟩ := law3 (g := Int32.toInt64) (t := t) (PR := fun M => cp_551_0 v1 v2 M) (r := fun M => cf_551_0 v1 v2 M) (c := ((cf_285_0 v1 v2 N).1, (cf_285_0 v1 v2 N).2, N)) h (fun M hM => ⟨(circuit_al  hM).1, (circuit_al  hM).2.1, caq_c (circuit_al  hM).2.2⟩)
  rw [e]
  exact ⟨cw3 p1 ht p2 trivial, p3, p4, lawR_m (by omega) (by omega) p5⟩
theorem lc_29 (v1 : Int32) (hq : q + 130 < 2 ^ 15) (hB : B + 1700 < 2 ^ 30) (ht : t < 1000) (h : Sm q B N b N) : cp_286_0 v1 N t ∧ cp_552_0 v1 (cf_286_0 v1 N t).2.1 ∧ (cf_286_0 v1 N t).2.2 ≤ t + 1 ∧ lawR (q + 130) (B + 1700) b (cf_286_0 v1 N t).1 (cf_552_0 v1 (cf_286_0 v1 N t).2.1).2 (cf_552_0 v1 (cf_286_0 v1 N t).2.1).1.toInt64 := by
  have e : cf_286_0 v1 N t = lw3 Int32.toInt64 (((cf_287_0 v1 N).1, (cf_287_0 v1 N).2, N)) t := rfl
  obtain ⟨p1, p2, p3, p4, p5⟩ := law3 (g := Int32.toInt64) (t := t) (PR := fun M => cp_552_0 v1 M) (r := fun M => cf_552_0 v1 M) (c := ((cf_287_0 v1 N).1, (cf_287_0 v1 N).2, N)) h (fun M hM => ⟨(state_al  hM).1, (state_al  hM).2.1, caq_c (state_al  hM).2.2⟩)
  rw [e]
  exact ⟨cw3 p1 ht p2 trivial, p3, p4, lawR_m (by omega) (by omega) p5⟩
theorem lc_30 (v1 : Int32) (v2 : Int32) (v3 : Int32) (hq : q + 130 < 2 ^ 15) (hB : B + 1700 < 2 ^ 30) (ht : t < 1000) (h : Sm q B N b N) : cp_288_0 v1 v2 v3 N t ∧ cp_553_0 v1 v2 v3 (cf_288_0 v1 v2 v3 N t).2.1 ∧ (cf_288_0 v1 v2 v3 N t).2.2 ≤ t + 1 ∧ lawR (q + 130) (B + 1700) b (cf_288_0 v1 v2 v3 N t).1 (cf_553_0 v1 v2 v3 (cf_288_0 v1 v2 v3 N t).2.1).2 (cf_553_0 v1 v2 v3 (cf_288_0 v1 v2 v3 N t).2.1).1 := by
  have e : cf_288_0 v1 v2 v3 N t = lw3 (fun x : Int64 => x) (((cf_289_0 v1 v2 v3 N).1, (cf_289_0 v1 v2 v3 N).2, N)) t := rfl
  obtain ⟨p1, p2, p3, p4, p5⟩ := law3 (g := (fun x : Int64 => x)) (t := t) (PR := fun M => cp_553_0 v1 v2 v3 M) (r := fun M => cf_553_0 v1 v2 v3 M) (c := ((cf_289_0 v1 v2 v3 N).1, (cf_289_0 v1 v2 v3 N).2, N)) h (fun M hM => ⟨(cell_al  hM).1, (cell_al  hM).2.1, caq_c (cell_al  hM).2.2⟩)
  rw [e]
  exact ⟨cw3 p1 ht p2 trivial, p3, p4, lawR_m (by omega) (by omega) p5⟩
theorem lc_31 (v1 : Int32) (v2 : Int32) (hq : q + 130 < 2 ^ 15) (hB : B + 1700 < 2 ^ 30) (ht : t < 1000) (h : Sm q B N b N) : cp_290_0 v1 v2 N t ∧ cp_554_0 v1 v2 (cf_290_0 v1 v2 N t).2.1 ∧ (cf_290_0 v1 v2 N t).2.2 ≤ t + 1 ∧ lawR (q + 130) (B + 1700) b (cf_290_0 v1 v2 N t).1 (cf_554_0 v1 v2 (cf_290_0 v1 v2 N t).2.1).2 (bLg (cf_554_0 v1 v2 (cf_290_0 v1 v2 N t).2.1).1) := by
  have e : cf_290_0 v1 v2 N t = lw3 bLg (cf_291_0 v1 v2 N) t := lwb3 (c := cf_291_0 v1 v2 N)
  obtain ⟨p1, p2, p3, p4, p5⟩ := law3 (g := bLg) (t := t) (PR := fun M => cp_554_0 v1 v2 M) (r := fun M => cf_554_0 v1 v2 M) (c := cf_291_0 v1 v2 N) h (fun M hM => ignite_al  hM)
  rw [e]
  exact ⟨cw3 p1 ht p2 ⟨fun _ => ib_01, fun _ => ib_01⟩, p3, p4, lawR_m (by omega) (by omega) p5⟩
theorem lc_32 (v1 : Int32) (hq : q + 130 < 2 ^ 15) (hB : B + 1700 < 2 ^ 30) (ht : t < 1000) (h : Sm q B N b N) : cp_292_0 v1 N t ∧ cp_555_0 v1 (cf_292_0 v1 N t).2.1 ∧ (cf_292_0 v1 N t).2.2 ≤ t + 1 ∧ lawR (q + 130) (B + 1700) b (cf_292_0 v1 N t).1 (cf_555_0 v1 (cf_292_0 v1 N t).2.1).2 (bLg (cf_555_0 v1 (cf_292_0 v1 N t).2.1).1) := by
  have e : cf_292_0 v1 N t = lw3 bLg (((cf_293_0 v1 N).1, (cf_293_0 v1 N).2, N)) t := lwb3 (c := ((cf_293_0 v1 N).1, (cf_293_0 v1 N).2, N))
  obtain ⟨p1, p2, p3, p4, p5⟩ := law3 (g := bLg) (t := t) (PR := fun M => cp_555_0 v1 M) (r := fun M => cf_555_0 v1 M) (c := ((cf_293_0 v1 N).1, (cf_293_0 v1 N).2, N)) h (fun M hM => ⟨(detected_al  hM).1, (detected_al  hM).2.1, caq_c (detected_al  hM).2.2⟩)
  rw [e]
  exact ⟨cw3 p1 ht p2 ⟨fun _ => ib_01, fun _ => ib_01⟩, p3, p4, lawR_m (by omega) (by omega) p5⟩
theorem lc_33 (hq : q + 130 < 2 ^ 15) (hB : B + 1700 < 2 ^ 30) (ht : t < 1000) (h : Sm q B N b N) : cp_294_0 N t ∧ cp_545_0 (cf_294_0 N t).2.1 ∧ (cf_294_0 N t).2.2 ≤ t + 1 ∧ lawR (q + 130) (B + 1700) b (cf_294_0 N t).1 (cf_545_0 (cf_294_0 N t).2.1).2 (cf_545_0 (cf_294_0 N t).2.1).1.toInt64 := by
  have e : cf_294_0 N t = lw2 Int32.toInt64 (((cf_295_0 N).1, (cf_295_0 N).2, N)) t := rfl
  obtain ⟨p1, p2, p3, p4, p5⟩ := law2 (g := Int32.toInt64) (t := t) (PR := fun M => cp_545_0 M) (r := fun M => cf_545_0 M) (c := ((cf_295_0 N).1, (cf_295_0 N).2, N)) h (fun M hM => ⟨(alarms_al  hM).1, (alarms_al  hM).2.1, caq1_c (alarms_al  hM).2.2⟩)
  rw [e]
  exact ⟨cw2 p1 ht p2 trivial, p3, p4, lawR_m (by omega) (by omega) p5⟩
theorem lc_34 (v1 : Int32) (v2 : Int32) (hq : q + 130 < 2 ^ 15) (hB : B + 1700 < 2 ^ 30) (ht : t < 1000) (h : Sm q B N b N) : cp_296_0 v1 v2 N t ∧ cp_546_0 v1 v2 (cf_296_0 v1 v2 N t).2.1 ∧ (cf_296_0 v1 v2 N t).2.2 ≤ t + 1 ∧ lawR (q + 130) (B + 1700) b (cf_296_0 v1 v2 N t).1 (cf_546_0 v1 v2 (cf_296_0 v1 v2 N t).2.1).2 (cf_546_0 v1 v2 (cf_296_0 v1 v2 N t).2.1).1.toInt64 := by
  have e : cf_296_0 v1 v2 N t = lw3 Int32.toInt64 (((cf_297_0 v1 v2 N).1, (cf_297_0 v1 v2 N).2, N)) t := rfl
  obtain ⟨p1, p2, p3, p4, p5⟩ := law3 (g := Int32.toInt64) (t := t) (PR := fun M => cp_546_0 v1 v2 M) (r := fun M => cf_546_0 v1 v2 M) (c := ((cf_297_0 v1 v2 N).1, (cf_297_0 v1 v2 N).2, N)) h (fun M hM => ⟨(alarm_al (by omega) hM).1, (alarm_al (by omega) hM).2.1, caq_c (alarm_al (by omega) hM).2.2⟩)
  rw [e]
  exact ⟨cw3 p1 ht p2 trivial, p3, p4, lawR_m (by omega) (by omega) p5⟩
theorem lc_35 (v1 : Int32) (v2 : Int32) (hq : q + 130 < 2 ^ 15) (hB : B + 1700 < 2 ^ 30) (ht : t < 1000) (h : Sm q B N b N) : cp_298_0 v1 v2 N b t ∧ cp_574_0 v1 v2 (cf_298_0 v1 v2 N b t).2.1 ∧ (cf_298_0 v1 v2 N b t).2.2 ≤ t + 1 ∧ lawR (q + 130) (B + 1700) b (cf_298_0 v1 v2 N b t).1 (cf_574_0 v1 v2 (cf_298_0 v1 v2 N b t).2.1).2 (cf_574_0 v1 v2 (cf_298_0 v1 v2 N b t).2.1).1.toInt64 := by
  have e : cf_298_0 v1 v2 N b t = lw3 Int32.toInt64 (cf_299_0 v1 v2 N b) t := rfl
  obtain ⟨p1, p2, p3, p4, p5⟩ := law3 (g := Int32.toInt64) (t := t) (PR := fun M => cp_574_0 v1 v2 M) (r := fun M => cf_574_0 v1 v2 M) (c := cf_299_0 v1 v2 N b) h (fun M hM => door_al (by omega) hM)
  rw [e]
  exact ⟨cw3 p1 ht p2 trivial, p3, p4, lawR_m (by omega) (by omega) p5⟩
theorem lc_36 (v1 : Int32) (v2 : Int32) (v3 : Int32) (v4 : Int32) (v5 : Bool) (hq : q + 130 < 2 ^ 15) (hB : B + 1700 < 2 ^ 30) (ht : t < 1000) (h : Sm q B N b N) : cp_302_0 v1 v2 v3 v4 v5 N b t ∧ cp_577_0 v1 v2 v3 v4 v5 (cf_302_0 v1 v2 v3 v4 v5 N b t).2.1 ∧ (cf_302_0 v1 v2 v3 v4 v5 N b t).2.2 ≤ t + 1 ∧ lawR (q + 130) (B + 1700) b (cf_302_0 v1 v2 v3 v4 v5 N b t).1 (cf_577_0 v1 v2 v3 v4 v5 (cf_302_0 v1 v2 v3 v4 v5 N b t).2.1).2 (cf_577_0 v1 v2 v3 v4 v5 (cf_302_0 v1 v2 v3 v4 v5 N b t).2.1).1.toInt64 := by
  have e : cf_302_0 v1 v2 v3 v4 v5 N b t = lw3 Int32.toInt64 (cf_303_0 v1 v2 v3 v4 v5 N b) t := rfl
  obtain ⟨p1, p2, p3, p4, p5⟩ := law3 (g := Int32.toInt64) (t := t) (PR := fun M => cp_577_0 v1 v2 v3 v4 v5 M) (r := fun M => cf_577_0 v1 v2 v3 v4 v5 M) (c := cf_303_0 v1 v2 v3 v4 v5 N b) h (fun M hM => card_al (by omega) hM)
  rw [e]
  exact ⟨cw3 p1 ht p2 trivial, p3, p4, lawR_m (by omega) (by omega) p5⟩
theorem lc_37 (v1 : Int32) (v2 : Int32) (hq : q + 130 < 2 ^ 15) (hB : B + 1700 < 2 ^ 30) (ht : t < 1000) (h : Sm q B N b N) : cp_304_0 v1 v2 N t ∧ cp_578_0 v1 v2 (cf_304_0 v1 v2 N t).2.1 ∧ (cf_304_0 v1 v2 N t).2.2 ≤ t + 1 ∧ lawR (q + 130) (B + 1700) b (cf_304_0 v1 v2 N t).1 (cf_578_0 v1 v2 (cf_304_0 v1 v2 N t).2.1).2 (cf_578_0 v1 v2 (cf_304_0 v1 v2 N t).2.1).1.toInt64 := by
  have e : cf_304_0 v1 v2 N t = lw3 Int32.toInt64 (cf_305_0 v1 v2 N) t := rfl
  obtain ⟨p1, p2, p3, p4, p5⟩ := law3 (g := Int32.toInt64) (t := t) (PR := fun M => cp_578_0 v1 v2 M) (r := fun M => cf_578_0 v1 v2 M) (c := cf_305_0 v1 v2 N) h (fun M hM => go_al (by omega) hM)
  rw [e]
  exact ⟨cw3 p1 ht p2 trivial, p3, p4, lawR_m (by omega) (by omega) p5⟩
theorem lc_38 (v1 : Int32) (hq : q + 130 < 2 ^ 15) (hB : B + 1700 < 2 ^ 30) (ht : t < 1000) (h : Sm q B N b N) : cp_315_0 v1 N t ∧ cp_583_0 v1 (cf_315_0 v1 N t).2.1 ∧ (cf_315_0 v1 N t).2.2 ≤ t + 1 ∧ lawR (q + 130) (B + 1700) b (cf_315_0 v1 N t).1 (cf_583_0 v1 (cf_315_0 v1 N t).2.1).2 (cf_583_0 v1 (cf_315_0 v1 N t).2.1).1.toInt64 := by
  have e : cf_315_0 v1 N t = lw3 Int32.toInt64 (((cf_316_0 v1 N).1, (cf_316_0 v1 N).2, N)) t := rfl
  obtain ⟨p1, p2, p3, p4, p5⟩ := law3 (g := Int32.toInt64) (t := t) (PR := fun M => cp_583_0 v1 M) (r := fun M => cf_583_0 v1 M) (c := ((cf_316_0 v1 N).1, (cf_316_0 v1 N).2, N)) h (fun M hM => ⟨(place_al  hM).1, (place_al  hM).2.1, caq_c (place_al  hM).2.2⟩)
  rw [e]
  exact ⟨cw3 p1 ht p2 trivial, p3, p4, lawR_m (by omega) (by omega) p5⟩
theorem lc_39 (v1 : Int32) (hq : q + 130 < 2 ^ 15) (hB : B + 1700 < 2 ^ 30) (ht : t < 1000) (h : Sm q B N b N) : cp_317_0 v1 N t ∧ cp_584_0 v1 (cf_317_0 v1 N t).2.1 ∧ (cf_317_0 v1 N t).2.2 ≤ t + 1 ∧ lawR (q + 130) (B + 1700) b (cf_317_0 v1 N t).1 (cf_584_0 v1 (cf_317_0 v1 N t).2.1).2 (cf_584_0 v1 (cf_317_0 v1 N t).2.1).1.toInt64 := by
  have e : cf_317_0 v1 N t = lw3 Int32.toInt64 (((cf_318_0 v1 N).1, (cf_318_0 v1 N).2, N)) t := rfl
  obtain ⟨p1, p2, p3, p4, p5⟩ := law3 (g := Int32.toInt64) (t := t) (PR := fun M => cp_584_0 v1 M) (r := fun M => cf_584_0 v1 M) (c := ((cf_318_0 v1 N).1, (cf_318_0 v1 N).2, N)) h (fun M hM => ⟨(inside_al  hM).1, (inside_al  hM).2.1, caq_c (inside_al  hM).2.2⟩)
  rw [e]
  exact ⟨cw3 p1 ht p2 trivial, p3, p4, lawR_m (by omega) (by omega) p5⟩
theorem lc_40 (v1 : Int32) (v2 : Int32) (hq : q + 130 < 2 ^ 15) (hB : B + 1700 < 2 ^ 30) (ht : t < 1000) (h : Sm q B N b N) : cp_320_0 v1 v2 N t ∧ cp_585_0 v1 v2 (cf_320_0 v1 v2 N t).2.1 ∧ (cf_320_0 v1 v2 N t).2.2 ≤ t + 1 ∧ lawR (q + 130) (B + 1700) b (cf_320_0 v1 v2 N t).1 (cf_585_0 v1 v2 (cf_320_0 v1 v2 N t).2.1).2 (cf_585_0 v1 v2 (cf_320_0 v1 v2 N t).2.1).1.toInt64 := by
  have e : cf_320_0 v1 v2 N t = lw3 Int32.toInt64 (((cf_321_0 v1 v2 N).1, (cf_321_0 v1 v2 N).2, N)) t := rfl
  obtain ⟨p1, p2, p3, p4, p5⟩ := law3 (g := Int32.toInt64) (t := t) (PR := fun M => cp_585_0 v1 v2 M) (r := fun M => cf_585_0 v1 v2 M) (c := ((cf_321_0 v1 v2 N).1, (cf_321_0 v1 v2 N).2, N)) h (fun M hM => ⟨(log_al (by omega) hM).1, (log_al (by omega) hM).2.1, caq_c (log_al (by omega) hM).2.2⟩)
  rw [e]
  exact ⟨cw3 p1 ht p2 trivial, p3, p4, lawR_m (by omega) (by omega) p5⟩
theorem lc_41 (v1 : Int32) (v2 : Int32) (v3 : Int32) (hq : q + 130 < 2 ^ 15) (hB : B + 1700 < 2 ^ 30) (ht : t < 1000) (h : Sm q B N b N) : cp_322_0 v1 v2 v3 N b t ∧ cp_557_0 v1 v2 v3 (cf_322_0 v1 v2 v3 N b t).2.1 ∧ (cf_322_0 v1 v2 v3 N b t).2.2 ≤ t + 1 ∧ lawR (q + 130) (B + 1700) b (cf_322_0 v1 v2 v3 N b t).1 (cf_557_0 v1 v2 v3 (cf_322_0 v1 v2 v3 N b t).2.1).2 (cf_557_0 v1 v2 v3 (cf_322_0 v1 v2 v3 N b t).2.1).1.toInt64 := by
  have e : cf_322_0 v1 v2 v3 N b t = lw3 Int32.toInt64 (cf_323_0 v1 v2 v3 N b) t := rfl
  obtain ⟨p1, p2, p3, p4, p5⟩ := law3 (g := Int32.toInt64) (t := t) (PR := fun M => cp_557_0 v1 v2 v3 M) (r := fun M => cf_557_0 v1 v2 v3 M) (c := cf_323_0 v1 v2 v3 N b) h (fun M hM => point_al (by omega) hM)
  rw [e]
  exact ⟨cw3 p1 ht p2 trivial, p3, p4, lawR_m (by omega) (by omega) p5⟩
theorem lc_42 (v1 : Int32) (v2 : Int32) (hq : q + 130 < 2 ^ 15) (hB : B + 1700 < 2 ^ 30) (ht : t < 1000) (h : Sm q B N b N) : cp_325_0 v1 v2 N t ∧ cp_559_0 v1 v2 (cf_325_0 v1 v2 N t).2.1 ∧ (cf_325_0 v1 v2 N t).2.2 ≤ t + 1 ∧ lawR (q + 130) (B + 1700) b (cf_325_0 v1 v2 N t).1 (cf_559_0 v1 v2 (cf_325_0 v1 v2 N t).2.1).2 (cf_559_0 v1 v2 (cf_325_0 v1 v2 N t).2.1).1 := by
  have e : cf_325_0 v1 v2 N t = lw3 (fun x : Int64 => x) (((cf_326_0 v1 v2 N).1, (cf_326_0 v1 v2 N).2, N)) t := rfl
  obtain ⟨p1, p2, p3, p4, p5⟩ := law3 (g := (fun x : Int64 => x)) (t := t) (PR := fun M => cp_559_0 v1 v2 M) (r := fun M => cf_559_0 v1 v2 M) (c := ((cf_326_0 v1 v2 N).1, (cf_326_0 v1 v2 N).2, N)) h (fun M hM => ⟨(trend_al (by omega) hM).1, (trend_al (by omega) hM).2.1, caq_c (trend_al (by omega) hM).2.2⟩)
  rw [e]
  exact ⟨cw3 p1 ht p2 trivial, p3, p4, lawR_m (by omega) (by omega) p5⟩
theorem lc_43 (v1 : Int32) (v2 : Int32) (hq : q + 130 < 2 ^ 15) (hB : B + 1700 < 2 ^ 30) (ht : t < 1000) (h : Sm q B N b N) : cp_327_0 v1 v2 N b t ∧ cp_560_0 v1 v2 (cf_327_0 v1 v2 N b t).2.1 ∧ (cf_327_0 v1 v2 N b t).2.2 ≤ t + 1 ∧ lawR (q + 130) (B + 1700) b (cf_327_0 v1 v2 N b t).1 (cf_560_0 v1 v2 (cf_327_0 v1 v2 N b t).2.1).2 (cf_560_0 v1 v2 (cf_327_0 v1 v2 N b t).2.1).1.toInt64 := by
  have e : cf_327_0 v1 v2 N b t = lw3 Int32.toInt64 (cf_328_0 v1 v2 N b) t := rfl
  obtain ⟨p1, p2, p3, p4, p5⟩ := law3 (g := Int32.toInt64) (t := t) (PR := fun M => cp_560_0 v1 v2 M) (r := fun M => cf_560_0 v1 v2 M) (c := cf_328_0 v1 v2 N b) h (fun M hM => ticket_al (by omega) (by omega) hM)
  rw [e]
  exact ⟨cw3 p1 ht p2 trivial, p3, p4, lawR_m (by omega) (by omega) p5⟩
theorem lc_44 (hq : q + 130 < 2 ^ 15) (hB : B + 1700 < 2 ^ 30) (ht : t < 1000) (h : Sm q B N b N) : cp_329_0 N t ∧ cp_561_0 (cf_329_0 N t).2.1 ∧ (cf_329_0 N t).2.2 ≤ t + 1 ∧ lawR (q + 130) (B + 1700) b (cf_329_0 N t).1 (cf_561_0 (cf_329_0 N t).2.1).2 (cf_561_0 (cf_329_0 N t).2.1).1.toInt64 := by
  have e : cf_329_0 N t = lw2 Int32.toInt64 (((cf_330_0 N).1, (cf_330_0 N).2, N)) t := rfl
  obtain ⟨p1, p2, p3, p4, p5⟩ := law2 (g := Int32.toInt64) (t := t) (PR := fun M => cp_561_0 M) (r := fun M => cf_561_0 M) (c := ((cf_330_0 N).1, (cf_330_0 N).2, N)) h (fun M hM => ⟨(tickets_al  hM).1, (tickets_al  hM).2.1, caq1_c (tickets_al  hM).2.2⟩)
  rw [e]
  exact ⟨cw2 p1 ht p2 trivial, p3, p4, lawR_m (by omega) (by omega) p5⟩
theorem lc_45 (v1 : Int32) (v2 : Int32) (hq : q + 130 < 2 ^ 15) (hB : B + 1700 < 2 ^ 30) (ht : t < 1000) (h : Sm q B N b N) : cp_332_0 v1 v2 N t ∧ cp_563_0 v1 v2 (cf_332_0 v1 v2 N t).2.1 ∧ (cf_332_0 v1 v2 N t).2.2 ≤ t + 1 ∧ lawR (q + 130) (B + 1700) b (cf_332_0 v1 v2 N t).1 (cf_563_0 v1 v2 (cf_332_0 v1 v2 N t).2.1).2 (cf_563_0 v1 v2 (cf_332_0 v1 v2 N t).2.1).1.toInt64 := by
  have e : cf_332_0 v1 v2 N t = lw3 Int32.toInt64 (((cf_333_0 v1 v2 N).1, (cf_333_0 v1 v2 N).2, N)) t := rfl
  obtain ⟨p1, p2, p3, p4, p5⟩ := law3 (g := Int32.toInt64) (t := t) (PR := fun M => cp_563_0 v1 v2 M) (r := fun M => cf_563_0 v1 v2 M) (c := ((cf_333_0 v1 v2 N).1, (cf_333_0 v1 v2 N).2, N)) h (fun M hM => ⟨(ticketOf_al (by omega) hM).1, (ticketOf_al (by omega) hM).2.1, caq_c (ticketOf_al (by omega) hM).2.2⟩)
  rw [e]
  exact ⟨cw3 p1 ht p2 trivial, p3, p4, lawR_m (by omega) (by omega) p5⟩
theorem lc_46 (v1 : Int32) (hq : q + 130 < 2 ^ 15) (hB : B + 1700 < 2 ^ 30) (ht : t < 1000) (h : Sm q B N b N) : cp_336_0 v1 N t ∧ cp_565_0 v1 (cf_336_0 v1 N t).2.1 ∧ (cf_336_0 v1 N t).2.2 ≤ t + 1 ∧ lawR (q + 130) (B + 1700) b (cf_336_0 v1 N t).1 (cf_565_0 v1 (cf_336_0 v1 N t).2.1).2 (cf_565_0 v1 (cf_336_0 v1 N t).2.1).1.toInt64 := by
  have e : cf_336_0 v1 N t = lw3 Int32.toInt64 (cf_337_0 v1 N) t := rfl
  obtain ⟨p1, p2, p3, p4, p5⟩ := law3 (g := Int32.toInt64) (t := t) (PR := fun M => cp_565_0 v1 M) (r := fun M => cf_565_0 v1 M) (c := cf_337_0 v1 N) h (fun M hM => tour_al (by omega) hM)
  rw [e]
  exact ⟨cw3 p1 ht p2 trivial, p3, p4, lawR_m (by omega) (by omega) p5⟩
theorem lc_47 (v1 : Int32) (v2 : Int32) (hq : q + 130 < 2 ^ 15) (hB : B + 1700 < 2 ^ 30) (ht : t < 1000) (h : Sm q B N b N) : cp_347_0 v1 v2 N t ∧ cp_571_0 v1 v2 (cf_347_0 v1 v2 N t).2.1 ∧ (cf_347_0 v1 v2 N t).2.2 ≤ t + 1 ∧ lawR (q + 130) (B + 1700) b (cf_347_0 v1 v2 N t).1 (cf_571_0 v1 v2 (cf_347_0 v1 v2 N t).2.1).2 (cf_571_0 v1 v2 (cf_347_0 v1 v2 N t).2.1).1.toInt64 := by
  have e : cf_347_0 v1 v2 N t = lw3 Int32.toInt64 (((cf_348_0 v1 v2 N).1, (cf_348_0 v1 v2 N).2, N)) t := rfl
  obtain ⟨p1, p2, p3, p4, p5⟩ := law3 (g := Int32.toInt64) (t := t) (PR := fun M => cp_571_0 v1 v2 M) (r := fun M => cf_571_0 v1 v2 M) (c := ((cf_348_0 v1 v2 N).1, (cf_348_0 v1 v2 N).2, N)) h (fun M hM => ⟨(worker_al  hM).1, (worker_al  hM).2.1, caq_c (worker_al  hM).2.2⟩)
  rw [e]
  exact ⟨cw3 p1 ht p2 trivial, p3, p4, lawR_m (by omega) (by omega) p5⟩
theorem lc_48 (v1 : Int32) (v2 : Int32) (hq : q + 130 < 2 ^ 15) (hB : B + 1700 < 2 ^ 30) (ht : t < 1000) (h : Sm q B N b N) : cp_350_0 v1 v2 N t ∧ cp_572_0 v1 v2 (cf_350_0 v1 v2 N t).2.1 ∧ (cf_350_0 v1 v2 N t).2.2 ≤ t + 1 ∧ lawR (q + 130) (B + 1700) b (cf_350_0 v1 v2 N t).1 (cf_572_0 v1 v2 (cf_350_0 v1 v2 N t).2.1).2 (cf_572_0 v1 v2 (cf_350_0 v1 v2 N t).2.1).1.toInt64 := by
  have e : cf_350_0 v1 v2 N t = lw3 Int32.toInt64 (cf_351_0 v1 v2 N) t := rfl
  obtain ⟨p1, p2, p3, p4, p5⟩ := law3 (g := Int32.toInt64) (t := t) (PR := fun M => cp_572_0 v1 v2 M) (r := fun M => cf_572_0 v1 v2 M) (c := cf_351_0 v1 v2 N) h (fun M hM => order_al  hM)
  rw [e]
  exact ⟨cw3 p1 ht p2 trivial, p3, p4, lawR_m (by omega) (by omega) p5⟩
theorem lc_49 (v1 : Int32) (v2 : Int32) (hq : q + 130 < 2 ^ 15) (hB : B + 1700 < 2 ^ 30) (ht : t < 1000) (h : Sm q B N b N) : cp_353_0 v1 v2 N t ∧ cp_573_0 v1 v2 (cf_353_0 v1 v2 N t).2.1 ∧ (cf_353_0 v1 v2 N t).2.2 ≤ t + 1 ∧ lawR (q + 130) (B + 1700) b (cf_353_0 v1 v2 N t).1 (cf_573_0 v1 v2 (cf_353_0 v1 v2 N t).2.1).2 (cf_573_0 v1 v2 (cf_353_0 v1 v2 N t).2.1).1.toInt64 := by
  have e : cf_353_0 v1 v2 N t = lw3 Int32.toInt64 (((cf_354_0 v1 v2 N).1, (cf_354_0 v1 v2 N).2, N)) t := rfl
  obtain ⟨p1, p2, p3, p4, p5⟩ := law3 (g := Int32.toInt64) (t := t) (PR := fun M => cp_573_0 v1 v2 M) (r := fun M => cf_573_0 v1 v2 M) (c := ((cf_354_0 v1 v2 N).1, (cf_354_0 v1 v2 N).2, N)) h (fun M hM => ⟨(part_al  hM).1, (part_al  hM).2.1, caq_c (part_al  hM).2.2⟩)
  rw [e]
  exact ⟨cw3 p1 ht p2 trivial, p3, p4, lawR_m (by omega) (by omega) p5⟩
theorem lc_50 (v1 : Int32) (v2 : Int32) (hq : q + 130 < 2 ^ 15) (hB : B + 1700 < 2 ^ 30) (ht : t < 1000) (h : Sm q B N b N) : cp_355_0 v1 v2 N t ∧ cp_586_0 v1 v2 (cf_355_0 v1 v2 N t).2.1 ∧ (cf_355_0 v1 v2 N t).2.2 ≤ t + 1 ∧ lawR (q + 130) (B + 1700) b (cf_355_0 v1 v2 N t).1 (cf_586_0 v1 v2 (cf_355_0 v1 v2 N t).2.1).2 (cf_586_0 v1 v2 (cf_355_0 v1 v2 N t).2.1).1.toInt64 := by
  have e : cf_355_0 v1 v2 N t = lw3 Int32.toInt64 (((cf_356_0 v1 v2 N).1, (cf_356_0 v1 v2 N).2, N)) t := rfl
  obtain ⟨p1, p2, p3, p4, p5⟩ := law3 (g := Int32.toInt64) (t := t) (PR := fun M => cp_586_0 v1 v2 M) (r := fun M => cf_586_0 v1 v2 M) (c := ((cf_356_0 v1 v2 N).1, (cf_356_0 v1 v2 N).2, N)) h (fun M hM => ⟨(meter_al  hM).1, (meter_al  hM).2.1, caq_c (meter_al  hM).2.2⟩)
  rw [e]
  exact ⟨cw3 p1 ht p2 trivial, p3, p4, lawR_m (by omega) (by omega) p5⟩
theorem lc_51 (v1 : Int32) (v2 : Int32) (hq : q + 130 < 2 ^ 15) (hB : B + 1700 < 2 ^ 30) (ht : t < 1000) (h : Sm q B N b N) : cp_357_0 v1 v2 N t ∧ cp_587_0 v1 v2 (cf_357_0 v1 v2 N t).2.1 ∧ (cf_357_0 v1 v2 N t).2.2 ≤ t + 1 ∧ lawR (q + 130) (B + 1700) b (cf_357_0 v1 v2 N t).1 (cf_587_0 v1 v2 (cf_357_0 v1 v2 N t).2.1).2 (cf_587_0 v1 v2 (cf_357_0 v1 v2 N t).2.1).1 := by
  have e : cf_357_0 v1 v2 N t = lw3 (fun x : Int64 => x) (((cf_358_0 v1 v2 N).1, (cf_358_0 v1 v2 N).2, N)) t := rfl
  obtain ⟨p1, p2, p3, p4, p5⟩ := law3 (g := (fun x : Int64 => x)) (t := t) (PR := fun M => cp_587_0 v1 v2 M) (r := fun M => cf_587_0 v1 v2 M) (c := ((cf_358_0 v1 v2 N).1, (cf_358_0 v1 v2 N).2, N)) h (fun M hM => ⟨(account_al  hM).1, (account_al  hM).2.1, caq_c (account_al  hM).2.2⟩)
  rw [e]
  exact ⟨cw3 p1 ht p2 trivial, p3, p4, lawR_m (by omega) (by omega) p5⟩
theorem lc_52 (v1 : Int32) (hq : q + 130 < 2 ^ 15) (hB : B + 1700 < 2 ^ 30) (ht : t < 1000) (h : Sm q B N b N) : cp_359_0 v1 N t ∧ cp_588_0 v1 (cf_359_0 v1 N t).2.1 ∧ (cf_359_0 v1 N t).2.2 ≤ t + 1 ∧ lawR (q + 130) (B + 1700) b (cf_359_0 v1 N t).1 (cf_588_0 v1 (cf_359_0 v1 N t).2.1).2 (cf_588_0 v1 (cf_359_0 v1 N t).2.1).1 := by
  have e : cf_359_0 v1 N t = lw3 (fun x : Int64 => x) (((cf_360_0 v1 N).1, (cf_360_0 v1 N).2, N)) t := rfl
  obtain ⟨p1, p2, p3, p4, p5⟩ := law3 (g := (fun x : Int64 => x)) (t := t) (PR := fun M => cp_588_0 v1 M) (r := fun M => cf_588_0 v1 M) (c := ((cf_360_0 v1 N).1, (cf_360_0 v1 N).2, N)) h (fun M hM => ⟨(money_al  hM).1, (money_al  hM).2.1, caq_c (money_al  hM).2.2⟩)
  rw [e]
  exact ⟨cw3 p1 ht p2 trivial, p3, p4, lawR_m (by omega) (by omega) p5⟩
theorem lc_53 (v1 : Int32) (v2 : Int32) (hq : q + 130 < 2 ^ 15) (hB : B + 1700 < 2 ^ 30) (ht : t < 1000) (h : Sm q B N b N) : cp_361_0 v1 v2 N b t ∧ cp_589_0 v1 v2 (cf_361_0 v1 v2 N b t).2.1 ∧ (cf_361_0 v1 v2 N b t).2.2 ≤ t + 1 ∧ lawR (q + 130) (B + 1700) b (cf_361_0 v1 v2 N b t).1 (cf_589_0 v1 v2 (cf_361_0 v1 v2 N b t).2.1).2 (cf_589_0 v1 v2 (cf_361_0 v1 v2 N b t).2.1).1.toInt64 := by
  have e : cf_361_0 v1 v2 N b t = lw3 Int32.toInt64 (cf_362_0 v1 v2 N b) t := rfl
  obtain ⟨p1, p2, p3, p4, p5⟩ := law3 (g := Int32.toInt64) (t := t) (PR := fun M => cp_589_0 v1 v2 M) (r := fun M => cf_589_0 v1 v2 M) (c := cf_362_0 v1 v2 N b) h (fun M hM => pay_al (by omega) hM)
  rw [e]
  exact ⟨cw3 p1 ht p2 trivial, p3, p4, lawR_m (by omega) (by omega) p5⟩
theorem lc_57 (v1 : Int32) (hq : q + 130 < 2 ^ 15) (hB : B + 1700 < 2 ^ 30) (ht : t < 1000) (h : Sm q B N b N) : cp_365_0 v1 N t ∧ cp_599_0 v1 (cf_365_0 v1 N t).2.1 ∧ (cf_365_0 v1 N t).2.2 ≤ t + 1 ∧ lawR (q + 130) (B + 1700) b (cf_365_0 v1 N t).1 (cf_599_0 v1 (cf_365_0 v1 N t).2.1).2 (cf_599_0 v1 (cf_365_0 v1 N t).2.1).1.toInt64 := by
  have e : cf_365_0 v1 N t = lw3 Int32.toInt64 (((cf_366_0 v1 N).1, (cf_366_0 v1 N).2, N)) t := rfl
  obtain ⟨p1, p2, p3, p4, p5⟩ := law3 (g := Int32.toInt64) (t := t) (PR := fun M => cp_599_0 v1 M) (r := fun M => cf_599_0 v1 M) (c := ((cf_366_0 v1 N).1, (cf_366_0 v1 N).2, N)) h (fun M hM => ⟨(rows_al  hM).1, (rows_al  hM).2.1, caq_c (rows_al  hM).2.2⟩)
  rw [e]
  exact ⟨cw3 p1 ht p2 trivial, p3, p4, lawR_m (by omega) (by omega) p5⟩
theorem lc_58 (v1 : Int32) (v2 : Int32) (v3 : Int32) (hq : q + 130 < 2 ^ 15) (hB : B + 1700 < 2 ^ 30) (ht : t < 1000) (h : Sm q B N b N) : cp_367_0 v1 v2 v3 N t ∧ cp_600_0 v1 v2 v3 (cf_367_0 v1 v2 v3 N t).2.1 ∧ (cf_367_0 v1 v2 v3 N t).2.2 ≤ t + 1 ∧ lawR (q + 130) (B + 1700) b (cf_367_0 v1 v2 v3 N t).1 (cf_600_0 v1 v2 v3 (cf_367_0 v1 v2 v3 N t).2.1).2 (cf_600_0 v1 v2 v3 (cf_367_0 v1 v2 v3 N t).2.1).1.toInt64 := by
  have e : cf_367_0 v1 v2 v3 N t = lw3 Int32.toInt64 (((cf_368_0 v1 v2 v3 N).1, (cf_368_0 v1 v2 v3 N).2, N)) t := rfl
  obtain ⟨p1, p2, p3, p4, p5⟩ := law3 (g := Int32.toInt64) (t := t) (PR := fun M => cp_600_0 v1 v2 v3 M) (r := fun M => cf_600_0 v1 v2 v3 M) (c := ((cf_368_0 v1 v2 v3 N).1, (cf_368_0 v1 v2 v3 N).2, N)) h (fun M hM => ⟨(disk_al  hM).1, (disk_al  hM).2.1, caq_c (disk_al  hM).2.2⟩)
  rw [e]
  exact ⟨cw3 p1 ht p2 trivial, p3, p4, lawR_m (by omega) (by omega) p5⟩
theorem lc_59 (hq : q + 130 < 2 ^ 15) (hB : B + 1700 < 2 ^ 30) (ht : t < 1000) (h : Sm q B N b N) : cp_369_0 N t ∧ cp_601_0 (cf_369_0 N t).2.1 ∧ (cf_369_0 N t).2.2 ≤ t + 1 ∧ lawR (q + 130) (B + 1700) b (cf_369_0 N t).1 (cf_601_0 (cf_369_0 N t).2.1).2 (cf_601_0 (cf_369_0 N t).2.1).1.toInt64 := by
  have e : cf_369_0 N t = lw2 Int32.toInt64 (cf_370_0 N) t := rfl
  obtain ⟨p1, p2, p3, p4, p5⟩ := law2 (g := Int32.toInt64) (t := t) (PR := fun M => cp_601_0 M) (r := fun M => cf_601_0 M) (c := cf_370_0 N) h (fun M hM => image_al  hM)
  rw [e]
  exact ⟨cw2 p1 ht p2 trivial, p3, p4, lawR_m (by omega) (by omega) p5⟩
theorem lc_60 (v1 : Int32) (hq : q + 130 < 2 ^ 15) (hB : B + 1700 < 2 ^ 30) (ht : t < 1000) (h : Sm q B N b N) : cp_372_0 v1 N t ∧ cp_602_0 v1 (cf_372_0 v1 N t).2.1 ∧ (cf_372_0 v1 N t).2.2 ≤ t + 1 ∧ lawR (q + 130) (B + 1700) b (cf_372_0 v1 N t).1 (cf_602_0 v1 (cf_372_0 v1 N t).2.1).2 (cf_602_0 v1 (cf_372_0 v1 N t).2.1).1.toInt64 := by
  have e : cf_372_0 v1 N t = lw3 Int32.toInt64 (((cf_373_0 v1 N).1, (cf_373_0 v1 N).2, N)) t := rfl
  obtain ⟨p1, p2, p3, p4, p5⟩ := law3 (g := Int32.toInt64) (t := t) (PR := fun M => cp_602_0 v1 M) (r := fun M => cf_602_0 v1 M) (c := ((cf_373_0 v1 N).1, (cf_373_0 v1 N).2, N)) h (fun M hM => ⟨(tape_al  hM).1, (tape_al  hM).2.1, caq_c (tape_al  hM).2.2⟩)
  rw [e]
  exact ⟨cw3 p1 ht p2 trivial, p3, p4, lawR_m (by omega) (by omega) p5⟩
theorem lc_61 (v1 : Int32) (hq : q + 130 < 2 ^ 15) (hB : B + 1700 < 2 ^ 30) (ht : t < 1000) (h : Sm q B N b N) : cp_374_0 v1 N t ∧ cp_603_0 v1 (cf_374_0 v1 N t).2.1 ∧ (cf_374_0 v1 N t).2.2 ≤ t + 1 ∧ lawR (q + 130) (B + 1700) b (cf_374_0 v1 N t).1 (cf_603_0 v1 (cf_374_0 v1 N t).2.1).2 (cf_603_0 v1 (cf_374_0 v1 N t).2.1).1.toInt64 := by
  have e : cf_374_0 v1 N t = lw3 Int32.toInt64 (cf_375_0 v1 N) t := rfl
  obtain ⟨p1, p2, p3, p4, p5⟩ := law3 (g := Int32.toInt64) (t := t) (PR := fun M => cp_603_0 v1 M) (r := fun M => cf_603_0 v1 M) (c := cf_375_0 v1 N) h (fun M hM => feed_al  hM)
  rw [e]
  exact ⟨cw3 p1 ht p2 trivial, p3, p4, lawR_m (by omega) (by omega) p5⟩
theorem lc_62 (hq : q + 130 < 2 ^ 15) (hB : B + 1700 < 2 ^ 30) (ht : t < 1000) (h : Sm q B N b N) : cp_376_0 N t ∧ cp_604_0 (cf_376_0 N t).2.1 ∧ (cf_376_0 N t).2.2 ≤ t + 1 ∧ lawR (q + 130) (B + 1700) b (cf_376_0 N t).1 (cf_604_0 (cf_376_0 N t).2.1).2 (cf_604_0 (cf_376_0 N t).2.1).1.toInt64 := by
  have e : cf_376_0 N t = lw2 Int32.toInt64 (cf_377_0 N) t := rfl
  obtain ⟨p1, p2, p3, p4, p5⟩ := law2 (g := Int32.toInt64) (t := t) (PR := fun M => cp_604_0 M) (r := fun M => cf_604_0 M) (c := cf_377_0 N) h (fun M hM => copy_al  hM)
  rw [e]
  exact ⟨cw2 p1 ht p2 trivial, p3, p4, lawR_m (by omega) (by omega) p5⟩
theorem lc_63 (v1 : Int32) (v2 : Int32) (hq : q + 130 < 2 ^ 15) (hB : B + 1700 < 2 ^ 30) (ht : t < 1000) (h : Sm q B N b N) : cp_379_0 v1 v2 N t ∧ cp_605_0 v1 v2 (cf_379_0 v1 v2 N t).2.1 ∧ (cf_379_0 v1 v2 N t).2.2 ≤ t + 1 ∧ lawR (q + 130) (B + 1700) b (cf_379_0 v1 v2 N t).1 (cf_605_0 v1 v2 (cf_379_0 v1 v2 N t).2.1).2 (cf_605_0 v1 v2 (cf_379_0 v1 v2 N t).2.1).1.toInt64 := by
  have e : cf_379_0 v1 v2 N t = lw3 Int32.toInt64 (cf_380_0 v1 v2 N) t := rfl
  obtain ⟨p1, p2, p3, p4, p5⟩ := law3 (g := Int32.toInt64) (t := t) (PR := fun M => cp_605_0 v1 v2 M) (r := fun M => cf_605_0 v1 v2 M) (c := cf_380_0 v1 v2 N) h (fun M hM => poke_al  hM)
  rw [e]
  exact ⟨cw3 p1 ht p2 trivial, p3, p4, lawR_m (by omega) (by omega) p5⟩
theorem lc_64 (hq : q + 130 < 2 ^ 15) (hB : B + 1700 < 2 ^ 30) (ht : t < 1000) (h : Sm q B N b N) : cp_381_0 N t ∧ cp_606_0 (cf_381_0 N t).2.1 ∧ (cf_381_0 N t).2.2 ≤ t + 1 ∧ lawR (q + 130) (B + 1700) b (cf_381_0 N t).1 (cf_606_0 (cf_381_0 N t).2.1).2 (cf_606_0 (cf_381_0 N t).2.1).1.toInt64 := by
  have e : cf_381_0 N t = lw2 Int32.toInt64 (cf_382_0 N) t := rfl
  obtain ⟨p1, p2, p3, p4, p5⟩ := law2 (g := Int32.toInt64) (t := t) (PR := fun M => cp_606_0 M) (r := fun M => cf_606_0 M) (c := cf_382_0 N) h (fun M hM => empty_al  hM)
  rw [e]
  exact ⟨cw2 p1 ht p2 trivial, p3, p4, lawR_m (by omega) (by omega) p5⟩
theorem lc_65 (hq : q + 130 < 2 ^ 15) (hB : B + 1700 < 2 ^ 30) (ht : t < 1000) (h : Sm q B N b N) : cp_383_0 N b t ∧ cp_607_0 (cf_383_0 N b t).2.1 ∧ (cf_383_0 N b t).2.2.2 ≤ t + 1 ∧ lawR (q + 130) (B + 1700) (cf_383_0 N b t).2.2.1 (cf_383_0 N b t).1 (cf_607_0 (cf_383_0 N b t).2.1).2 (cf_607_0 (cf_383_0 N b t).2.1).1.toInt64 := by
  have e : cf_383_0 N b t = ((lw2 Int32.toInt64 ((cf_384_0 N b).1, (cf_384_0 N b).2.1, (cf_384_0 N b).2.2.1) t).1, (lw2 Int32.toInt64 ((cf_384_0 N b).1, (cf_384_0 N b).2.1, (cf_384_0 N b).2.2.1) t).2.1, (cf_384_0 N b).2.2.2, (lw2 Int32.toInt64 ((cf_384_0 N b).1, (cf_384_0 N b).2.1, (cf_384_0 N b).2.2.1) t).2.2) := by
    rw [cf_383_0]
    unfold lw2
    split <;> rfl
  obtain ⟨p1, p2, p3, p4, p5⟩ := law2 (b' := (cf_384_0 N b).2.2.2) (g := Int32.toInt64) (t := t) (PR := fun M => cp_607_0 M) (r := fun M => cf_607_0 M) (c := ((cf_384_0 N b).1, (cf_384_0 N b).2.1, (cf_384_0 N b).2.2.1)) h (fun M hM => put_al (by omega) (by omega) hM)
  rw [e]
  exact ⟨cw2 p1 ht p2 trivial, p3, p4, lawR_m (by omega) (by omega) p5⟩
end Lc
