/-! PURE (50zzzzzza): inside, between. -/
section In
variable {N N1 N2 M1 M2 : mz_N} {b : Bool} {B q : Nat} {s : st_S} {D H G : Kp} {x : CrS} {L L' : LvS} {R : RsS} {v v1 v2 v3 : Int32}
theorem ins_l (h : MR q B s D H x L N1 b N2) (hr : RsR H L R N1 N2) (v : Int32) : cp_319_0 v N1 ∧ cp_584_27 v 0 0 (mz_pI N2 232 0 0) ∧ cf_584_27 v 0 0 (mz_pI N2 232 0 0) = (cf_319_0 v N1, mz_pI N2 232 0 0) := by
  have kr14 := h.cs.ks.kr.2.2.2.2.2.2.2.2.2.2.2.2.2.2.2.1
  have hb15 : ∀ j, H.1 15 j ≤ 1 := h.cs.ks.hb.2.2.2.2.2.2.2.2.2.2.2.2.2.1
  rw [cp_319_0, cf_319_0, cp_319_5, cf_319_5, cp_584_27, cf_584_27]
  refine mz_lp2n (f := cq_319_5 v N1) (P := cd_319_5 v N1) (g := cq_584_27 v (mz_pI N2 232 0 0)) (P2 := cd_584_27 v (mz_pI N2 232 0 0)) (Q := fun r1 r2 => r2 = (r1, mz_pI N2 232 0 0)) 40 (fun k s1 s2 => ∃ c, s1 = (c, nI k) ∧ s2 = (c, nI k)) ?_ ?_ (Nat.zero_le _) ⟨0, rfl, rfl⟩
  · rintro k s1 s2 hk ⟨c, rfl, rfl⟩
    have l : nI k < 40 := (nI_ltI (b := 40) (by omega) (by omega)).mpr hk
    have ib : mz_ib (nI k) 40 := ib_n hk (by omega)
    have g1 : mz_gI N1 109 (nI k) = nO 240 (R.wh k) := by rw [gI_a, nI_clamp (by omega)]; exact (hr.wh k hk).1
    have g2 : mz_gI (mz_pI N2 232 0 0) 316 (nI k) = nO 240 (R.wh k) := by rw [gI_a, nI_clamp (by omega)]; exact (hr.wh k hk).2
    have g3 : mz_gI (mz_pI N2 232 0 0) 311 (nI k) = nI (H.1 15 k) := by rw [gI_a, nI_clamp (by omega)]; exact (kr14 k hk).1
    have bk := hb15 k
    have z3 : mz_z01 (nI (H.1 15 k)) := by rcases (show H.1 15 k = 0 ∨ H.1 15 k = 1 by omega) with w | w <;> rw [w] <;> first | exact Or.inl rfl | exact Or.inr rfl
    have gz : mz_gZ (mz_pI N2 232 0 0) 311 (nI k) = decide (H.1 15 k = 1) := by
      rw [gZ_a, nI_clamp (by omega)]
      show decide (N2.1 311 k = 1) = _
      rw [(kr14 k hk).1]
      rcases (show H.1 15 k = 0 ∨ H.1 15 k = 1 by omega) with w | w <;> rw [w] <;> rfl
    have m1 : (nO 240 (R.wh k) = -1) = (¬ R.wh k < 240) := propext (nO_m1 (by omega))
    have m2 : (nO 240 (R.wh k) < 0) = (¬ R.wh k < 240) := propext (nO_neg (by omega))
    rw [cd_319_5, cq_319_5, cd_584_27, cq_584_27]
    simp only [l, if_true, g1, g2, g3, gz, m1, m2]
    have n1 : ∀ c : Int32, ∃ c', (c, nI k + 1) = (c', nI (k + 1)) ∧ (c, nI k + 1) = (c', nI (k + 1)) := fun c => ⟨c, by rw [nI_1], by rw [nI_1]⟩
    have n2 : ∀ c : Int32, ∃ c', (c, nI k + 1) = (c', nI (k + 1)) ∧ (c + 0, nI k + 1) = (c', nI (k + 1)) := fun c => ⟨c, by rw [nI_1], by rw [nI_1, Int32.add_zero]⟩
    by_cases hw : R.wh k < 240
    · have h15 : H.1 15 k = 1 := Decidable.byContradiction (fun z => by have := hr.wn k hk z; omega)
      have iw : mz_ib (nO 240 (R.wh k)) 240 := by rw [nO_lt hw]; exact ib_n hw (by omega)
      have l1 : mz_gI N1 15 (nO 240 (R.wh k)) = nI (pl_lab (H.1 0) (R.wh k)) := by rw [nO_lt hw, gI_a, nI_clamp (by omega)]; exact h.lr.pl.1.2.1.1 _ hw
      have l2 : mz_gI (mz_pI N2 232 0 0) 235 (nO 240 (R.wh k)) = nI (pl_lab (H.1 0) (R.wh k)) := by rw [nO_lt hw, gI_a, nI_clamp (by omega)]; exact h.lr.pl.2.2.1 _ hw
      refine ⟨⟨fun _ => ⟨ib, fun _ => trivial, fun _ => ⟨ib, iw, fun _ => trivial, fun _ => trivial⟩⟩, fun z => absurd trivial z⟩, ⟨fun _ => ⟨ib, z3, fun _ => ⟨ib, fun _ => trivial, fun _ => ⟨ib, fun z => absurd hw z, fun _ => ⟨ib, iw, fun _ => trivial, fun _ => trivial⟩⟩⟩, fun _ => trivial⟩, fun z => absurd trivial z⟩, Or.inl ?_⟩
      rw [if_neg (show ¬ ¬ R.wh k < 240 from fun z => z hw), decide_eq_true h15, if_pos rfl, if_neg (show ¬ ¬ R.wh k < 240 from fun z => z hw), if_neg (show ¬ ¬ R.wh k < 240 from fun z => z hw), cf_584_75, l1, l2]
      by_cases z : nI (pl_lab (H.1 0) (R.wh k)) = v
      · rw [if_pos z, if_pos z]; exact ⟨_, _, rfl, rfl, n1 (c + 1)⟩
      · rw [if_neg z, if_neg z]; exact ⟨_, _, rfl, rfl, n2 c⟩
    · refine ⟨⟨fun _ => ⟨ib, fun _ => trivial, fun z => absurd hw z⟩, fun z => absurd trivial z⟩, ⟨fun _ => ⟨ib, z3, fun _ => ⟨ib, fun _ => trivial, fun z => absurd hw z⟩, fun _ => trivial⟩, fun z => absurd trivial z⟩, Or.inl ?_⟩
      rw [if_pos hw, if_pos hw]
      cases decide (H.1 15 k = 1) with
      | true => rw [if_pos rfl]; exact ⟨_, _, rfl, rfl, n2 c⟩
      | false => rw [if_neg (fun z => by cases z)]; exact ⟨_, _, rfl, rfl, n2 c⟩
  · rintro s1 s2 ⟨c, rfl, rfl⟩
    have l : ¬ nI 40 < 40 := by decide
    rw [cd_319_5, cq_319_5, cd_584_27, cq_584_27]
    simp only [l, if_false]
    exact ⟨⟨False.elim, fun _ => trivial⟩, ⟨False.elim, fun _ => trivial⟩, _, _, rfl, rfl, rfl⟩
theorem inside_al (h : Sm q B N1 b N2) : cp_318_0 v1 N1 ∧ cp_584_0 v1 N2 ∧ caq q B b N1 N2 (cf_318_0 v1 N1) (cf_584_0 v1 N2) := by
  rcases Sm_0 h with ⟨hu, u1, u2, F1, Ft, Ff, Fs, F3, F4⟩ | ⟨u1, u2, F1, Fd, F3, F4⟩
  · obtain ⟨p, C, s, D, H, x, L, R, h1, h2, h3, h4, h5, h6⟩ := id hu
    obtain ⟨p1, c1⟩ := sp_in (v := v1) h3
    rcases c1 with ⟨k, hk, _, i1, j1⟩ | ⟨i1, j1⟩
    · obtain ⟨a1, a2, a3⟩ := ins_l h3 h4 v1
      refine ⟨by simp [cp_318_0, u1, u2, p1, i1, a1], by simp [cp_584_0, cp_584_21, cp_584_23, j1, F1, Ft, a2], caq_q h ⟨?_, ?_, ?_⟩⟩
      · simp [cf_318_0, u2, i1]
      · simp [cf_318_0, u2, i1, cf_584_0, cf_584_23, j1, Ft, a3]; rfl
      · simp [cf_318_0, u2, i1, cf_584_0, cf_584_23, j1, Ft, a3]
    · refine ⟨by simp [cp_318_0, u1, u2, p1, i1], by simp [cp_584_0, cp_584_21, j1, F1, Ff], caq_q h ⟨?_, ?_, ?_⟩⟩
      · simp [cf_318_0, u2, i1]
      · simp [cf_318_0, u2, i1, cf_584_0, cf_584_21, j1, Ff]
      · simp [cf_318_0, u2, i1]
  · refine ⟨by simp [cp_318_0, u1, u2], by simp [cp_584_0, cp_584_21, F1, Fd], caq_q h ⟨?_, ?_, ?_⟩⟩
    · simp [cf_318_0, u2]
    · simp [cf_318_0, u2, cf_584_0, cf_584_21, Fd]
    · simp [cf_318_0, u2]
theorem both_c {a c x y : Nat} (ha : a < 2 ^ 31) (hc : c < 2 ^ 31) (hx : x < 2 ^ 31) (hy : y < 2 ^ 31) : cp_166_0 (nI x) (nI y) (nI a) (nI c) ∧ cf_166_0 (nI x) (nI y) (nI a) (nI c) = decide ((x = a ∧ y = c) ∨ (x = c ∧ y = a)) := by
  have q1 : (nI x = nI a) = (x = a) := propext (nI_eq hx ha)
  have q2 : (nI y = nI c) = (y = c) := propext (nI_eq hy hc)
  have q3 : (nI x = nI c) = (x = c) := propext (nI_eq hx hc)
  have q4 : (nI y = nI a) = (y = a) := propext (nI_eq hy ha)
  refine ⟨⟨fun _ => ⟨fun _ => trivial, fun _ => trivial⟩, fun _ => trivial⟩, ?_⟩
  rw [cf_166_0, cf_166_10]
  simp only [q1, q2, q3, q4]
  by_cases w1 : x = a <;> by_cases w2 : y = c <;> by_cases w3 : x = c <;> by_cases w4 : y = a <;> simp [w1, w2, w3, w4]
theorem stack_c {e : Nat → Nat} {a c : Nat} (hn : pl_n e ≤ 40) (ha : a < 40) (hc : c < 40) (h15 : ∀ i, i < 240 → N.1 15 i = nI (pl_lab e i)) : cp_165_0 (nI a) (nI c) N ∧ cf_165_0 (nI a) (nI c) N = nI (cnt (pl_cep e a c) 192) := by
  rw [cp_165_0, cf_165_0, cp_165_5, cf_165_5]
  refine mz_lps (f := cq_165_5 (nI a) (nI c) N) (P := cd_165_5 (nI a) (nI c) N) 192 (fun k => (nI (cnt (pl_cep e a c) k), nI k)) (fun k hk => ?_) ?_ (k := 0) (Nat.zero_le _)
  · have x1 : nI k + 48 = nI (k + 48) := by rw [show (48 : Int32) = nI 48 from rfl, nI_add]
    have l : nI (k + 48) < 240 := (nI_ltI (b := 240) (by omega) (by omega)).mpr (by omega)
    have g1 : mz_gI N 15 (nI k) = nI (pl_lab e k) := by rw [gI_a, nI_clamp (by omega)]; exact h15 k (by omega)
    have g2 : mz_gI N 15 (nI (k + 48)) = nI (pl_lab e (k + 48)) := by rw [gI_a, nI_clamp (by omega)]; exact h15 _ (by omega)
    have b1' := pl_lab_lt (e := e) (c := k) (by omega)
    have b2 := pl_lab_lt (e := e) (c := k + 48) (by omega)
    obtain ⟨d1, d2⟩ := both_c (a := a) (c := c) (x := pl_lab e k) (y := pl_lab e (k + 48)) (by omega) (by omega) (by omega) (by omega)
    rw [cd_165_5, cq_165_5]
    simp only [x1, l, if_true, g1, g2, d2]
    refine ⟨⟨fun _ => ⟨ib_n (by omega) (by omega), ib_n (by omega) (by omega), d1, fun _ => trivial, fun _ => trivial⟩, fun z => absurd trivial z⟩, ?_⟩
    by_cases w : (pl_lab e k = a ∧ pl_lab e (k + 48) = c) ∨ (pl_lab e k = c ∧ pl_lab e (k + 48) = a)
    · rw [if_pos (decide_eq_true w), cf_165_44, nI_1, nI_1, cnt_s (by unfold pl_cep; exact decide_eq_true w)]
    · rw [if_neg (fun z => w (of_decide_eq_true z)), cf_165_44, nI_1 k, cnt_sn (by unfold pl_cep; exact decide_eq_false w)]
  · have l : ¬ nI 192 + 48 < 240 := by decide
    rw [cd_165_5, cq_165_5]
    simp only [l, if_false]
    exact ⟨⟨False.elim, fun _ => trivial⟩, trivial⟩
theorem walls_c {e : Nat → Nat} {a c kd : Nat} (hn : pl_n e ≤ 40) (ha : a < 40) (hc : c < 40) (hk : kd < 4) (h15 : ∀ i, i < 240 → N.1 15 i = nI (pl_lab e i)) (h3 : ∀ i, i < 550 → N.1 3 i = nI (e i) ∧ e i < 4) : cp_167_0 (nI a) (nI c) (nI kd) N ∧ cf_167_0 (nI a) (nI c) (nI kd) N = nI (cnt (pl_btp e kd a c) 550) := by
  rw [cp_167_0, cf_167_0, cp_167_6, cf_167_6]
  refine mz_lps (f := cq_167_6 (nI a) (nI c) (nI kd) N) (P := cd_167_6 (nI a) (nI c) (nI kd) N) 550 (fun k => (nI (cnt (pl_btp e kd a c) k), nI k)) (fun k hk' => ?_) ?_ (k := 0) (Nat.zero_le _)
  · have l : nI k < 550 := (nI_ltI (b := 550) (by omega) (by omega)).mpr hk'
    have hm : k % 110 < 110 := Nat.mod_lt _ (by omega)
    have x1 : mz_irem (nI k) 110 = nI (k % 110) := irem_n (d := 110) (by omega) (by omega) (by omega)
    have x2 : nI k / 110 = nI (k / 110) := pk_div (d := 110) (by omega) (by omega) (by omega)
    have g3 : mz_gI N 3 (nI k) = nI (e k) := by rw [gI_a, nI_clamp (by omega)]; exact (h3 k hk').1
    have e4 := (h3 k hk').2
    have q3 : (nI (e k) = nI kd) = (e k = kd) := propext (nI_eq (by omega) (by omega))
    obtain ⟨f1, f2, _, _, f5, _⟩ := ge_e (k % 110) hm
    have gb := ge_b (k % 110) hm
    have m1 : (nO 4 (ge_sd (k % 110)) = -1) = (¬ ge_sd (k % 110) < 4) := propext (nO_m1 (by omega))
    have s4 : ge_sd (k % 110) ≤ 4 := by unfold ge_sd; repeat (split <;> try omega)
    have ib : mz_ib (nI k) 550 := ib_n hk' (by omega)
    rw [cd_167_6, cq_167_6]
    simp only [l, if_true, x1, x2, g3, q3, f1, f2, f5, m1]
    by_cases w : e k = kd
    · by_cases z : ge_sd (k % 110) < 4
      · rw [if_pos w, if_neg (fun y => y z), cf_167_88, nI_1 k, cnt_sn (by unfold pl_btp; exact decide_eq_false (fun y => by omega))]
        exact ⟨⟨fun _ => ⟨ib, fun _ => ⟨fun y => absurd z y, fun _ => trivial⟩, fun _ => trivial⟩, fun y => absurd trivial y⟩, rfl⟩
      · obtain ⟨b1', b2, _⟩ := gb.1 (by omega)
        have y1 : nI (k / 110) * 48 + nO 48 (ge_bf (k % 110)) = nI (ge_ca k) := by rw [nO_lt b1', show (48 : Int32) = nI 48 from rfl, pk_mul, nI_add]; unfold ge_ca; rw [Nat.mul_comm]
        have y2 : nI (k / 110) * 48 + nO 48 (ge_bh (k % 110)) = nI (ge_cb k) := by rw [nO_lt b2, show (48 : Int32) = nI 48 from rfl, pk_mul, nI_add]; unfold ge_cb; rw [Nat.mul_comm]
        have ca : ge_ca k < 240 := by unfold ge_ca; omega
        have cb : ge_cb k < 240 := by unfold ge_cb; omega
        have g1 : mz_gI N 15 (nI (ge_ca k)) = nI (pl_lab e (ge_ca k)) := by rw [gI_a, nI_clamp (by omega)]; exact h15 _ ca
        have g2 : mz_gI N 15 (nI (ge_cb k)) = nI (pl_lab e (ge_cb k)) := by rw [gI_a, nI_clamp (by omega)]; exact h15 _ cb
        have p1 := pl_lab_lt (e := e) ca
        have p2 := pl_lab_lt (e := e) cb
        obtain ⟨d1, d2⟩ := both_c (a := a) (c := c) (x := pl_lab e (ge_ca k)) (y := pl_lab e (ge_cb k)) (by omega) (by omega) (by omega) (by omega)
        simp only [y1, y2, g1, g2, d2]
        rw [if_pos w, if_pos z]
        refine ⟨⟨fun _ => ⟨ib, fun _ => ⟨fun _ => ⟨ib_n ca (by omega), ib_n cb (by omega), d1, fun _ => trivial, fun _ => trivial⟩, fun _ => trivial⟩, fun _ => trivial⟩, fun y => absurd trivial y⟩, ?_⟩
        by_cases v : (pl_lab e (ge_ca k) = a ∧ pl_lab e (ge_cb k) = c) ∨ (pl_lab e (ge_ca k) = c ∧ pl_lab e (ge_cb k) = a)
        · rw [if_pos (decide_eq_true v), cf_167_88, nI_1, nI_1, cnt_s (by unfold pl_btp; exact decide_eq_true ⟨by omega, w, v⟩)]
        · rw [if_neg (fun y => v (of_decide_eq_true y)), cf_167_88, nI_1 k, cnt_sn (by unfold pl_btp; exact decide_eq_false (fun y => v y.2.2))]
    · rw [if_neg w, cf_167_88, nI_1 k, cnt_sn (by unfold pl_btp; exact decide_eq_false (fun y => w y.2.1))]
      exact ⟨⟨fun _ => ⟨ib, fun y => absurd y w, fun _ => trivial⟩, fun y => absurd trivial y⟩, rfl⟩
  · have l : ¬ nI 550 < 550 := by decide
    rw [cd_167_6, cq_167_6]
    simp only [l, if_false]
    exact ⟨⟨False.elim, fun _ => trivial⟩, trivial⟩
theorem between_al (h : Sm q B N1 b N2) : cp_164_0 v1 v2 v3 N1 ∧ cp_492_0 v1 v2 v3 N2 ∧ caq q B b N1 N2 (cf_164_0 v1 v2 v3 N1) (cf_492_0 v1 v2 v3 N2) := by
  obtain ⟨p3, c3⟩ := in_l 0 3 (by omega) (by omega) v3 (w0 := 0) (w := 3) (g0 := 0) (g := 3) rfl rfl rfl rfl
  rcases Sm_0 h with ⟨hu, u1, u2, F1, Ft, Ff, Fs, F3, F4⟩ | ⟨u1, u2, F1, Fd, F3, F4⟩
  · obtain ⟨p, C, s, D, H, x, L, R, h1, h2, h3, h4, h5, h6⟩ := id hu
    obtain ⟨p1, c1⟩ := sp_in (v := v1) h3
    obtain ⟨p2, c2⟩ := sp_in (v := v2) h3
    rcases c1 with ⟨a, ha, rfl, i1, j1⟩ | ⟨i1, j1⟩
    · rcases c2 with ⟨c, hc, rfl, i2, j2⟩ | ⟨i2, j2⟩
      · rcases c3 with ⟨kd, _, hk, rfl, i3, j3⟩ | ⟨i3, j3⟩
        · have hn := h3.iv.pl.n
          have h15 := h3.lr.pl.1.2.1.1
          obtain ⟨s1, s2⟩ := stack_c (e := H.1 0) (a := a) (c := c) hn (by omega) (by omega) h15
          obtain ⟨t1, t2⟩ := walls_c (e := H.1 0) (a := a) (c := c) (kd := kd) hn (by omega) (by omega) (by omega) h15 (fun i hi => ⟨h3.cs.ks.kc.1 i hi, h3.iv.pl.e4 i hi⟩)
          have y1 : 4 * (40 * nI a + nI c) + nI kd = nI (4 * (40 * a + c) + kd) := by rw [show (4 : Int32) = nI 4 from rfl, show (40 : Int32) = nI 40 from rfl, pk_mul, nI_add, pk_mul, nI_add]
          have ib : mz_ib (nI (4 * (40 * a + c) + kd)) 6400 := ib_n (by omega) (by omega)
          have g : mz_gI (mz_pI N2 232 0 0) 239 (nI (4 * (40 * a + c) + kd)) = nI (pl_bt (H.1 0) kd a c) := by rw [gI_a, nI_clamp (by omega)]; exact h3.lr.pl.2.2.2.2.2.1 a c kd ha hc (by omega)
          have q1 : (nI a = nI c) = (a = c) := propext (nI_eq (by omega) (by omega))
          have q2 : (nI kd = 0) = (kd = 0) := propext (nI_eq0 (by omega))
          have e1 : cf_164_0 (nI a) (nI c) (nI kd) N1 = (0, nI (pl_bt (H.1 0) kd a c)) := by
            simp only [cf_164_0, u2, i1, i2, i3, if_true, q1, q2, s2, t2]
            unfold pl_bt
            by_cases w : a = c
            · rw [if_pos w, if_pos w]; rfl
            · rw [if_neg w, if_neg w]
              by_cases z : kd = 0
              · rw [if_pos z, if_pos z]
              · rw [if_neg z, if_neg z]
          have e2 : cf_492_0 (nI a) (nI c) (nI kd) N2 = (nI (pl_bt (H.1 0) kd a c), mz_pI N2 232 0 0) := by simp only [cf_492_0, cf_492_50, j1, j2, j3, if_true, Ft, Bool.false_eq_true, if_false, y1, g]
          refine ⟨by simp [cp_164_0, u1, u2, p1, p2, p3, i1, i2, i3, s1, t1], by simp [cp_492_0, cp_492_50, j1, j2, j3, F1, Ft, y1, ib], caq_q h ⟨?_, ?_, ?_⟩⟩
          · rw [e1]; exact Nat.zero_le _
          · rw [e1, e2]; rfl
          · rw [e1, e2]; intro _; rfl
        · refine ⟨by simp [cp_164_0, u1, u2, p1, p2, p3, i1, i2, i3], by simp [cp_492_0, cp_492_49, cp_492_50, j1, j2, j3, F1, Ff], caq_q h ⟨?_, ?_, ?_⟩⟩
          · simp [cf_164_0, u2, i1, i2, i3]
          · simp [cf_164_0, u2, i1, i2, i3, cf_492_0, cf_492_49, cf_492_50, j1, j2, j3, Ff]
          · simp [cf_164_0, u2, i1, i2, i3]
      · refine ⟨by simp [cp_164_0, u1, u2, p1, p2, i1, i2], by simp [cp_492_0, cp_492_49, cp_492_50, j1, j2, F1, Ff], caq_q h ⟨?_, ?_, ?_⟩⟩
        · simp [cf_164_0, u2, i1, i2]
        · simp [cf_164_0, u2, i1, i2, cf_492_0, cf_492_49, cf_492_50, j1, j2, Ff]
        · simp [cf_164_0, u2, i1, i2]
    · refine ⟨by simp [cp_164_0, u1, u2, p1, i1], by simp [cp_492_0, cp_492_49, cp_492_50, j1, F1, Ff], caq_q h ⟨?_, ?_, ?_⟩⟩
      · simp [cf_164_0, u2, i1]
      · simp [cf_164_0, u2, i1, cf_492_0, cf_492_49, cf_492_50, j1, Ff]
      · simp [cf_164_0, u2, i1]
  · refine ⟨by simp [cp_164_0, u1, u2], by simp [cp_492_0, cp_492_49, cp_492_50, F1, Fd], caq_q h ⟨?_, ?_, ?_⟩⟩
    · simp [cf_164_0, u2]
    · simp [cf_164_0, u2, cf_492_0, cf_492_49, cf_492_50, Fd]
    · simp [cf_164_0, u2]
end In
