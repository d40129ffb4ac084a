/-! PURE (50zzzzzzq): a worker's tickets are chosen (339 against 565_44). -/
def Chs (N1 N2 : mz_N) (u : Nat) (t kd : Nat → Nat) (wk : Nat → Int32) (c : Nat) (pl : Nat → Nat) (wn : Nat → Int32) (M1 M2 : mz_N) : Prop := (c ≤ 6) ∧ (fq [122, 142] [] N1 M1) ∧ (fq [293, 299, 301] [] N2 M2) ∧ (∀ i, i < c → pl i < 16 ∧ t (pl i) = 1 ∧ wk (pl i) = -1) ∧ (∀ i j, i < c → j < c → pl i = pl j → i = j) ∧ (∀ i, i < c → M1.1 142 i = nI (pl i) ∧ M2.1 301 i = nI (pl i) ∧ M2.1 299 i = nI i) ∧ (tkW M1 M2 t kd wn) ∧ (∀ j, ((∃ i, i < c ∧ pl i = j) ∧ wn j = nI u) ∨ ((∀ i, i < c → pl i ≠ j) ∧ wn j = wk j))
theorem Chs.c6 {N1 N2 : mz_N} {u : Nat} {t kd : Nat → Nat} {wk : Nat → Int32} {c : Nat} {pl : Nat → Nat} {wn : Nat → Int32} {M1 M2 : mz_N} (h : Chs N1 N2 u t kd wk c pl wn M1 M2) : c ≤ 6 := h.1
theorem Chs.f1 {N1 N2 : mz_N} {u : Nat} {t kd : Nat → Nat} {wk : Nat → Int32} {c : Nat} {pl : Nat → Nat} {wn : Nat → Int32} {M1 M2 : mz_N} (h : Chs N1 N2 u t kd wk c pl wn M1 M2) : fq [122, 142] [] N1 M1 := h.2.1
theorem Chs.f2 {N1 N2 : mz_N} {u : Nat} {t kd : Nat → Nat} {wk : Nat → Int32} {c : Nat} {pl : Nat → Nat} {wn : Nat → Int32} {M1 M2 : mz_N} (h : Chs N1 N2 u t kd wk c pl wn M1 M2) : fq [293, 299, 301] [] N2 M2 := h.2.2.1
theorem Chs.p {N1 N2 : mz_N} {u : Nat} {t kd : Nat → Nat} {wk : Nat → Int32} {c : Nat} {pl : Nat → Nat} {wn : Nat → Int32} {M1 M2 : mz_N} (h : Chs N1 N2 u t kd wk c pl wn M1 M2) : ∀ i, i < c → pl i < 16 ∧ t (pl i) = 1 ∧ wk (pl i) = -1 := h.2.2.2.1
theorem Chs.d {N1 N2 : mz_N} {u : Nat} {t kd : Nat → Nat} {wk : Nat → Int32} {c : Nat} {pl : Nat → Nat} {wn : Nat → Int32} {M1 M2 : mz_N} (h : Chs N1 N2 u t kd wk c pl wn M1 M2) : ∀ i j, i < c → j < c → pl i = pl j → i = j := h.2.2.2.2.1
theorem Chs.a {N1 N2 : mz_N} {u : Nat} {t kd : Nat → Nat} {wk : Nat → Int32} {c : Nat} {pl : Nat → Nat} {wn : Nat → Int32} {M1 M2 : mz_N} (h : Chs N1 N2 u t kd wk c pl wn M1 M2) : ∀ i, i < c → M1.1 142 i = nI (pl i) ∧ M2.1 301 i = nI (pl i) ∧ M2.1 299 i = nI i := h.2.2.2.2.2.1
theorem Chs.w {N1 N2 : mz_N} {u : Nat} {t kd : Nat → Nat} {wk : Nat → Int32} {c : Nat} {pl : Nat → Nat} {wn : Nat → Int32} {M1 M2 : mz_N} (h : Chs N1 N2 u t kd wk c pl wn M1 M2) : tkW M1 M2 t kd wn := h.2.2.2.2.2.2.1
theorem Chs.v {N1 N2 : mz_N} {u : Nat} {t kd : Nat → Nat} {wk : Nat → Int32} {c : Nat} {pl : Nat → Nat} {wn : Nat → Int32} {M1 M2 : mz_N} (h : Chs N1 N2 u t kd wk c pl wn M1 M2) : ∀ j, ((∃ i, i < c ∧ pl i = j) ∧ wn j = nI u) ∨ ((∀ i, i < c → pl i ≠ j) ∧ wn j = wk j) := h.2.2.2.2.2.2.2
section Ch
variable {N1 N2 M1 M2 : mz_N} {u c p : Nat} {t kd pl : Nat → Nat} {wk wn num : Nat → Int32}
theorem tkB_f {A B C D : List Nat} (h : tkB N1 N2 t num) (f1 : fq A B N1 M1) (f2 : fq C D N2 M2) (a1 : A.contains 123 = false) (a2 : A.contains 117 = false) (a3 : C.contains 287 = false) (a4 : D.contains 292 = false) : tkB M1 M2 t num :=
  ⟨fun j hj => by rw [f1.1 123 a1, f1.1 117 a2]; exact h.c j hj, fun j hj => by rw [f2.1 287 a3, f2.2 292 a4]; exact h.r j hj, h.b⟩
theorem chs_add (hu : u < 2) (h : Chs N1 N2 u t kd wk c pl wn M1 M2) (hp : p < 16) (tp : t p = 1) (wp : wn p = -1) (hc : c < 6) : Chs N1 N2 u t kd wk (c + 1) (up pl c p) (up wn p (nI u)) (mz_wI (mz_wI M1 122 (nI p) (nI u)) 142 (nI c) (nI p)) (mz_wI (mz_wI (mz_wI M2 293 (nI p) (nI u)) 301 (nI c) (nI p)) 299 (nI c) (nI c)) := by
  have ep : (nI p).toNatClampNeg = p := nI_clamp (by omega)
  have ec : (nI c).toNatClampNeg = c := nI_clamp (by omega)
  have g1 : fq [122, 142] [] M1 (mz_wI (mz_wI M1 122 (nI p) (nI u)) 142 (nI c) (nI p)) := fq_wI (fq_wI (fq_refl _ _ _) rfl) rfl
  have g2 : fq [293, 299, 301] [] M2 (mz_wI (mz_wI (mz_wI M2 293 (nI p) (nI u)) 301 (nI c) (nI p)) 299 (nI c) (nI c)) := fq_wI (fq_wI (fq_wI (fq_refl _ _ _) rfl) rfl) rfl
  have x122 : ∀ j, (mz_wI (mz_wI M1 122 (nI p) (nI u)) 142 (nI c) (nI p)).1 122 j = if j = p then nI u else M1.1 122 j := fun j => by
    rw [wI_s, sI_n (by decide), wI_s, sI_e, ep, up_a]
  have x142 : ∀ j, (mz_wI (mz_wI M1 122 (nI p) (nI u)) 142 (nI c) (nI p)).1 142 j = if j = c then nI p else M1.1 142 j := fun j => by
    rw [wI_s, sI_e, ec, up_a, wI_s, sI_n (by decide)]
  have x293 : ∀ j, (mz_wI (mz_wI (mz_wI M2 293 (nI p) (nI u)) 301 (nI c) (nI p)) 299 (nI c) (nI c)).1 293 j = if j = p then nI u else M2.1 293 j := fun j => by
    rw [wI_s, sI_n (by decide), wI_s, sI_n (by decide), wI_s, sI_e, ep, up_a]
  have x301 : ∀ j, (mz_wI (mz_wI (mz_wI M2 293 (nI p) (nI u)) 301 (nI c) (nI p)) 299 (nI c) (nI c)).1 301 j = if j = c then nI p else M2.1 301 j := fun j => by
    rw [wI_s, sI_n (by decide), wI_s, sI_e, ec, up_a, wI_s, sI_n (by decide)]
  have x299 : ∀ j, (mz_wI (mz_wI (mz_wI M2 293 (nI p) (nI u)) 301 (nI c) (nI p)) 299 (nI c) (nI c)).1 299 j = if j = c then nI c else M2.1 299 j := fun j => by
    rw [wI_s, sI_e, ec, up_a, wI_s, sI_n (by decide), wI_s, sI_n (by decide)]
  generalize mz_wI (mz_wI M1 122 (nI p) (nI u)) 142 (nI c) (nI p) = K1 at g1 x122 x142 ⊢
  generalize mz_wI (mz_wI (mz_wI M2 293 (nI p) (nI u)) 301 (nI c) (nI p)) 299 (nI c) (nI c) = K2 at g2 x293 x301 x299 ⊢
  have nw : (∀ i, i < c → pl i ≠ p) ∧ wk p = -1 := by
    rcases h.v p with ⟨_, y⟩ | ⟨y1, y2⟩
    · rw [wp] at y
      exact absurd y.symm (nI_neg2 (k := u) (by omega)).1
    · exact ⟨y1, by rw [← y2]; exact wp⟩
  have un : ¬ nI u < 0 := (nI_neg2 (k := u) (by omega)).2
  refine ⟨by omega, fq_trans h.f1 g1, fq_trans h.f2 g2, fun i hi => ?_, fun i j hi hj e => ?_, fun i hi => ?_, ?_, fun j => ?_⟩
  · rw [up_d]
    by_cases z : i = c
    · rw [if_pos z]; exact ⟨hp, tp, nw.2⟩
    · rw [if_neg z]; exact h.p i (by omega)
  · rw [up_d, up_d] at e
    by_cases z : i = c
    · by_cases y : j = c
      · rw [z, y]
      · rw [if_pos z, if_neg y] at e; exact absurd e.symm (nw.1 j (by omega))
    · by_cases y : j = c
      · rw [if_neg z, if_pos y] at e; exact absurd e (nw.1 i (by omega))
      · rw [if_neg z, if_neg y] at e; exact h.d i j (by omega) (by omega) e
  · rw [x142, x301, x299, up_d]
    by_cases z : i = c
    · rw [if_pos z, if_pos z, if_pos z, if_pos z, z]; exact ⟨rfl, rfl, rfl⟩
    · rw [if_neg z, if_neg z, if_neg z, if_neg z]; exact h.a i (by omega)
  · obtain ⟨w1, w2, w3, w4, w5⟩ := h.w
    refine ⟨fun j hj => ?_, fun j hj => ?_, w3, w4, fun j hj tj => ?_⟩
    · rw [g1.1 123 rfl, g1.1 120 rfl, x122, up_d]
      refine ⟨(w1 j hj).1, fun tj => ⟨((w1 j hj).2 tj).1, ?_⟩⟩
      by_cases z : j = p
      · rw [if_pos z, if_pos z]
      · rw [if_neg z, if_neg z]; exact ((w1 j hj).2 tj).2
    · rw [g2.1 287 rfl, g2.1 290 rfl, x293, up_d]
      refine ⟨(w2 j hj).1, fun tj => ⟨((w2 j hj).2 tj).1, ?_⟩⟩
      by_cases z : j = p
      · rw [if_pos z, if_pos z]
      · rw [if_neg z, if_neg z]; exact ((w2 j hj).2 tj).2
    · rw [up_d]
      by_cases z : j = p
      · rw [if_pos z]; exact Or.inr un
      · rw [if_neg z]; exact w5 j hj tj
  · rw [up_d]
    by_cases z : j = p
    · rw [if_pos z]
      exact Or.inl ⟨⟨c, by omega, by rw [up_d, if_pos rfl, z]⟩, rfl⟩
    · rw [if_neg z]
      rcases h.v j with ⟨⟨i, y1, y2⟩, y3⟩ | ⟨y1, y2⟩
      · exact Or.inl ⟨⟨i, by omega, by rw [up_d, if_neg (by omega)]; exact y2⟩, y3⟩
      · refine Or.inr ⟨fun i hi => ?_, y2⟩
        rw [up_d]
        by_cases y : i = c
        · rw [if_pos y]; exact fun e => z e.symm
        · rw [if_neg y]; exact y1 i (by omega)
/-- the next place by number, both sides -/
theorem nxt_p (h : tkB N1 N2 t num) (hd : ∀ i j, i < 16 → j < 16 → t i = 1 → t j = 1 → num i = num j → i = j) (v : Int32) (k : Nat) (hk : k + abv t num v 16 ≤ 16) : cp_335_0 v N1 ∧ cp_564_0 v.toInt64 N2 ∧ ∃ c, cf_335_0 v N1 = nO 16 c ∧ cf_564_0 v.toInt64 N2 = nO 16 c ∧ ((c < 16 ∧ t c = 1 ∧ k + abv t num (num c) 16 + 1 ≤ 16) ∨ ¬ c < 16) := by
  obtain ⟨q1, q2, c, f1, f2, hc⟩ := pab h v
  refine ⟨q1, q2, c, f1, f2, ?_⟩
  rcases hc with ⟨d1, d2, d3, d4⟩ | ⟨d1, d2⟩
  · have := abv_s d1 d2 d3 d4 hd
    exact Or.inl ⟨d1, d2, by omega⟩
  · exact Or.inr d1
theorem chs_l (hu : u < 2) (hB : tkB N1 N2 t num) (hW : tkW N1 N2 t kd wk) (hst : ∀ k, k < 3 → N1.1 127 k = N2.1 306 k) (hd : ∀ i j, i < 16 → j < 16 → t i = 1 → t j = 1 → num i = num j → i = j) (he : ∀ c pl wn M1 M2, Chs N1 N2 u t kd wk c pl wn M1 M2 → cp_565_149 (nI u) (nI c) M2) :
    cp_339_0 (nI u) N1 ∧ cp_564_0 (-1) N2 ∧ cp_565_44 (nI u) 0 (cf_564_0 (-1) N2) N2 ∧ ∃ c pl wn M1 M2, cf_339_0 (nI u) N1 = (nI c, M1) ∧ cf_565_44 (nI u) 0 (cf_564_0 (-1) N2) N2 = cf_565_149 (nI u) (nI c) M2 ∧ Chs N1 N2 u t kd wk c pl wn M1 M2 := by
  have all : abv t num (-1) 16 ≤ 16 := by unfold abv; exact cnt_le _ _
  obtain ⟨p1, p2, p0, e1, e2, hp0⟩ := nxt_p hB hd (-1) 0 (by omega)
  have p2' : cp_564_0 (-1) N2 := p2
  have e2' : cf_564_0 (-1) N2 = nO 16 p0 := e2
  rw [cp_339_0, cf_339_0, e1, e2', cp_339_11, cf_339_11, cp_565_44, cf_565_44]
  have key := mz_lp2n (f := cq_339_11 (nI u)) (P := cd_339_11 (nI u)) (g := cq_565_44 (nI u)) (P2 := cd_565_44 (nI u)) (Q := fun (r1 r2 : Int32 × mz_N) => ∃ c pl wn M1 M2, r1 = (nI c, M1) ∧ r2 = cf_565_149 (nI u) (nI c) M2 ∧ Chs N1 N2 u t kd wk c pl wn M1 M2) 16 (fun k s1 s2 => ∃ c pl wn M1 M2 p, s1 = (nI c, nO 16 p, nI k, M1) ∧ s2 = (nI c, nO 16 p, M2) ∧ Chs N1 N2 u t kd wk c pl wn M1 M2 ∧ ((p < 16 ∧ t p = 1 ∧ k + abv t num (num p) 16 + 1 ≤ 16) ∨ ¬ p < 16)) (k := 0) (s := (0, nO 16 p0, 0, N1)) (s2 := (0, nO 16 p0, N2)) ?_ ?_ (Nat.zero_le _) ⟨0, fun _ => 0, wk, N1, N2, p0, rfl, rfl, ⟨Nat.zero_le _, fq_refl _ _ _, fq_refl _ _ _, fun i hi => absurd hi (Nat.not_lt_zero _), fun i j hi => absurd hi (Nat.not_lt_zero _), fun i hi => absurd hi (Nat.not_lt_zero _), hW, fun j => Or.inr ⟨fun i hi => absurd hi (Nat.not_lt_zero _), rfl⟩⟩, hp0⟩
  · exact ⟨⟨p1, key.1⟩, p2', key.2.1, key.2.2⟩
  · rintro k s1 s2 hk ⟨c, pl, wn, M1, M2, p, rfl, rfl, hC, hp⟩
    have l : nI k < 16 := (nI_ltI (b := 16) (by omega) (by omega)).mpr hk
    have c6 := hC.c6
    by_cases hp6 : p < 16
    · have hp' : t p = 1 ∧ k + abv t num (num p) 16 + 1 ≤ 16 := by
        rcases hp with y | y
        · exact y.2
        · exact absurd hp6 y
      obtain ⟨tp, hk2⟩ := hp'
      obtain ⟨nm, nn⟩ := nI_neg2 (k := p) (by omega)
      have ib : mz_ib (nI p) 16 := ib_n hp6 (by omega)
      have cl : (nI p).toNatClampNeg = p := nI_clamp (by omega)
      rw [cd_339_11, cq_339_11, cd_565_44, cq_565_44, nO_lt hp6]
      simp only [l, if_true]
      rw [if_neg nm, if_neg nn]
      by_cases hc : c < 6
      · have lc : nI c < 6 := (nI_ltI (b := 6) (by omega) (by omega)).mpr hc
        rw [if_pos lc, if_pos lc]
        -- what happens behind the choice
        have NX : ∀ K1 K2 c' pl' wn', Chs N1 N2 u t kd wk c' pl' wn' K1 K2 → cp_339_75 (nI u) (nI c') (nI p) (nI k) K1 ∧ cp_565_135 (nI u) (nI c') (nI p) K2 ∧ ∃ a b, cf_339_75 (nI u) (nI c') (nI p) (nI k) K1 = .inl a ∧ cf_565_135 (nI u) (nI c') (nI p) K2 = .inl b ∧ ∃ c pl wn M1 M2 p, a = (nI c, nO 16 p, nI (k + 1), M1) ∧ b = (nI c, nO 16 p, M2) ∧ Chs N1 N2 u t kd wk c pl wn M1 M2 ∧ ((p < 16 ∧ t p = 1 ∧ k + 1 + abv t num (num p) 16 + 1 ≤ 16) ∨ ¬ p < 16) := fun K1 K2 c' pl' wn' hK => by
          have hB' := tkB_f hB hK.f1 hK.f2 rfl rfl rfl rfl
          have g117 : mz_gI K1 117 (nI p) = num p := by rw [gI_a, cl]; exact (hB'.c p hp6).2 tp
          have g292 : mz_gL K2 292 (nI p) = (num p).toInt64 := by rw [gL_a, cl]; exact (hB'.r p hp6).2 tp
          obtain ⟨q1, q2, p', f1, f2, hp''⟩ := nxt_p hB' hd (num p) (k + 1) (by omega)
          rw [cp_339_75, cf_339_75, cp_565_135, cf_565_135, g117, g292, f1, f2]
          exact ⟨⟨ib, q1⟩, ⟨ib, q2⟩, _, _, rfl, rfl, c', pl', wn', K1, K2, p', by rw [nI_1], rfl, hK, hp''⟩
        have k3 : kd p ≤ 3 := hC.w.k p hp6 tp
        have g122 : mz_gI M1 122 (nI p) = wn p := by rw [gI_a, cl]; exact ((hC.w.c p hp6).2 tp).2
        have g120 : mz_gI M1 120 (nI p) = nI (kd p) := by rw [gI_a, cl]; exact ((hC.w.c p hp6).2 tp).1
        have g293 : mz_gI M2 293 (nI p) = wn p := by rw [gI_a, cl]; exact ((hC.w.r p hp6).2 tp).2
        have g290 : mz_gI M2 290 (nI p) = nI (kd p) := by rw [gI_a, cl]; exact ((hC.w.r p hp6).2 tp).1
        have ic : mz_ib (nI c) 6 := ib_n hc (by omega)
        obtain ⟨n1, n2, n3⟩ := NX M1 M2 c pl wn hC
        -- stocked
        have ST : ∃ sb, cp_340_0 (nI (kd p)) M1 ∧ cf_340_0 (nI (kd p)) M1 = sb ∧ (∀ Z : Prop, (cp_565_95 sb (nI u) (nI c) (nI p) M2 → ((nI (kd p) = 3 → cp_565_90 (nI u) (nI c) (nI p) M2) ∧ (¬ (nI (kd p) = 3) → ((mz_ib (nI p) 16) ∧ ((mz_ib (mz_irem (nI (kd p)) 3) 3) ∧ ((mz_ib (nI p) 16) ∧ ((cp_566_0 (nI (kd p)) M2) ∧ (((cf_566_0 (nI (kd p)) M2) < (mz_gI M2 306 (mz_irem (nI (kd p)) 3)) → (cp_565_90 (nI u) (nI c) (nI p) M2)) ∧ (¬ ((cf_566_0 (nI (kd p)) M2) < (mz_gI M2 306 (mz_irem (nI (kd p)) 3))) → (cp_565_95 false (nI u) (nI c) (nI p) M2)))))))))) ∧ (if nI (kd p) = 3 then cf_565_90 (nI u) (nI c) (nI p) M2 else if (cf_566_0 (nI (kd p)) M2) < (mz_gI M2 306 (mz_irem (nI (kd p)) 3)) then cf_565_90 (nI u) (nI c) (nI p) M2 else cf_565_95 false (nI u) (nI c) (nI p) M2) = cf_565_95 sb (nI u) (nI c) (nI p) M2) := by
          by_cases w3 : kd p = 3
          · have e3 : nI (kd p) = 3 := by rw [w3]; rfl
            have l3 : ¬ nI (kd p) < 3 := by rw [e3]; decide
            refine ⟨true, ?_, ?_, fun Z => ⟨fun z => ⟨fun _ => z, fun y => absurd e3 y⟩, ?_⟩⟩
            · rw [cp_340_0]; exact ⟨fun z => absurd z l3, fun _ => trivial⟩
            · rw [cf_340_0, if_neg l3]
            · rw [if_pos e3]; rfl
          · have e3 : ¬ nI (kd p) = 3 := fun z => w3 ((nI_eq (b := 3) (by omega) (by omega)).mp z)
            have l3 : nI (kd p) < 3 := (nI_ltI (b := 3) (by omega) (by omega)).mpr (by omega)
            obtain ⟨s1, s2, cc, s3, s4, s5⟩ := stk_l hC.w (show kd p < 3 by omega)
            have rm : mz_irem (nI (kd p)) 3 = nI (kd p) := by
              rw [show (3 : Int32) = nI 3 from rfl, irem_n (by omega) (by omega) (by omega), Nat.mod_eq_of_lt (by omega)]
            have g306 : mz_gI M2 306 (nI (kd p)) = mz_gI M1 127 (nI (kd p)) := by
              rw [gI_a, gI_a, nI_clamp (by omega), hC.f2.1 306 rfl, hC.f1.1 127 rfl]
              exact (hst (kd p) (by omega)).symm
            have ib3 : mz_ib (nI (kd p)) 3 := ib_n (by omega) (by omega)
            rw [rm, g306, s4]
            by_cases y : nI cc < mz_gI M1 127 (nI (kd p))
            · refine ⟨true, ?_, ?_, fun Z => ⟨fun z => ⟨fun y => absurd y e3, fun _ => ⟨ib, ib3, ib, s2, fun _ => z, fun v => absurd y v⟩⟩, ?_⟩⟩
              · rw [cp_340_0]; exact ⟨fun _ => s1, fun z => absurd l3 z⟩
              · rw [cf_340_0, if_pos l3, s5, decide_eq_true y]
              · rw [if_neg e3, if_pos y]; rfl
            · refine ⟨false, ?_, ?_, fun Z => ⟨fun z => ⟨fun y => absurd y e3, fun _ => ⟨ib, ib3, ib, s2, fun v => absurd v y, fun _ => z⟩⟩, ?_⟩⟩
              · rw [cp_340_0]; exact ⟨fun _ => s1, fun z => absurd l3 z⟩
              · rw [cf_340_0, if_pos l3, s5, decide_eq_false y]
              · rw [if_neg e3, if_neg y]
        obtain ⟨sb, t1, t2, t3⟩ := ST
        obtain ⟨t3, t4⟩ := t3 True
        rw [g120, g290, t4, g122, t2, cf_565_95, g293]
        rw [cp_565_95, g293] at t3
        by_cases w : wn p = -1
        · have wl : wn p < 0 := by rw [w]; decide
          rw [if_pos w, if_pos wl]
          cases sb with
          | true =>
            obtain ⟨m1, m2, m3⟩ := NX _ _ _ _ _ (chs_add hu hC hp6 tp w hc)
            rw [if_pos rfl, if_pos rfl, nI_1]
            refine ⟨⟨fun _ => ⟨fun z => absurd z nm, fun _ => ⟨fun _ => ⟨ib, fun _ => ⟨ib, t1, fun _ => ⟨ib, ic, m1⟩, fun z => absurd rfl z⟩, fun z => absurd w z⟩, fun z => absurd lc z⟩⟩, fun z => absurd trivial z⟩, ⟨fun z => absurd z nn, fun _ => ⟨fun _ => ⟨ib, t3 ⟨ib, fun _ => ⟨fun _ => ⟨ib, ic, ic, by rw [nI_1]; exact m2⟩, fun z => absurd rfl z⟩, fun z => absurd wl z⟩⟩, fun z => absurd lc z⟩⟩, Or.inl m3⟩
          | false =>
            have nf : ¬ (false = true) := fun z => by cases z
            rw [if_neg nf, if_neg nf]
            refine ⟨⟨fun _ => ⟨fun z => absurd z nm, fun _ => ⟨fun _ => ⟨ib, fun _ => ⟨ib, t1, fun z => absurd z nf, fun _ => n1⟩, fun z => absurd w z⟩, fun z => absurd lc z⟩⟩, fun z => absurd trivial z⟩, ⟨fun z => absurd z nn, fun _ => ⟨fun _ => ⟨ib, t3 ⟨ib, fun _ => ⟨fun z => absurd z nf, fun _ => n2⟩, fun z => absurd wl z⟩⟩, fun z => absurd lc z⟩⟩, Or.inl n3⟩
        · have wl : ¬ wn p < 0 := by
            rcases hC.w.w p hp6 tp with y | y
            · exact absurd y w
            · exact y
          rw [if_neg w, if_neg wl]
          exact ⟨⟨fun _ => ⟨fun z => absurd z nm, fun _ => ⟨fun _ => ⟨ib, fun z => absurd z w, fun _ => n1⟩, fun z => absurd lc z⟩⟩, fun z => absurd trivial z⟩, ⟨fun z => absurd z nn, fun _ => ⟨fun _ => ⟨ib, t3 ⟨ib, fun z => absurd z wl, fun _ => n2⟩⟩, fun z => absurd lc z⟩⟩, Or.inl n3⟩
      · have lc : ¬ nI c < 6 := fun z => hc ((nI_ltI (b := 6) (by omega) (by omega)).mp z)
        rw [if_neg lc, if_neg lc]
        have hq := he c pl wn M1 M2 hC
        exact ⟨⟨fun _ => ⟨fun z => absurd z nm, fun _ => ⟨fun z => absurd z lc, fun _ => trivial⟩⟩, fun z => absurd trivial z⟩, ⟨fun z => absurd z nn, fun _ => ⟨fun z => absurd z lc, fun _ => hq⟩⟩, Or.inr ⟨_, _, rfl, rfl, c, pl, wn, M1, M2, rfl, rfl, hC⟩⟩
    · have m0 : (-1 : Int32) < 0 := by decide
      have hq := he c pl wn M1 M2 hC
      rw [cd_339_11, cq_339_11, cd_565_44, cq_565_44, nO_ge hp6]
      simp only [l, if_true]
      rw [if_pos m0]
      exact ⟨⟨fun _ => ⟨fun _ => trivial, fun z => absurd trivial z⟩, fun z => absurd trivial z⟩, ⟨fun _ => hq, fun z => absurd m0 z⟩, Or.inr ⟨_, _, rfl, rfl, c, pl, wn, M1, M2, rfl, rfl, hC⟩⟩
  · rintro s1 s2 ⟨c, pl, wn, M1, M2, p, rfl, rfl, hC, hp⟩
    have l : ¬ nI 16 < 16 := by decide
    have m0 : (-1 : Int32) < 0 := by decide
    have hp6 : ¬ p < 16 := by
      rcases hp with y | y
      · have := y.2.2; omega
      · exact y
    have hq := he c pl wn M1 M2 hC
    rw [cd_339_11, cq_339_11, cd_565_44, cq_565_44, nO_ge hp6]
    simp only [l, if_false]
    rw [if_pos m0]
    exact ⟨⟨False.elim, fun _ => trivial⟩, ⟨fun _ => hq, fun z => absurd m0 z⟩, _, _, rfl, rfl, c, pl, wn, M1, M2, rfl, rfl, hC⟩
end Ch
