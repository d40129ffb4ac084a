/-! PURE (50zzzzw): small calls that change something that only lives. -/
section Sm
variable {N1 N2 K1 K2 : mz_N} {b : Bool} {B q : Nat} {s : st_S} {D H : Kp} {x : CrS} {L : LvS} {v1 v2 : Int32} {u : SuS}
/-- the supply changes, and the code of a call -/
theorem MR_su (h : MR q B s D H x L N1 b N2) (f1 : fq [56] [] N1 K1) (f2 : fq [232] [] N2 K2) (i2 : ∀ f, f ≠ 0 → ¬ (52 ≤ f ∧ f ≤ 65) → K2.1 232 f = N2.1 232 f) (hc : suC K1 u) (hr : suR K2 u) (hb : suB q u) : MR q B s D H x (L.T, L.c, u, L.k, L.w, L.cr, L.R, L.S, L.sd) K1 b K2 := by
  refine ⟨⟨KS_q h.cs.ks f1 f2 rfl rfl rfl rfl rfl rfl (fun f hf => i2 f (by omega) (by omega)) (fun f _ => by rw [f2.2 232 rfl]), crC_f h.cs.cc f1 rfl rfl, crR_f h.cs.cr f2 rfl rfl (i2 96 (by decide) (by decide)) (by rw [f2.2 232 rfl]) rfl⟩, ?_, h.iv⟩
  have c1 : ∀ z, z ≠ 56 → K1.1 z = N1.1 z := fun z hz => f1.1 z (by simp [hz])
  have c2 : ∀ z, z ≠ 232 → K2.1 z = N2.1 z := fun z hz => f2.1 z (by simp [hz])
  obtain ⟨p1, p2, p3, p4, p5, p6, p7, p8, p9, p10, p11, p12, p13, p14, p15, p16, p17, p18⟩ := h.lr
  exact ⟨plW_q p1 f1 f2 rfl rfl (i2 7 (by decide) (by decide)), prR_f p2 (fun z _ _ => c1 z (by omega)) (i2 28 (by decide) (by decide)) (fun z _ _ => c2 z (by omega)), p3, tgR_f p4 (c1 53 (by omega)) (c2 257 (by omega)), p5, ciR_f p6 (fun z _ _ => c1 z (by omega)) (fun z _ _ => c2 z (by omega)), p7, hc, hr, hb, clC_f p11 (fun z _ _ => f1.2 z rfl) (c1 72 (by omega)) (c1 73 (by omega)) (by rw [c1 65 (by omega)]), clR_f p12 (fun z _ _ => f2.2 z rfl), p13, waR_f p14 (fun z hz => c1 z (by omega)) (by rw [c1 81 (by omega)]) (fun z _ _ => c2 z (by omega)) (f2.2 281 rfl) (i2 72 (by decide) (by decide)), p15, poR_f p16 (fun z _ _ => f1.2 z rfl) (c1 99 (by omega)) (f2.2 286 rfl) (c2 285 (by omega)), p17, by rw [f1.2 56 rfl]; exact p18.1, by rw [f2.2 232 rfl]; exact p18.2⟩
theorem MR_code {c : Int32} (h : MR q B s D H x L N1 b N2) : MR q B s D H x L N1 b (mz_pI N2 232 0 c) := by
  have f2 : fq [232] [] N2 (mz_pI N2 232 0 c) := fq_pI (fq_refl _ _ _) rfl
  have i2 : ∀ f, f ≠ 0 → (mz_pI N2 232 0 c).1 232 f = N2.1 232 f := fun f hf => by rw [pI_s, sI_e, up_a, if_neg hf]
  exact MR_su h (fq_refl _ _ _) f2 (fun f hf _ => i2 f hf) h.lr.sc (suR_f h.lr.sr (fun f h1 _ => i2 f (by omega)) (by rw [f2.2 232 rfl]) (by rw [f2.2 232 rfl])) h.lr.sb
/-- how a call that changes something ends -/
def cok {α : Type} (post : mz_N → mz_N → Prop) (c : Nat × α × mz_N) (r : α × mz_N) : Prop := c.1 ≤ 2 ∧ r.2.1 232 0 = nI c.1 ∧ (c.1 = 0 → r.1 = c.2.1) ∧ post c.2.2 r.2
theorem mains_ok {m : Bool} (h : MR q B s D H x L N1 b N2) : cp_279_0 m N1 ∧ cp_548_0 m N2 ∧ cok (fun M1 M2 => ∃ L', MR q B s D H x L' M1 b M2 ∧ L'.S = L.S ∧ L'.sd = L.sd) (cf_279_0 m N1) (cf_548_0 m N2) := by
  obtain ⟨u1, u2⟩ := c104_u (MR_u1 h)
  obtain ⟨F1, F2⟩ := F_c h
  have nf : ¬ (false = true) := fun z => by cases z
  have ga : mz_fZ N1 56 4 = L.u.mn := by show decide (N1.1 56 4 = 1) = _; rw [h.lr.sc.mn, d_b01]
  have gb : mz_fZ (mz_pI N2 232 0 0) 232 52 = L.u.mn := by show decide (N2.1 232 52 = 1) = _; rw [h.lr.sr.mn, d_b01]
  have z1 : mz_z01 (N1.1 56 4) := by rw [h.lr.sc.mn]; exact z01_b01 _
  have z2 : mz_z01 ((mz_pI N2 232 0 0).1 232 52) := by show mz_z01 (N2.1 232 52); rw [h.lr.sr.mn]; exact z01_b01 _
  have e1 : cf_279_0 m N1 = (0, L.u.mn, mz_pI N1 56 4 (mz_b01 m)) := by rw [cf_279_0, u2, if_pos rfl, ga]
  have e2 : cf_548_0 m N2 = (L.u.mn, mz_pI (mz_pI N2 232 0 0) 232 52 (mz_b01 m)) := by rw [cf_548_0, F2, if_neg nf, gb]
  have f1 : fq [56] [] N1 (mz_pI N1 56 4 (mz_b01 m)) := fq_pI (fq_refl _ _ _) rfl
  have f2 : fq [232] [] N2 (mz_pI (mz_pI N2 232 0 0) 232 52 (mz_b01 m)) := fq_pI (fq_pI (fq_refl _ _ _) rfl) rfl
  have j1 : ∀ f, f ≠ 4 → (mz_pI N1 56 4 (mz_b01 m)).1 56 f = N1.1 56 f := fun f hf => by rw [pI_s, sI_e, up_a, if_neg hf]
  have j2 : ∀ f, f ≠ 52 → f ≠ 0 → (mz_pI (mz_pI N2 232 0 0) 232 52 (mz_b01 m)).1 232 f = N2.1 232 f := fun f h1 h2 => by rw [pI_s, sI_e, up_a, if_neg h1, pI_s, sI_e, up_a, if_neg h2]
  obtain ⟨a1, a2, a3, a4, a5, a6, a7, a8, a9, a10, a11⟩ := h.lr.sc
  obtain ⟨b1', b2, b3, b4, b5, b6, b7, b8, b9, b10, b11⟩ := h.lr.sr
  obtain ⟨d1, d2, d3, d4, d5, d6, d7⟩ := h.lr.sb
  have P1 : cp_279_0 m N1 := by
    rw [cp_279_0]; exact ⟨u1, fun _ => z1, fun _ => trivial⟩
  have P2 : cp_548_0 m N2 := by
    rw [cp_548_0, F2]; exact ⟨F1, fun _ => trivial, fun _ => z2⟩
  rw [e1, e2]
  refine ⟨P1, P2, Nat.zero_le _, ?_, fun _ => rfl, _, MR_su (u := (L.u.ch, L.u.fu, L.u.wo, L.u.tk, L.u.st, L.u.co, L.u.bo, m, L.u.en, L.u.wa, L.u.ra)) h f1 f2 (fun f h0 h5 => j2 f (by omega) h0) ⟨by rw [j1 1 (by decide)]; exact a1, by rw [j1 2 (by decide)]; exact a2, by rw [j1 3 (by decide)]; exact a3, by rw [j1 7 (by decide)]; exact a4, by rw [j1 11 (by decide)]; exact a5, by rw [j1 12 (by decide)]; exact a6, by rw [j1 13 (by decide)]; exact a7, by rw [pI_s, sI_e, up_a, if_pos rfl], by rw [j1 5 (by decide)]; exact a9, by rw [j1 8 (by decide)]; exact a10, by rw [j1 9 (by decide)]; exact a11⟩ ⟨by rw [j2 54 (by decide) (by decide)]; exact b1', by rw [j2 53 (by decide) (by decide)]; exact b2, by rw [j2 55 (by decide) (by decide)]; exact b3, by rw [j2 61 (by decide) (by decide)]; exact b4, by rw [j2 62 (by decide) (by decide)]; exact b5, by rw [f2.2 232 rfl]; exact b6, by rw [f2.2 232 rfl]; exact b7, by rw [pI_s, sI_e, up_a, if_pos rfl], by rw [j2 65 (by decide) (by decide)]; exact b9, by rw [j2 63 (by decide) (by decide)]; exact b10, by rw [j2 64 (by decide) (by decide)]; exact b11⟩ ⟨d1, d2, d3, d4, d5, d6, d7⟩, rfl, rfl⟩
  show (mz_pI (mz_pI N2 232 0 0) 232 52 (mz_b01 m)).1 232 0 = nI 0
  rw [pI_s, sI_e, up_a, if_neg (by decide), pI_s, sI_e, up_a, if_pos rfl]; rfl
end Sm
