/-! PURE (50zzzzzzzi): put: both judge a reel (385, 608). -/
/-- what the class's whole judging leaves -/
def jcW (N M : mz_N) (b : Bool) : Prop := (fq (230 :: 231 :: 12 :: 13 :: 14 :: 41 :: 55 :: pgA) [] N M) ∧ (∀ f, f ≠ 9 → M.1 41 f = N.1 41 f) ∧ (∀ d, d < 5 → M.1 (mz_lv b + d) = N.1 (mz_lv b + d))
theorem jcW.f {N M : mz_N} {b : Bool} (h : jcW N M b) : fq (230 :: 231 :: 12 :: 13 :: 14 :: 41 :: 55 :: pgA) [] N M := h.1
theorem jcW.x {N M : mz_N} {b : Bool} (h : jcW N M b) : ∀ f, f ≠ 9 → M.1 41 f = N.1 41 f := h.2.1
theorem jcW.lv {N M : mz_N} {b : Bool} (h : jcW N M b) : ∀ d, d < 5 → M.1 (mz_lv b + d) = N.1 (mz_lv b + d) := h.2.2
def jrW (N M : mz_N) (e fl : Nat → Nat) (S : kyL) : Prop := (fq [232, 233, 235, 236, 237, 238, 253, 254, 255, 256, 336, 337, 338, 339] [] N M) ∧ (∀ f, f ≠ 7 → f ≠ 28 → f ≠ 31 → (f < 147 ∨ 154 < f) → f ≠ 156 → f ≠ 157 → M.1 232 f = N.1 232 f) ∧ (∀ j, j < 3850 → M.1 233 j = N.1 233 j) ∧ (r_pl e fl M) ∧ (M.1 232 28 = nI (na S)) ∧ (rws (M.1 253) (M.1 254) (M.1 255) (M.1 256) S)
theorem jrW.f {N M : mz_N} {e fl : Nat → Nat} {S : kyL} (h : jrW N M e fl S) : fq [232, 233, 235, 236, 237, 238, 253, 254, 255, 256, 336, 337, 338, 339] [] N M := h.1
theorem jrW.i {N M : mz_N} {e fl : Nat → Nat} {S : kyL} (h : jrW N M e fl S) : ∀ f, f ≠ 7 → f ≠ 28 → f ≠ 31 → (f < 147 ∨ 154 < f) → f ≠ 156 → f ≠ 157 → M.1 232 f = N.1 232 f := h.2.1
theorem jrW.p {N M : mz_N} {e fl : Nat → Nat} {S : kyL} (h : jrW N M e fl S) : ∀ j, j < 3850 → M.1 233 j = N.1 233 j := h.2.2.1
theorem jrW.pl {N M : mz_N} {e fl : Nat → Nat} {S : kyL} (h : jrW N M e fl S) : r_pl e fl M := h.2.2.2.1
theorem jrW.r8 {N M : mz_N} {e fl : Nat → Nat} {S : kyL} (h : jrW N M e fl S) : M.1 232 28 = nI (na S) := h.2.2.2.2.1
theorem jrW.rw {N M : mz_N} {e fl : Nat → Nat} {S : kyL} (h : jrW N M e fl S) : rws (M.1 253) (M.1 254) (M.1 255) (M.1 256) S := h.2.2.2.2.2
/-- the keys of a legal reel, told by both -/
def rKt (M1 M2 : mz_N) (kt : Nat → Bool) (kb : Nat → Nat → Nat) : Prop := (∀ k j, kb k j < 256) ∧ (∀ k, k < 135 → kt k = false → ∀ j, kb k j = 0) ∧ (LG kt kb) ∧ (∀ k, k < 135 → ∀ j, j < 28 → M1.1 230 (28 * k + j) = nI (kb k j)) ∧ (∀ k, k < 135 → M1.1 231 k = nI (b1 (kt k))) ∧ (∀ k, k < 135 → kt k = true → ∀ j, j < 28 → M2.1 337 (28 * k + j) = by8 (kb k j)) ∧ (∀ k, k < 135 → M2.1 336 k = nI (b1 (kt k)))
theorem rKt.g {M1 M2 : mz_N} {kt : Nat → Bool} {kb : Nat → Nat → Nat} (h : rKt M1 M2 kt kb) : ∀ k j, kb k j < 256 := h.1
theorem rKt.a {M1 M2 : mz_N} {kt : Nat → Bool} {kb : Nat → Nat → Nat} (h : rKt M1 M2 kt kb) : ∀ k, k < 135 → kt k = false → ∀ j, kb k j = 0 := h.2.1
theorem rKt.l {M1 M2 : mz_N} {kt : Nat → Bool} {kb : Nat → Nat → Nat} (h : rKt M1 M2 kt kb) : LG kt kb := h.2.2.1
theorem rKt.c {M1 M2 : mz_N} {kt : Nat → Bool} {kb : Nat → Nat → Nat} (h : rKt M1 M2 kt kb) : ∀ k, k < 135 → ∀ j, j < 28 → M1.1 230 (28 * k + j) = nI (kb k j) := h.2.2.2.1
theorem rKt.t {M1 M2 : mz_N} {kt : Nat → Bool} {kb : Nat → Nat → Nat} (h : rKt M1 M2 kt kb) : ∀ k, k < 135 → M1.1 231 k = nI (b1 (kt k)) := h.2.2.2.2.1
theorem rKt.r {M1 M2 : mz_N} {kt : Nat → Bool} {kb : Nat → Nat → Nat} (h : rKt M1 M2 kt kb) : ∀ k, k < 135 → kt k = true → ∀ j, j < 28 → M2.1 337 (28 * k + j) = by8 (kb k j) := h.2.2.2.2.2.1
theorem rKt.s {M1 M2 : mz_N} {kt : Nat → Bool} {kb : Nat → Nat → Nat} (h : rKt M1 M2 kt kb) : ∀ k, k < 135 → M2.1 336 k = nI (b1 (kt k)) := h.2.2.2.2.2.2
section Jw
variable {N1 N2 : mz_N} {b : Bool} {e fl tx ra : Nat → Nat} {m rn : Nat}
theorem lv_ne {d : Nat} (hd : d < 5) : ([230, 231] : List Nat).contains (mz_lv b + d) = false := by
  have k : mz_lv b + d ≠ 230 ∧ mz_lv b + d ≠ 231 := by rcases lv_o (b := b) with w | w <;> rw [w] <;> omega
  simp [k.1, k.2]
theorem judge (hr : ∀ i, ra i < 256) (hrn : rn ≤ 4100) (h12 : N1.1 1 12 = nI rn) (h9 : ∀ i, i < rn → N1.1 229 i = nI (ra i)) (h143 : N2.1 232 143 = nI rn) (h5 : ∀ i, i < rn → N2.1 335 i = by8 (ra i)) (hn : pl_n e ≤ 40) (hp : r_pl e fl N2) (h3 : ∀ i, i < 550 → N2.1 233 i = nI (e i) ∧ e i < 4) (h27 : N2.1 232 27 = nI m) (hm : m ≤ 196) (h252 : ∀ j, j < m → N2.1 252 j = nI (tx j)) (htx : ∀ j, tx j < 128) (hp2 : (prs tx m).1 = 0) (h8 : N2.1 232 28 = nI (na (prs tx m).2.2)) (hw : rws (N2.1 253) (N2.1 254) (N2.1 255) (N2.1 256) (prs tx m).2.2) :
    cp_385_0 N1 b ∧ cp_608_0 N2 ∧ ∃ J M1 M2, J ≤ 4 ∧ cf_385_0 N1 b = (nI J, M1) ∧ cf_608_0 N2 = (nI J, M2) ∧ jcW N1 M1 b ∧ jrW N2 M2 e fl (prs tx m).2.2 ∧ (J = 0 → ∃ kt kb, rKt M1 M2 kt kb) := by
  have nf : ¬ (false = true) := fun z => by cases z
  have c0 : jcW N1 N1 b := ⟨fq_refl _ _ _, fun _ _ => rfl, fun _ _ => rfl⟩
  have r0 : jrW N2 N2 e fl (prs tx m).2.2 := ⟨fq_refl _ _ _, fun _ _ _ _ _ _ _ => rfl, fun _ _ => rfl, hp, h8, hw⟩
  have q2 : nI rn < 2 ↔ rn < 2 := nI_ltI (b := 2) (by omega) (by omega)
  rw [cp_385_0, cf_385_0, cp_608_0, cf_608_0, h12, h143]
  by_cases w2 : rn < 2
  · have w2' := q2.mpr w2
    rw [if_pos w2', if_pos w2']
    exact ⟨⟨fun _ => trivial, fun z => absurd w2' z⟩, ⟨fun _ => trivial, fun z => absurd w2' z⟩, 1, N1, N2, by omega, rfl, rfl, c0, r0, fun z => by cases z⟩
  · have w2' : ¬ nI rn < 2 := fun z => w2 (q2.mp z)
    rw [if_neg w2', if_neg w2']
    have a0 := hr 0
    have a1 := hr 1
    obtain ⟨c, ec⟩ : ∃ c, c = ra 0 + 256 * ra 1 := ⟨_, rfl⟩
    have g0 : mz_gI N1 229 0 = nI (ra 0) := h9 0 (by omega)
    have g1 : mz_gI N1 229 1 = nI (ra 1) := h9 1 (by omega)
    have eC : mz_gI N1 229 0 + 256 * mz_gI N1 229 1 = nI c := by rw [g0, g1, ec, show (256 : Int32) = nI 256 from rfl, pk_mul, nI_add]
    have e30 : (6 : Int32) + nI c * 30 = nI (6 + 30 * c) := by rw [show (6 : Int32) = nI 6 from rfl, show (30 : Int32) = nI 30 from rfl, pk_mul, nI_add, Nat.mul_comm]
    have qc : (nI rn = nI (6 + 30 * c)) ↔ (rn = 6 + 30 * c) := nI_eq (by omega) (by omega)
    obtain ⟨n1, n2⟩ := rd_r (a := 335) (n := 4100) (p := 0) (k := 2) (d := ra) (N := N2) (fun i hi => ⟨by rw [Nat.zero_add]; exact h5 i (by omega), hr i⟩) (by omega) (by omega) (by omega)
    have nC : num ra 0 2 = c := by rw [ec]; show 0 + ra 0 * 2 ^ (8 * 0) + ra 1 * 2 ^ (8 * 1) = _; omega
    rw [nC] at n2
    have n1' : cp_423_0 335 4100 0 2 N2 := n1
    have n2' : cf_423_0 335 4100 0 2 N2 = lN c := n2
    have eL : (30 : Int64) * lN c + 6 = lN (6 + 30 * c) := by
      rw [show (30 : Int64) = lN 30 from rfl, show (6 : Int64) = lN 6 from rfl, lN_mul, lN_add, Nat.add_comm]
    have lR : (nI rn).toInt64 = lN rn := nI_L (by omega)
    have qL : (lN rn = lN (6 + 30 * c)) ↔ (rn = 6 + 30 * c) := lN_e (by omega) (by omega)
    rw [eC, e30, lR, n2', eL]
    by_cases w1 : rn = 6 + 30 * c
    · rw [if_pos (qc.mpr w1), if_pos (qL.mpr w1)]
      have s4 : nI rn - 4 = nI (rn - 4) := by rw [show (4 : Int32) = nI 4 from rfl, pk_sub (by omega)]
      obtain ⟨k1, k2⟩ := cr_c (a := 229) (n := 4100) (p := 0) (k := rn - 4) (d := ra) (N := N1) (fun i hi => by rw [Nat.zero_add]; exact ⟨h9 i (by omega), hr i⟩) (by omega) (by omega)
      have k1' : cp_16_0 229 4100 0 (nI (rn - 4)) N1 := k1
      have k2' : cf_16_0 229 4100 0 (nI (rn - 4)) N1 = crv ra 0 (rn - 4) := k2
      obtain ⟨d1, d2⟩ := rd4_c (N := N1) (a := 229) (n := 4100) (p := rn - 4) (d := ra) (fun i hi => ⟨h9 _ (by omega), hr _⟩) (by omega) (by omega)
      obtain ⟨f1, f2⟩ := rd_r (a := 335) (n := 4100) (p := rn - 4) (k := 4) (d := fun i => ra (rn - 4 + i)) (N := N2) (fun i hi => ⟨h5 _ (by omega), hr _⟩) (by omega) (by omega) (by omega)
      have nE : num (fun i => ra (rn - 4 + i)) 0 4 = num ra (rn - 4) 4 := num_congr (fun i hi => by show ra (rn - 4 + (0 + i)) = ra (rn - 4 + i); rw [Nat.zero_add])
      rw [nE] at f2
      have f1' : cp_423_0 335 4100 (nI (rn - 4)) 4 N2 := f1
      have f2' : cf_423_0 335 4100 (nI (rn - 4)) 4 N2 = lN (num ra (rn - 4) 4) := f2
      obtain ⟨g1, g2⟩ := cr_r (a := 335) (n := 4100) (p := 0) (k := rn - 4) (d := ra) (N := N2) (fun i hi => by rw [Nat.zero_add]; exact ⟨h5 i (by omega), hr i⟩) (by omega) (by omega)
      have g1' : cp_413_0 335 4100 0 (nI (rn - 4)) N2 := g1
      have g2' : cf_413_0 335 4100 0 (nI (rn - 4)) N2 = crv ra 0 (rn - 4) := g2
      have nx : num ra (rn - 4) 4 < 2 ^ 32 := num_lt (n := 4) (fun i _ => hr _)
      rw [s4, k2', d2, toInt64_32, f2', g2', and32]
      generalize crv ra 0 (rn - 4) = cv
      generalize num ra (rn - 4) 4 = nx4 at nx
      have qr : (lN nx4 = lN (uv cv.toInt64 % 2 ^ 32)) ↔ (cv = nI nx4) := by
        rw [lN_e (by omega) (by have := Nat.mod_lt (uv cv.toInt64) (show 0 < 2 ^ 32 by omega); omega)]
        constructor
        · intro h; rw [h]; exact (rv4 cv).symm
        · intro h
          have h2 := rv4 cv
          have : nI (uv cv.toInt64 % 2 ^ 32) = nI nx4 := h2.trans h
          exact ((nI_e32 (Nat.mod_lt _ (by omega)) nx).mp this).symm
      by_cases w3 : cv = nI nx4
      · rw [if_pos w3, if_pos (qr.mpr w3)]
        obtain ⟨x1, X, x2, x3, x4⟩ := c386 (N := N1) (ra := ra) (c := c) (rn := rn) hr h9 (by omega) hrn
        obtain ⟨y1, Y, y2, y3, y4⟩ := r609 (N := N2) (ra := ra) (c := c) (rn := rn) hr h5 h143 w1 hrn
        obtain ⟨_, lb2, lb3⟩ := ly_b hr c
        rw [x2, y2]
        generalize (ly ra c).2.2.1 = kt at x4 y4 lb3
        generalize (ly ra c).2.2.2 = kb at x4 y4 lb2 lb3
        cases el : (ly ra c).1 with
        | false =>
          rw [if_neg nf, if_neg nf]
          refine ⟨⟨fun z => absurd z w2', fun _ => ⟨fun _ => ⟨k1', d1, fun _ => ⟨x1, fun z => absurd z nf, fun _ => trivial⟩, fun z => absurd w3 z⟩, fun z => absurd (qc.mpr w1) z⟩⟩, ⟨fun z => absurd z w2', fun _ => ⟨n1', fun _ => ⟨f1', g1', fun _ => ⟨y1, fun z => absurd z nf, fun _ => trivial⟩, fun z => absurd (qr.mpr w3) z⟩, fun z => absurd (qL.mpr w1) z⟩⟩, 3, X, Y, by omega, rfl, rfl, ⟨fq_sub x3 rfl rfl, fun f _ => by rw [x3.1 41 rfl], fun d hd => x3.1 _ (lv_ne hd)⟩, ⟨fq_sub y3 rfl rfl, fun f _ _ _ _ _ _ => by rw [y3.1 232 rfl], fun j _ => by rw [y3.1 233 rfl], ?_, by rw [y3.1 232 rfl]; exact h8, by rw [y3.1 253 rfl, y3.1 254 rfl, y3.1 255 rfl, y3.1 256 rfl]; exact hw⟩, (fun z => by cases z)⟩
          exact rpl_cg (by rw [y3.1 232 rfl]) (fun c hc => y3.1 c ((show ∀ c, c ∈ plR → ([336, 337] : List Nat).contains c = false by decide) c (by simpa using hc))) hp
        | true =>
          obtain ⟨x5, x6⟩ := x4 el
          obtain ⟨y5, y6⟩ := y4 el
          obtain ⟨u1, ok, M1, u2, u3, u4⟩ := c387 (N := X) (kt := kt) (kb := kb) (b := b) x5 x6 lb2
          obtain ⟨v1, ok', M2, v2, v3, v4⟩ := r608 (N := Y) (kt := kt) (kb := kb) (e := e) (fl := fl) (m := m) (tx := tx) y5 y6 lb2 (fun k _ hk j => lb3 k hk j) hn (rpl_cg (by rw [y3.1 232 rfl]) (fun c hc => y3.1 c ((show ∀ c, c ∈ plR → ([336, 337] : List Nat).contains c = false by decide) c (by simpa using hc))) hp) (by rw [y3.1 233 rfl]; exact h3) (by rw [y3.1 232 rfl]; exact h27) hm (by rw [y3.1 252 rfl]; exact h252) htx hp2 (by rw [y3.1 232 rfl]; exact h8) (by rw [y3.1 253 rfl, y3.1 254 rfl, y3.1 255 rfl, y3.1 256 rfl]; exact hw)
          have eo : ok' = ok := by
            cases ok with
            | true => exact v3.mpr (u3.mp rfl)
            | false =>
              cases ok' with
              | true => exact absurd (u3.mpr (v3.mp rfl)) nf
              | false => rfl
          rw [eo] at v2
          rw [if_pos rfl, if_pos rfl]
          have JC : jcW N1 M1 b := ⟨fq_trans (fq_sub x3 rfl rfl) (fq_sub u4.f rfl rfl), fun f hf => by rw [u4.x f hf, x3.1 41 rfl], fun d hd => by rw [u4.lv d hd]; exact x3.1 _ (lv_ne hd)⟩
          have JR : jrW N2 M2 e fl (prs tx m).2.2 := ⟨fq_trans (fq_sub y3 rfl rfl) (fq_sub v4.f rfl rfl), fun f i7 i1 i2 i3 i4 i5 => by rw [v4.i f i7 i1 i2 i3 i4 i5, y3.1 232 rfl], fun j hj => by rw [v4.p j hj, y3.1 233 rfl], v4.pl, v4.r8, v4.rw⟩
          have PC : cp_387_0 X b := u1
          rw [u2, v2]
          cases ok with
          | true =>
            have lg := u3.mp rfl
            rw [if_pos rfl]
            refine ⟨⟨fun z => absurd z w2', fun _ => ⟨fun _ => ⟨k1', d1, fun _ => ⟨x1, fun _ => ⟨PC, fun _ => trivial, fun _ => trivial⟩, fun z => absurd rfl z⟩, fun z => absurd w3 z⟩, fun z => absurd (qc.mpr w1) z⟩⟩, ⟨fun z => absurd z w2', fun _ => ⟨n1', fun _ => ⟨f1', g1', fun _ => ⟨y1, fun _ => v1, fun z => absurd rfl z⟩, fun z => absurd (qr.mpr w3) z⟩, fun z => absurd (qL.mpr w1) z⟩⟩, 0, M1, M2, by omega, rfl, rfl, JC, JR, fun _ => ⟨kt, kb, lb2, fun k _ hk j => lb3 k hk j, lg, ?_, ?_, ?_, ?_⟩⟩
            · rw [u4.f.1 230 rfl]; exact x5
            · rw [u4.f.1 231 rfl]; exact x6
            · rw [v4.f.1 337 rfl]; exact y5
            · rw [v4.f.1 336 rfl]; exact y6
          | false =>
            rw [if_neg nf, cf_385_99]
            exact ⟨⟨fun z => absurd z w2', fun _ => ⟨fun _ => ⟨k1', d1, fun _ => ⟨x1, fun _ => ⟨PC, fun z => absurd z nf, fun _ => trivial⟩, fun z => absurd rfl z⟩, fun z => absurd w3 z⟩, fun z => absurd (qc.mpr w1) z⟩⟩, ⟨fun z => absurd z w2', fun _ => ⟨n1', fun _ => ⟨f1', g1', fun _ => ⟨y1, fun _ => v1, fun z => absurd rfl z⟩, fun z => absurd (qr.mpr w3) z⟩, fun z => absurd (qL.mpr w1) z⟩⟩, 4, M1, M2, by omega, rfl, rfl, JC, JR, (fun z => by cases z)⟩
      · rw [if_neg w3, if_neg (fun z => w3 (qr.mp z))]
        exact ⟨⟨fun z => absurd z w2', fun _ => ⟨fun _ => ⟨k1', d1, fun z => absurd z w3, fun _ => trivial⟩, fun z => absurd (qc.mpr w1) z⟩⟩, ⟨fun z => absurd z w2', fun _ => ⟨n1', fun _ => ⟨f1', g1', fun z => absurd (qr.mp z) w3, fun _ => trivial⟩, fun z => absurd (qL.mpr w1) z⟩⟩, 2, N1, N2, by omega, rfl, rfl, c0, r0, (fun z => by cases z)⟩
    · rw [if_neg (fun z => w1 (qc.mp z)), if_neg (fun z => w1 (qL.mp z))]
      exact ⟨⟨fun z => absurd z w2', fun _ => ⟨fun z => absurd (qc.mp z) w1, fun _ => trivial⟩⟩, ⟨fun z => absurd z w2', fun _ => ⟨n1', fun z => absurd (qL.mp z) w1, fun _ => trivial⟩⟩, 1, N1, N2, by omega, rfl, rfl, c0, r0, (fun z => by cases z)⟩
end Jw
