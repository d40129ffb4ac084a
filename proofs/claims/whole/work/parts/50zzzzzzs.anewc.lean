/-! PURE (50zzzzzzs): beginAnew in the class (17). -/
/-- cells of the two programs -/
def pgA : List Nat := [43, 44, 45, 46, 47, 48, 49, 50, 51, 52]
/-- cells that beginAnew sets behind the first things -/
def anA : List Nat := [1, 2, 3, 5, 6, 7, 9, 10, 11, 14, 15, 17, 18, 19, 20, 21, 22, 23, 24, 25, 26, 27, 28, 29, 30, 31, 33, 34, 35, 36, 37, 38, 39, 40, 41, 43, 44, 45, 46, 47, 48, 49, 50, 51, 52, 53, 55, 62, 63, 66, 67, 87, 88, 89, 99, 101, 102, 103, 104, 105, 106, 107, 108, 115, 117, 118, 119, 120, 121, 122, 123, 125, 126, 127, 128, 208, 210, 211, 212, 215, 219]
def anC : List Nat := [56, 58, 59, 60, 61, 64, 65, 72, 73, 81, 82, 83, 100, 109, 133]
def caA : List Nat := anC ++ anA
def caB : List Nat := [68, 69, 70, 71, 208, 213, 214]
section Anc
variable {N M K : mz_N} {b : Bool} {kt : Nat → Bool} {kb : Nat → Nat → Nat} {D : Kp} {q n o : Nat}
theorem par_f {T : Nat → Int32} {z : Nat × Nat × List (Nat × Nat)} {r : Bool × mz_N} (ho : o = 43 ∨ o = 48) (h : cpr (mz_sI N (o + 1) T) o n z r) : fq pgA [] N r.2 := by
  obtain ⟨F, A, B, C, e, _⟩ := h
  rw [e]
  show fq pgA [] N (mz_sI (mz_sI (mz_sI (mz_sI (mz_sI N (o + 1) T) (o + 2) A) (o + 3) B) (o + 4) C) o F)
  rcases ho with w | w <;> subst w <;> exact fq_sI (fq_sI (fq_sI (fq_sI (fq_sI (fq_refl _ _ _) rfl) rfl) rfl) rfl) rfl
theorem lv_o : mz_lv b = 43 ∨ mz_lv b = 48 := by cases b; exact Or.inl rfl; exact Or.inr rfl
theorem ot_o : mz_ot b = 43 ∨ mz_ot b = 48 := by cases b; exact Or.inr rfl; exact Or.inl rfl
theorem lv_ot : mz_lv (!b) = mz_ot b := by cases b <;> rfl
/-- the program at first -/
theorem fs22 : cp_22_0 N b ∧ fq (41 :: 53 :: pgA) [] N (cf_22_0 N b) ∧ (cf_22_0 N b).1 41 = upd (upd (upd (N.1 41) 1 0) 4 (-1)) 5 (-1) := by
  rw [cp_22_0, cf_22_0, cp_22_28, cf_22_28]
  have f0 : fq [41] [] N (mz_pI (mz_pI (mz_pI N 41 1 0) 41 4 (-1)) 41 5 (-1)) := fq_pI (fq_pI (fq_pI (fq_refl _ _ _) rfl) rfl) rfl
  have e0 : (mz_pI (mz_pI (mz_pI N 41 1 0) 41 4 (-1)) 41 5 (-1)).1 41 = upd (upd (upd (N.1 41) 1 0) 4 (-1)) 5 (-1) := rfl
  generalize mz_pI (mz_pI (mz_pI N 41 1 0) 41 4 (-1)) 41 5 (-1) = P at f0 e0 ⊢
  have h1 : (42 : Nat) ≠ mz_lv b := by rcases lv_o (b := b) with w | w <;> rw [w] <;> decide
  have h2 : (42 : Nat) ≠ mz_lv b + 1 := by rcases lv_o (b := b) with w | w <;> rw [w] <;> decide
  obtain ⟨p1, T, _, p2⟩ := c_parse (N := P) (n := 0) (o := mz_lv b) (a1 := 42) (tx := fun _ => 0) (by omega) (fun j hj => absurd hj (Nat.not_lt_zero _)) (fun _ => by decide) h1 h2
  have p1' : cp_23_0 (mz_lv b) 42 0 P := p1
  have p2' : cpr (mz_sI P (mz_lv b + 1) T) (mz_lv b) 0 (prs (fun _ => 0) 0) (cf_23_0 (mz_lv b) 42 0 P) := p2
  have f1 := par_f lv_o p2'
  generalize (cf_23_0 (mz_lv b) 42 0 P).2 = Q at f1 ⊢
  obtain ⟨t1, g, t2, _⟩ := tg_c (N := Q)
  rw [t2]
  refine ⟨⟨p1', t1⟩, fq_sI (fq_trans (fq_sub f0 rfl rfl) (fq_sub f1 rfl rfl)) rfl, ?_⟩
  rw [sI_n (by decide), f1.1 41 rfl]
  exact e0
/-- the program is read from the keys -/
def anP (M Q : mz_N) (b : Bool) (D : Kp) : Prop := (fq (41 :: 53 :: 55 :: pgA) [] M Q) ∧ (∀ f, f ≠ 9 → Q.1 41 f = M.1 41 f) ∧ (Q.1 (mz_lv b) 1 = nI (D.1 5 0)) ∧ (∀ j, j < D.1 5 0 → Q.1 (mz_lv b + 1) j = nI (D.1 4 j)) ∧ (Q.1 (mz_lv b) 4 = nI (prs (D.1 4) (D.1 5 0)).2.2.length) ∧ (Q.1 (mz_lv b) 5 = nI (na (prs (D.1 4) (D.1 5 0)).2.2)) ∧ (wds (Q.1 (mz_lv b + 2)) (Q.1 (mz_lv b + 3)) (prs (D.1 4) (D.1 5 0)).2.2) ∧ (∀ j, j < 16 → Q.1 53 j = nI (tg0 j))
theorem anP.f {M Q : mz_N} {b : Bool} {D : Kp} (h : anP M Q b D) : fq (41 :: 53 :: 55 :: pgA) [] M Q := h.1
theorem anP.x {M Q : mz_N} {b : Bool} {D : Kp} (h : anP M Q b D) : ∀ f, f ≠ 9 → Q.1 41 f = M.1 41 f := h.2.1
theorem anP.ln {M Q : mz_N} {b : Bool} {D : Kp} (h : anP M Q b D) : Q.1 (mz_lv b) 1 = nI (D.1 5 0) := h.2.2.1
theorem anP.t {M Q : mz_N} {b : Bool} {D : Kp} (h : anP M Q b D) : ∀ j, j < D.1 5 0 → Q.1 (mz_lv b + 1) j = nI (D.1 4 j) := h.2.2.2.1
theorem anP.c4 {M Q : mz_N} {b : Bool} {D : Kp} (h : anP M Q b D) : Q.1 (mz_lv b) 4 = nI (prs (D.1 4) (D.1 5 0)).2.2.length := h.2.2.2.2.1
theorem anP.c5 {M Q : mz_N} {b : Bool} {D : Kp} (h : anP M Q b D) : Q.1 (mz_lv b) 5 = nI (na (prs (D.1 4) (D.1 5 0)).2.2) := h.2.2.2.2.2.1
theorem anP.cw {M Q : mz_N} {b : Bool} {D : Kp} (h : anP M Q b D) : wds (Q.1 (mz_lv b + 2)) (Q.1 (mz_lv b + 3)) (prs (D.1 4) (D.1 5 0)).2.2 := h.2.2.2.2.2.2.1
theorem anP.g {M Q : mz_N} {b : Bool} {D : Kp} (h : anP M Q b D) : ∀ j, j < 16 → Q.1 53 j = nI (tg0 j) := h.2.2.2.2.2.2.2
theorem fs73 (hD : st_D kt kb D) (h0 : ∀ k, k < 135 → kt k = false → ∀ j, j < 28 → kb k j = 0) (hk : ∀ k, k < 135 → ∀ j, j < 28 → M.1 223 (28 * k + j) = nI (kb k j)) (hx : txo D) (hp : (prs (D.1 4) (D.1 5 0)).1 = 0) : cp_73_0 728 M b ∧ ∃ Q, cf_73_0 728 M b = (Q, !b) ∧ anP M Q (!b) D := by
  have hb := hD.1
  obtain ⟨a1, f, a2, a3⟩ := find_c (N := M) (D := D) (a := 223) (q := 728) (by decide) (by omega) hb hx (tx_st hD h0 hk)
  have a1' : cp_74_0 223 728 M := a1
  have a2' : cf_74_0 223 728 M = (true, mz_pI (mz_sI M 55 f) 41 9 (nI (D.1 5 0))) := a2
  rw [cp_73_0, cf_73_0, a2']
  have e9 : (mz_pI (mz_sI M 55 f) 41 9 (nI (D.1 5 0))).1 41 9 = nI (D.1 5 0) := rfl
  have e41 : ∀ j, j ≠ 9 → (mz_pI (mz_sI M 55 f) 41 9 (nI (D.1 5 0))).1 41 j = M.1 41 j := fun j hj => by
    rw [pI_s, sI_e, up_a, if_neg hj, sI_n (by decide)]
  have e55 : (mz_pI (mz_sI M 55 f) 41 9 (nI (D.1 5 0))).1 55 = f := by rw [pI_s, sI_n (by decide), sI_e]
  have f0 : fq [41, 55] [] M (mz_pI (mz_sI M 55 f) 41 9 (nI (D.1 5 0))) := fq_pI (fq_sI (fq_refl _ _ _) rfl) rfl
  dsimp only
  rw [e9]
  generalize mz_pI (mz_sI M 55 f) 41 9 (nI (D.1 5 0)) = P at e41 e55 f0 ⊢
  have h1 : (55 : Nat) ≠ mz_ot b := by rcases ot_o (b := b) with w | w <;> rw [w] <;> decide
  have h2 : (55 : Nat) ≠ mz_ot b + 1 := by rcases ot_o (b := b) with w | w <;> rw [w] <;> decide
  have n6 : D.1 5 0 ≤ 196 := hb.2.2.2.2.1
  obtain ⟨p1, T, pT, p2⟩ := c_parse (N := P) (n := D.1 5 0) (o := mz_ot b) (a1 := 55) (tx := D.1 4) n6 (fun j hj => by rw [e55]; exact a3 j (by omega)) hb.2.2.2.2.2.1 h1 h2
  have f1 := par_f ot_o p2
  obtain ⟨F, A, B, C, r1, r2, r3, _, r4⟩ := p2
  rw [hp, decide_eq_true rfl] at r1
  obtain ⟨_, r5, r6, r7⟩ := r4 hp
  rw [r1] at f1
  rw [r1, if_pos rfl, if_pos rfl]
  dsimp only at f1 ⊢
  rw [cp_73_27, cf_73_27, cp_73_31, cf_73_31, cp_76_0, cf_76_0]
  have g1 : (rdM (mz_sI P (mz_ot b + 1) T) (mz_ot b) F A B C).1 (mz_ot b) = F := by unfold rdM; rw [sI_e]
  have g2 : (rdM (mz_sI P (mz_ot b + 1) T) (mz_ot b) F A B C).1 (mz_ot b + 1) = T := by
    unfold rdM
    rw [sI_n (by omega), sI_n (by omega), sI_n (by omega), sI_n (by omega), sI_e]
  have g3 : (rdM (mz_sI P (mz_ot b + 1) T) (mz_ot b) F A B C).1 (mz_ot b + 2) = A := by
    unfold rdM
    rw [sI_n (by omega), sI_n (by omega), sI_n (by omega), sI_e]
  have g4 : (rdM (mz_sI P (mz_ot b + 1) T) (mz_ot b) F A B C).1 (mz_ot b + 3) = B := by
    unfold rdM
    rw [sI_n (by omega), sI_n (by omega), sI_e]
  generalize rdM (mz_sI P (mz_ot b + 1) T) (mz_ot b) F A B C = R at f1 g1 g2 g3 g4 ⊢
  obtain ⟨t1, g, t2, t3⟩ := tg_c (N := R)
  have nc : ∀ d, d < 5 → (mz_sI R 53 g).1 (mz_ot b + d) = R.1 (mz_ot b + d) := fun d hd => sI_n (by rcases ot_o (b := b) with w | w <;> rw [w] <;> omega)
  rw [t2]
  refine ⟨⟨a1', fun _ => ⟨p1, fun _ => ⟨t1, trivial⟩, fun z => absurd rfl z⟩, fun z => absurd rfl z⟩, mz_sI R 53 g, rfl, ?_⟩
  refine ⟨?_, fun j hj => ?_, ?_, fun j hj => ?_, ?_, ?_, ?_, fun j hj => ?_⟩
  · exact fq_sI (fq_trans (fq_sub f0 rfl rfl) (fq_sub f1 rfl rfl)) rfl
  · rw [sI_n (by decide), f1.1 41 rfl]; exact e41 j hj
  · rw [lv_ot, ← Nat.add_zero (mz_ot b), nc 0 (by omega), Nat.add_zero, g1]; exact r2
  · rw [lv_ot, nc 1 (by omega), g2]; exact pT j hj
  · rw [lv_ot, ← Nat.add_zero (mz_ot b), nc 0 (by omega), Nat.add_zero, g1]; exact r5
  · rw [lv_ot, ← Nat.add_zero (mz_ot b), nc 0 (by omega), Nat.add_zero, g1]; exact r6
  · rw [lv_ot, nc 2 (by omega), nc 3 (by omega), g3, g4]; exact r7
  · rw [sI_e, t3, if_pos hj]
/-- the class begins anew with the house D -/
def cAn (N M : mz_N) (b : Bool) (D : Kp) (nn : Nat) : Prop := (fq caA caB N M) ∧ (∀ f, f ≠ 8 → M.1 219 f = N.1 219 f) ∧ (M.1 219 8 = -1) ∧ (c_kp M b D) ∧ (c_ks M D nn) ∧ (c_pl (D.1 0) (D.1 1) M) ∧ (c_nf M (N.1 56 15)) ∧ (M.1 (mz_lv b) 4 = nI (prs (D.1 4) (D.1 5 0)).2.2.length) ∧ (M.1 (mz_lv b) 5 = nI (na (prs (D.1 4) (D.1 5 0)).2.2)) ∧ (wds (M.1 (mz_lv b + 2)) (M.1 (mz_lv b + 3)) (prs (D.1 4) (D.1 5 0)).2.2) ∧ (∀ j, j < 16 → M.1 53 j = nI (tg0 j)) ∧ (∀ u, u < 3 → ∀ j, j < 550 → M.1 (5 + u) j = nI (D.1 0 j) ∧ M.1 (9 + u) j = nI (D.1 0 j)) ∧ (M.1 2 3 = 0) ∧ (M.1 41 1 = 0 ∧ M.1 41 4 = -1 ∧ M.1 41 5 = -1) ∧ (M.1 1 10 = 0 ∧ M.1 1 12 = 0)
theorem cAn.f {N M : mz_N} {b : Bool} {D : Kp} {nn : Nat} (h : cAn N M b D nn) : fq caA caB N M := h.1
theorem cAn.s {N M : mz_N} {b : Bool} {D : Kp} {nn : Nat} (h : cAn N M b D nn) : ∀ f, f ≠ 8 → M.1 219 f = N.1 219 f := h.2.1
theorem cAn.s8 {N M : mz_N} {b : Bool} {D : Kp} {nn : Nat} (h : cAn N M b D nn) : M.1 219 8 = -1 := h.2.2.1
theorem cAn.kp {N M : mz_N} {b : Bool} {D : Kp} {nn : Nat} (h : cAn N M b D nn) : c_kp M b D := h.2.2.2.1
theorem cAn.ks {N M : mz_N} {b : Bool} {D : Kp} {nn : Nat} (h : cAn N M b D nn) : c_ks M D nn := h.2.2.2.2.1
theorem cAn.pl {N M : mz_N} {b : Bool} {D : Kp} {nn : Nat} (h : cAn N M b D nn) : c_pl (D.1 0) (D.1 1) M := h.2.2.2.2.2.1
theorem cAn.nf {N M : mz_N} {b : Bool} {D : Kp} {nn : Nat} (h : cAn N M b D nn) : c_nf M (N.1 56 15) := h.2.2.2.2.2.2.1
theorem cAn.c4 {N M : mz_N} {b : Bool} {D : Kp} {nn : Nat} (h : cAn N M b D nn) : M.1 (mz_lv b) 4 = nI (prs (D.1 4) (D.1 5 0)).2.2.length := h.2.2.2.2.2.2.2.1
theorem cAn.c5 {N M : mz_N} {b : Bool} {D : Kp} {nn : Nat} (h : cAn N M b D nn) : M.1 (mz_lv b) 5 = nI (na (prs (D.1 4) (D.1 5 0)).2.2) := h.2.2.2.2.2.2.2.2.1
theorem cAn.cw {N M : mz_N} {b : Bool} {D : Kp} {nn : Nat} (h : cAn N M b D nn) : wds (M.1 (mz_lv b + 2)) (M.1 (mz_lv b + 3)) (prs (D.1 4) (D.1 5 0)).2.2 := h.2.2.2.2.2.2.2.2.2.1
theorem cAn.g {N M : mz_N} {b : Bool} {D : Kp} {nn : Nat} (h : cAn N M b D nn) : ∀ j, j < 16 → M.1 53 j = nI (tg0 j) := h.2.2.2.2.2.2.2.2.2.2.1
theorem cAn.dk {N M : mz_N} {b : Bool} {D : Kp} {nn : Nat} (h : cAn N M b D nn) : ∀ u, u < 3 → ∀ j, j < 550 → M.1 (5 + u) j = nI (D.1 0 j) ∧ M.1 (9 + u) j = nI (D.1 0 j) := h.2.2.2.2.2.2.2.2.2.2.2.1
theorem cAn.ve {N M : mz_N} {b : Bool} {D : Kp} {nn : Nat} (h : cAn N M b D nn) : M.1 2 3 = 0 := h.2.2.2.2.2.2.2.2.2.2.2.2.1
theorem cAn.x {N M : mz_N} {b : Bool} {D : Kp} {nn : Nat} (h : cAn N M b D nn) : M.1 41 1 = 0 ∧ M.1 41 4 = -1 ∧ M.1 41 5 = -1 := h.2.2.2.2.2.2.2.2.2.2.2.2.2.1
theorem cAn.tp {N M : mz_N} {b : Bool} {D : Kp} {nn : Nat} (h : cAn N M b D nn) : M.1 1 10 = 0 ∧ M.1 1 12 = 0 := h.2.2.2.2.2.2.2.2.2.2.2.2.2.2
theorem cnf_f {s : Int32} (h : c_nf N s) (f : fq anA cdB N M) (e : M.1 115 5 = N.1 115 5) : c_nf M s := by
  unfold c_nf at h ⊢
  rw [f.1 58 rfl, f.1 59 rfl, f.1 60 rfl, f.1 61 rfl, f.1 64 rfl, f.1 56 rfl, f.2 68 rfl, f.2 69 rfl, f.2 70 rfl, f.2 71 rfl, f.1 72 rfl, f.1 73 rfl, f.1 65 rfl, f.1 82 rfl, f.1 83 rfl, f.1 81 rfl, f.1 109 rfl, f.1 100 rfl, f.1 133 rfl, e]
  exact h
theorem c_anew (hD : st_D kt kb D) (h0 : ∀ k, k < 135 → kt k = false → ∀ j, j < 28 → kb k j = 0) (hk : ∀ k, k < 135 → ∀ j, j < 28 → N.1 223 (28 * k + j) = nI (kb k j)) (ht : ∀ k, k < 135 → N.1 224 k = nI (b1 (kt k))) (hJ : Jd q D) : cp_17_0 N b ∧ ∃ M, cf_17_0 N b = (M, !b) ∧ cAn N M (!b) D (NN kt D 135) := by
  obtain ⟨a1, a2, a3, a4, a5, a6⟩ := fs18 (N := N)
  rw [cp_17_0, cf_17_0]
  generalize cf_18_0 N = A at a1 a2 a3 a4 a5 a6 ⊢
  obtain ⟨b1', b2, b3⟩ := fs22 (N := A) (b := b)
  generalize cf_22_0 A b = C at b1' b2 b3 ⊢
  obtain ⟨c0, c1, c2, c3, c4⟩ := c_first (K := C) (by rw [b2.1 3 rfl]; exact a3) (by rw [b2.1 37 rfl]; exact a4) (by rw [b2.1 40 rfl]; exact a5)
  obtain ⟨c0a, c0b, c0c, c0d, c0e, c0f⟩ := c0
  generalize cf_53_0 (cf_52_0 (cf_51_0 (cf_50_0 (cf_48_0 (cf_47_0 C))))) = E at c1 c2 c3 c4 ⊢
  rw [cp_17_56, cf_17_56]
  have zf : fq [1, 219] [] E (mz_pI (mz_pI (mz_pI E 1 10 0) 1 12 0) 219 8 (-1)) := fq_pI (fq_pI (fq_pI (fq_refl _ _ _) rfl) rfl) rfl
  have z1 : (mz_pI (mz_pI (mz_pI E 1 10 0) 1 12 0) 219 8 (-1)).1 1 10 = 0 ∧ (mz_pI (mz_pI (mz_pI E 1 10 0) 1 12 0) 219 8 (-1)).1 1 12 = 0 := ⟨rfl, rfl⟩
  have z2 : (mz_pI (mz_pI (mz_pI E 1 10 0) 1 12 0) 219 8 (-1)).1 219 = upd (E.1 219) 8 (-1) := rfl
  have z3 : c_kn (mz_pI (mz_pI (mz_pI E 1 10 0) 1 12 0) 219 8 (-1)) H0 := by
    obtain ⟨k1, k2, k3, k4, k5, k6, k7, k8, k9, k10, k11, k12, k13, k14, k15⟩ := c2
    exact ⟨k1, k2, k3, k4, k5, k6, k7, k8, k9, k10, k11, k12, k13, k14, k15⟩
  have z4 : c_ks (mz_pI (mz_pI (mz_pI E 1 10 0) 1 12 0) 219 8 (-1)) H0 0 := by
    obtain ⟨k1, k2, k3⟩ := c3
    exact ⟨k1, k2, k3⟩
  generalize mz_pI (mz_pI (mz_pI E 1 10 0) 1 12 0) 219 8 (-1) = Z at zf z1 z2 z3 z4 ⊢
  have n223 : Z.1 223 = N.1 223 := by rw [zf.1 223 rfl, c1.1 223 rfl, b2.1 223 rfl, a2.1 223 rfl]
  have n224 : Z.1 224 = N.1 224 := by rw [zf.1 224 rfl, c1.1 224 rfl, b2.1 224 rfl, a2.1 224 rfl]
  -- what comes behind the keys
  have BK : ∀ M, c_ra Z M kt D → cp_73_0 728 M b ∧ cp_77_0 ((cf_73_0 728 M b).1) ∧ cp_17_151 0 (cf_77_0 ((cf_73_0 728 M b).1)) ((cf_73_0 728 M b).2) ∧ ∃ K Q W, cf_17_151 0 (cf_77_0 ((cf_73_0 728 M b).1)) ((cf_73_0 728 M b).2) = (K, !b) ∧ anP M Q (!b) D ∧ sv_f Q W ∧ c_pl (D.1 0) (D.1 1) W ∧ fq [5, 6, 7, 9, 10, 11] [] W K ∧ c_dk3 K (W.1 3) := fun M hM => by
    obtain ⟨m1, m2, m3, m4⟩ := hM
    obtain ⟨d1, Q, d2, d3⟩ := fs73 (M := M) (b := b) hD h0 (fun k hk' j hj => by rw [m1.1 223 rfl, n223]; exact hk k hk' j hj) hJ.tx hJ.pr
    rw [d2]
    obtain ⟨k1, k2, _⟩ := m2
    obtain ⟨s1, s2, s3⟩ := c_survey (N := Q) (e := D.1 0) (fl := D.1 1) hJ.pl.n (fun i hi => ⟨by rw [d3.f.1 3 rfl]; exact k1 i hi, hJ.pl.e4 i hi⟩) (fun c hc => ⟨by rw [d3.f.1 37 rfl]; exact k2 c hc, hJ.pl.fl c hc⟩)
    obtain ⟨t1, K, t2, t3, t4⟩ := c_brings (N := cf_77_0 Q) (b := !b)
    exact ⟨d1, s1, t1, K, Q, cf_77_0 Q, t2, d3, s2, s3, t3, t4⟩
  obtain ⟨e1, M, e2, e3⟩ := c_keys (N := Z) (b := b) hD (fun k hk' j hj => by rw [n223]; exact hk k hk' j hj) (fun k hk' => by rw [n224]; exact ht k hk') z3 z4 (fun M hM => ⟨(BK M hM).1, (BK M hM).2.1, (BK M hM).2.2.1⟩)
  obtain ⟨_, _, _, K, Q, W, g1, g2, g3, g4, g5, g6⟩ := BK M e3
  obtain ⟨m1, m2, m3, m4⟩ := e3
  rw [e2, g1]
  refine ⟨⟨a1, b1', c0a, c0b, c0c, c0d, c0e, c0f, e1⟩, K, rfl, ?_⟩
  have fMK : fq [2, 5, 6, 7, 9, 10, 11, 14, 15, 17, 18, 19, 20, 21, 22, 23, 24, 25, 26, 27, 28, 29, 30, 31, 33, 34, 35, 36, 38, 39, 41, 43, 44, 45, 46, 47, 48, 49, 50, 51, 52, 53, 55] [] M K := fq_trans (M := Q) (fq_sub g2.f rfl rfl) (fq_trans (M := W) (fq_sub (fq_fr g3.1) rfl rfl) (fq_sub g5 rfl rfl))
  have fQK : fq [2, 5, 6, 7, 9, 10, 11, 14, 15, 17, 18, 19, 20, 21, 22, 23, 24, 25, 26, 27, 28, 29, 30, 31, 33, 34, 35, 36, 38, 39] [] Q K := fq_trans (M := W) (fq_sub (fq_fr g3.1) rfl rfl) (fq_sub g5 rfl rfl)
  have fEK : fq anA cdB E K := fq_trans (M := Z) (fq_sub zf rfl rfl) (fq_trans (M := M) (fq_sub m1 rfl rfl) (fq_sub fMK rfl rfl))
  have fNK : fq caA caB N K := fq_trans (M := A) (fq_sub a2 rfl rfl) (fq_trans (M := C) (fq_sub b2 rfl rfl) (fq_trans (M := E) (fq_sub c1 rfl rfl) (fq_sub fEK rfl rfl)))
  have q219 : K.1 219 = upd (N.1 219) 8 (-1) := by rw [fMK.1 219 rfl, m1.1 219 rfl, z2, c1.1 219 rfl, b2.1 219 rfl, a2.1 219 rfl]
  have e56 : E.1 56 15 = C.1 56 15 := c4.2.2.1.2.2.2.2.2.2.2.2.2.2.2.2.2
  have q115 : K.1 115 5 = E.1 115 5 := by rw [fMK.1 115 rfl, m4 5 (by decide), zf.1 115 rfl]
  have n56 : C.1 56 15 = N.1 56 15 := by rw [b2.1 56 rfl, a2.1 56 rfl]
  have q41 : ∀ f, f ≠ 9 → K.1 41 f = upd (upd (upd (A.1 41) 1 0) 4 (-1)) 5 (-1) f := fun f hf => by
    rw [fQK.1 41 rfl, g2.x f hf, m1.1 41 rfl, zf.1 41 rfl, c1.1 41 rfl, b3]
  have lvf : ∀ d, d < 5 → K.1 (mz_lv (!b) + d) = Q.1 (mz_lv (!b) + d) := fun d hd => fQK.1 _ (by
    rcases lv_o (b := !b) with w | w <;> rw [w]
    · exact (show ∀ d, d < 5 → ([2, 5, 6, 7, 9, 10, 11, 14, 15, 17, 18, 19, 20, 21, 22, 23, 24, 25, 26, 27, 28, 29, 30, 31, 33, 34, 35, 36, 38, 39] : List Nat).contains (43 + d) = false by decide) d hd
    · exact (show ∀ d, d < 5 → ([2, 5, 6, 7, 9, 10, 11, 14, 15, 17, 18, 19, 20, 21, 22, 23, 24, 25, 26, 27, 28, 29, 30, 31, 33, 34, 35, 36, 38, 39] : List Nat).contains (48 + d) = false by decide) d hd)
  have lv0 : K.1 (mz_lv (!b)) = Q.1 (mz_lv (!b)) := by have := lvf 0 (by omega); rw [Nat.add_zero] at this; exact this
  have k2 : K.1 2 = W.1 2 := g5.1 2 rfl
  refine ⟨fNK, fun f hf => by rw [q219, up_a, if_neg hf], by rw [q219, up_a, if_pos rfl], ?_, ?_, ?_, ?_, by rw [lv0]; exact g2.c4, by rw [lv0]; exact g2.c5, by rw [lvf 2 (by omega), lvf 3 (by omega)]; exact g2.cw, fun j hj => by rw [fQK.1 53 rfl]; exact g2.g j hj, fun u hu j hj => ?_, ?_, ⟨by rw [q41 1 (by decide)]; rfl, by rw [q41 4 (by decide)]; rfl, by rw [q41 5 (by decide)]; rfl⟩, by rw [fMK.1 1 rfl, m1.1 1 rfl]; exact z1⟩
  · obtain ⟨k1, k2, k3, k4, k5, k6, k7, k8, k9, k10, k11, k12, k13, k14, k15⟩ := m2
    unfold c_kp
    rw [fMK.1 3 rfl, fMK.1 37 rfl, fMK.1 40 rfl, fMK.1 66 rfl, fMK.1 67 rfl, fMK.1 62 rfl, fMK.1 63 rfl, fMK.1 210 rfl, fMK.1 211 rfl, fMK.1 212 rfl, fMK.2 213 rfl, fMK.2 214 rfl, fMK.1 208 rfl, fMK.2 208 rfl, fMK.1 215 rfl, fMK.1 125 rfl, fMK.1 126 rfl, fMK.1 127 rfl, fMK.1 128 rfl, fMK.1 123 rfl, fMK.1 118 rfl, fMK.1 119 rfl, fMK.1 120 rfl, fMK.1 121 rfl, fMK.1 117 rfl, fMK.1 101 rfl, fMK.1 102 rfl, fMK.1 103 rfl, fMK.1 104 rfl, fMK.1 105 rfl, fMK.1 106 rfl, fMK.1 107 rfl, fMK.1 108 rfl, fMK.1 87 rfl, fMK.1 88 rfl, fMK.1 89 rfl]
    exact ⟨k1, k2, k3, k4, k5, by rw [lv0]; exact g2.ln, fun j hj => by rw [lvf 1 (by omega)]; exact g2.t j hj, k6, k7, k8, k9, k10, k11, k12, k13, k14, k15⟩
  · unfold c_ks
    rw [fMK.1 122 rfl, fMK.1 99 rfl, fMK.1 115 rfl]
    exact m3
  · exact pl_fq g5 rfl g4
  · have := cnf_f c4 fEK q115
    rw [n56] at this
    exact this
  · obtain ⟨y1, y2⟩ := g6 u hu j hj
    have y3 : W.1 3 j = nI (D.1 0 j) := by rw [g3.1.1 3 rfl, g2.f.1 3 rfl]; exact m2.1 j hj
    rw [y1, y2, y3]
    exact ⟨rfl, rfl⟩
  · rw [k2, g3.2 3 (by decide) (by decide), g2.f.1 2 rfl, m1.1 2 rfl, zf.1 2 rfl, c1.1 2 rfl, b2.1 2 rfl, a6, up_a, if_pos rfl]
end Anc
