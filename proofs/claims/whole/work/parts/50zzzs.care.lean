/-! PURE (50zzzs): what care has beside the kept things; a ticket is given. -/
/-- the least free place below n -/
def fz (t : Nat → Nat) : Nat → Nat
  | 0 => 0
  | n + 1 => if fz t n < n then fz t n else if t n = 0 then n else n + 1
theorem fz_le (t : Nat → Nat) : ∀ n, fz t n ≤ n := by
  intro n
  induction n with
  | zero => exact Nat.le_refl _
  | succ n ih => rw [fz]; split; omega; split <;> omega
theorem fz_nz {t : Nat → Nat} : ∀ n i, i < fz t n → t i ≠ 0 := by
  intro n
  induction n with
  | zero => intro i hi; exact absurd hi (Nat.not_lt_zero _)
  | succ n ih =>
    intro i hi
    rw [fz] at hi
    by_cases w : fz t n < n
    · rw [if_pos w] at hi; exact ih i hi
    · rw [if_neg w] at hi
      have e : fz t n = n := by have := fz_le t n; omega
      by_cases v : t n = 0
      · rw [if_pos v] at hi; exact ih i (by omega)
      · rw [if_neg v] at hi
        by_cases u : i = n
        · rw [u]; exact v
        · exact ih i (by omega)
theorem fz_z {t : Nat → Nat} : ∀ n, fz t n < n → t (fz t n) = 0 := by
  intro n
  induction n with
  | zero => intro h; exact absurd h (Nat.not_lt_zero _)
  | succ n ih =>
    intro h
    rw [fz] at h ⊢
    by_cases w : fz t n < n
    · rw [if_pos w]; exact ih w
    · rw [if_neg w] at h ⊢
      by_cases v : t n = 0
      · rw [if_pos v]; exact v
      · rw [if_neg v] at h; omega
theorem lp_fz {β : Type} [Nonempty β] {f : Int32 → Int32 ⊕ β} {P : Int32 → Prop} {r : β} (t : Nat → Nat) (n : Nat) (hs : ∀ j, j < n → t j ≠ 0 → P (nI j) ∧ f (nI j) = .inl (nI (j + 1))) (he : P (nI (fz t n)) ∧ f (nI (fz t n)) = .inr r) : (∃ m, mz_ok f P m 0) ∧ mz_run f 0 = r :=
  mz_lps (f := f) (P := P) (t := r) (fz t n) (fun k => nI k) (fun k hk => hs k (Nat.lt_of_lt_of_le hk (fz_le t n)) (fz_nz n k hk)) he (k := 0) (Nat.zero_le _)
def CrS : Type := (Nat → Int32) × (Nat) × (Nat) × (Nat → Nat) × (Nat → Nat) × (Nat → Nat) × (Nat → Nat) × (Nat → Nat) × (Nat → Nat → Nat) × (Nat → Nat → Nat) × (Nat → Nat)
abbrev CrS.wk (x : CrS) : Nat → Int32 := x.1
abbrev CrS.nn (x : CrS) : Nat := x.2.1
abbrev CrS.oc (x : CrS) : Nat := x.2.2.1
abbrev CrS.op (x : CrS) : Nat → Nat := x.2.2.2.1
abbrev CrS.om (x : CrS) : Nat → Nat := x.2.2.2.2.1
abbrev CrS.od (x : CrS) : Nat → Nat := x.2.2.2.2.2.1
abbrev CrS.vs (x : CrS) : Nat → Nat := x.2.2.2.2.2.2.1
abbrev CrS.vd (x : CrS) : Nat → Nat := x.2.2.2.2.2.2.2.1
abbrev CrS.tp (x : CrS) : Nat → Nat → Nat := x.2.2.2.2.2.2.2.2.1
abbrev CrS.tt (x : CrS) : Nat → Nat → Nat := x.2.2.2.2.2.2.2.2.2.1
abbrev CrS.bk (x : CrS) : Nat → Nat := x.2.2.2.2.2.2.2.2.2.2
def crC (N : mz_N) (H : Kp) (x : CrS) : Prop := (∀ j, j < 16 → H.1 8 j = 1 → N.1 122 j = x.wk j) ∧ (N.1 115 2 = nI x.nn) ∧ (N.1 115 5 = nI x.oc) ∧ (∀ i, i < x.oc → N.1 130 i = nI (x.op i) ∧ N.1 131 i = nI (x.om i) ∧ N.1 132 i = nI (x.od i)) ∧ (∀ u, u < 2 → N.1 133 u = nI (x.vs u) ∧ N.1 134 u = nI (x.vd u)) ∧ (∀ u, u < 2 → ∀ i, i < x.vs u → N.1 (136 + u) i = nI (x.tp u i) ∧ N.1 (139 + u) i = nI (x.tt u i)) ∧ (∀ u, u < 2 → 0 < x.vs u → N.1 141 u = nI (x.bk u))
theorem crC.wk {N : mz_N} {H : Kp} {x : CrS} (h : crC N H x) : ∀ j, j < 16 → H.1 8 j = 1 → N.1 122 j = x.wk j := h.1
theorem crC.nn {N : mz_N} {H : Kp} {x : CrS} (h : crC N H x) : N.1 115 2 = nI x.nn := h.2.1
theorem crC.oc {N : mz_N} {H : Kp} {x : CrS} (h : crC N H x) : N.1 115 5 = nI x.oc := h.2.2.1
theorem crC.od {N : mz_N} {H : Kp} {x : CrS} (h : crC N H x) : ∀ i, i < x.oc → N.1 130 i = nI (x.op i) ∧ N.1 131 i = nI (x.om i) ∧ N.1 132 i = nI (x.od i) := h.2.2.2.1
theorem crC.vs {N : mz_N} {H : Kp} {x : CrS} (h : crC N H x) : ∀ u, u < 2 → N.1 133 u = nI (x.vs u) ∧ N.1 134 u = nI (x.vd u) := h.2.2.2.2.1
theorem crC.tp {N : mz_N} {H : Kp} {x : CrS} (h : crC N H x) : ∀ u, u < 2 → ∀ i, i < x.vs u → N.1 (136 + u) i = nI (x.tp u i) ∧ N.1 (139 + u) i = nI (x.tt u i) := h.2.2.2.2.2.1
theorem crC.bk {N : mz_N} {H : Kp} {x : CrS} (h : crC N H x) : ∀ u, u < 2 → 0 < x.vs u → N.1 141 u = nI (x.bk u) := h.2.2.2.2.2.2
def crR (N : mz_N) (H : Kp) (x : CrS) : Prop := (∀ j, j < 16 → H.1 8 j = 1 → N.1 293 j = x.wk j) ∧ (N.2 232 87 = lN x.nn) ∧ (N.1 232 96 = nI x.oc) ∧ (∀ i, i < x.oc → N.1 302 i = nI (x.op i) ∧ N.1 303 i = nI (x.om i) ∧ N.2 304 i = lN (x.od i)) ∧ (∀ u, u < 2 → x.vs u = 0 → N.2 298 u = -1) ∧ (∀ u, u < 2 → 0 < x.vs u → N.1 296 u = nI (x.vs u) ∧ N.1 297 u = nI (x.vd u) ∧ N.2 298 u = lN (x.bk u)) ∧ (∀ u, u < 2 → ∀ i, i < x.vs u → N.1 294 (6 * u + i) = nI (x.tp u i) ∧ N.2 295 (6 * u + i) = lN (x.tt u i))
theorem crR.wk {N : mz_N} {H : Kp} {x : CrS} (h : crR N H x) : ∀ j, j < 16 → H.1 8 j = 1 → N.1 293 j = x.wk j := h.1
theorem crR.nn {N : mz_N} {H : Kp} {x : CrS} (h : crR N H x) : N.2 232 87 = lN x.nn := h.2.1
theorem crR.oc {N : mz_N} {H : Kp} {x : CrS} (h : crR N H x) : N.1 232 96 = nI x.oc := h.2.2.1
theorem crR.od {N : mz_N} {H : Kp} {x : CrS} (h : crR N H x) : ∀ i, i < x.oc → N.1 302 i = nI (x.op i) ∧ N.1 303 i = nI (x.om i) ∧ N.2 304 i = lN (x.od i) := h.2.2.2.1
theorem crR.fr {N : mz_N} {H : Kp} {x : CrS} (h : crR N H x) : ∀ u, u < 2 → x.vs u = 0 → N.2 298 u = -1 := h.2.2.2.2.1
theorem crR.vs {N : mz_N} {H : Kp} {x : CrS} (h : crR N H x) : ∀ u, u < 2 → 0 < x.vs u → N.1 296 u = nI (x.vs u) ∧ N.1 297 u = nI (x.vd u) ∧ N.2 298 u = lN (x.bk u) := h.2.2.2.2.2.1
theorem crR.tp {N : mz_N} {H : Kp} {x : CrS} (h : crR N H x) : ∀ u, u < 2 → ∀ i, i < x.vs u → N.1 294 (6 * u + i) = nI (x.tp u i) ∧ N.2 295 (6 * u + i) = lN (x.tt u i) := h.2.2.2.2.2.2
def cCr : List Nat := [115, 117, 118, 119, 120, 121, 122, 123, 126, 127, 128, 130, 131, 132, 133, 134, 208, 219, 221, 222, 223, 224, 225, 226, 227]
def rCr : List Nat := [232, 287, 288, 289, 290, 293, 296, 297, 302, 303, 306, 307, 329, 330, 331, 332, 333, 341]
def rCl : List Nat := [232, 291, 292, 298, 304, 305]
def crF (N M : mz_N) : Prop := (∀ c, cCr.contains c = false → M.1 c = N.1 c) ∧ (∀ f, f ≠ 4 → M.1 208 f = N.1 208 f) ∧ (M.2 = N.2)
theorem crF.i {N M : mz_N} (h : crF N M) : ∀ c, cCr.contains c = false → M.1 c = N.1 c := h.1
theorem crF.b {N M : mz_N} (h : crF N M) : ∀ f, f ≠ 4 → M.1 208 f = N.1 208 f := h.2.1
theorem crF.l {N M : mz_N} (h : crF N M) : M.2 = N.2 := h.2.2
def crG (N M : mz_N) : Prop := (∀ c, rCr.contains c = false → M.1 c = N.1 c) ∧ (∀ f, f ≠ 96 → f ≠ 133 → f ≠ 135 → f ≠ 136 → f ≠ 137 → f ≠ 139 → M.1 232 f = N.1 232 f) ∧ (∀ c, rCl.contains c = false → M.2 c = N.2 c) ∧ (∀ f, f ≠ 87 → f ≠ 125 → f ≠ 134 → M.2 232 f = N.2 232 f)
theorem crG.i {N M : mz_N} (h : crG N M) : ∀ c, rCr.contains c = false → M.1 c = N.1 c := h.1
theorem crG.f {N M : mz_N} (h : crG N M) : ∀ f, f ≠ 96 → f ≠ 133 → f ≠ 135 → f ≠ 136 → f ≠ 137 → f ≠ 139 → M.1 232 f = N.1 232 f := h.2.1
theorem crG.l {N M : mz_N} (h : crG N M) : ∀ c, rCl.contains c = false → M.2 c = N.2 c := h.2.2.1
theorem crG.g {N M : mz_N} (h : crG N M) : ∀ f, f ≠ 87 → f ≠ 125 → f ≠ 134 → M.2 232 f = N.2 232 f := h.2.2.2
theorem crF_r (N : mz_N) : crF N N := ⟨fun _ _ => rfl, fun _ _ => rfl, rfl⟩
theorem crG_r (N : mz_N) : crG N N := ⟨fun _ _ => rfl, fun _ _ _ _ _ _ _ => rfl, fun _ _ => rfl, fun _ _ _ _ => rfl⟩
theorem crF_t {N M K : mz_N} (h1 : crF N M) (h2 : crF M K) : crF N K := ⟨fun c hc => (h2.i c hc).trans (h1.i c hc), fun f hf => (h2.b f hf).trans (h1.b f hf), h2.l.trans h1.l⟩
theorem crG_t {N M K : mz_N} (h1 : crG N M) (h2 : crG M K) : crG N K := ⟨fun c hc => (h2.i c hc).trans (h1.i c hc), fun f a1 a2 a3 a4 a5 a6 => (h2.f f a1 a2 a3 a4 a5 a6).trans (h1.f f a1 a2 a3 a4 a5 a6), fun c hc => (h2.l c hc).trans (h1.l c hc), fun f a1 a2 a3 => (h2.g f a1 a2 a3).trans (h1.g f a1 a2 a3)⟩
theorem ct_sub {A B : List Nat} {c : Nat} (hs : A.all (fun c => B.contains c) = true) (hc : B.contains c = false) : A.contains c = false := by
  cases e : A.contains c with
  | false => rfl
  | true =>
    have := List.all_eq_true.mp hs c (by simpa using e)
    rw [this] at hc; cases hc
theorem crF_y {N M : mz_N} (h : cyF N M) : crF N M := ⟨fun c hc => h.1 c (ct_sub rfl hc), fun f _ => by rw [h.1 208 rfl], h.2⟩
theorem crG_y {N M : mz_N} (h : ryF N M) : crG N M := ⟨fun c hc => h.1 c (ct_sub rfl hc), fun f _ a1 a2 a3 a4 a5 => h.2.1 f a1 a2 a3 a4 a5, fun c hc => h.2.2.1 c (fun z => by rw [z] at hc; cases hc), fun f _ _ a => h.2.2.2 f a⟩
/-- care, kept things and store of both -/
def CS (B : Nat) (s : st_S) (D H : Kp) (x : CrS) (N1 : mz_N) (b : Bool) (N2 : mz_N) : Prop := (KS B s D H N1 b N2) ∧ (crC N1 H x) ∧ (crR N2 H x)
theorem CS.ks {B : Nat} {s : st_S} {D H : Kp} {x : CrS} {N1 : mz_N} {b : Bool} {N2 : mz_N} (h : CS B s D H x N1 b N2) : KS B s D H N1 b N2 := h.1
theorem CS.cc {B : Nat} {s : st_S} {D H : Kp} {x : CrS} {N1 : mz_N} {b : Bool} {N2 : mz_N} (h : CS B s D H x N1 b N2) : crC N1 H x := h.2.1
theorem CS.cr {B : Nat} {s : st_S} {D H : Kp} {x : CrS} {N1 : mz_N} {b : Bool} {N2 : mz_N} (h : CS B s D H x N1 b N2) : crR N2 H x := h.2.2
theorem crc_y {N M : mz_N} {H : Kp} {x : CrS} (h : cyF N M) (hc : crC N H x) : crC M H x := by
  obtain ⟨c1, c2, c3, c4, c5, c6, c7⟩ := hc
  refine ⟨?_, ?_, ?_, ?_, ?_, fun u hu => ?_, ?_⟩
  · rw [h.1 122 rfl]; exact c1
  · rw [h.1 115 rfl]; exact c2
  · rw [h.1 115 rfl]; exact c3
  · rw [h.1 130 rfl, h.1 131 rfl, h.1 132 rfl]; exact c4
  · rw [h.1 133 rfl, h.1 134 rfl]; exact c5
  · have e1 : M.1 (136 + u) = N.1 (136 + u) := by rcases (show u = 0 ∨ u = 1 by omega) with w | w <;> rw [w] <;> exact h.1 _ rfl
    have e2 : M.1 (139 + u) = N.1 (139 + u) := by rcases (show u = 0 ∨ u = 1 by omega) with w | w <;> rw [w] <;> exact h.1 _ rfl
    rw [e1, e2]; exact c6 u hu
  · rw [h.1 141 rfl]; exact c7
theorem crr_y {N M : mz_N} {H : Kp} {x : CrS} (h : ryF N M) (hc : crR N H x) : crR M H x := by
  obtain ⟨h1, h2, h3, h4⟩ := h
  obtain ⟨c1, c2, c3, c4, c5, c6, c7⟩ := hc
  refine ⟨?_, ?_, ?_, ?_, ?_, ?_, ?_⟩
  · rw [h1 293 rfl]; exact c1
  · rw [h4 87 (by decide)]; exact c2
  · rw [h2 96 (by decide) (by decide) (by decide) (by decide) (by decide)]; exact c3
  · rw [h1 302 rfl, h1 303 rfl, h3 304 (by decide)]; exact c4
  · rw [h3 298 (by decide)]; exact c5
  · rw [h1 296 rfl, h1 297 rfl, h3 298 (by decide)]; exact c6
  · rw [h1 294 rfl, h3 295 (by decide)]; exact c7
/-- a ticket is given: the kept things, the rest -/
def tkH (H : Kp) (p a c q : Nat) (t n : Int32) : Kp := (up (up (up (up H.1 8 (up (H.1 8) p 1)) 9 (up (H.1 9) p a)) 10 (up (H.1 10) p c)) 11 (up (H.1 11) p q), up (up H.2.1 10 (up (H.2.1 10) p t)) 11 (up (H.2.1 11) p n), H.2.2)
def tkX (x : CrS) (p : Nat) : CrS := (up x.wk p (-1), x.nn + 1, x.oc, x.op, x.om, x.od, x.vs, x.vd, x.tp, x.tt, x.bk)
theorem tkH_1 {H : Kp} {p a c q : Nat} {t n : Int32} : ∀ f, f ≠ 8 → f ≠ 9 → f ≠ 10 → f ≠ 11 → (tkH H p a c q t n).1 f = H.1 f := fun f h1 h2 h3 h4 => by
  show up (up (up (up H.1 8 _) 9 _) 10 _) 11 _ f = _
  rw [up_d, if_neg h4, up_d, if_neg h3, up_d, if_neg h2, up_d, if_neg h1]
theorem tkH_2 {H : Kp} {p a c q : Nat} {t n : Int32} : ∀ f, f ≠ 10 → f ≠ 11 → (tkH H p a c q t n).2.1 f = H.2.1 f := fun f h1 h2 => by
  show up (up H.2.1 10 _) 11 _ f = _
  rw [up_d, if_neg h2, up_d, if_neg h1]
theorem tkH_b {H : Kp} {p a c q : Nat} {t n : Int32} (h : kpb H) (ha : a < 256) (hc : c < 256) (hq : q < 256) : kpb (tkH H p a c q t n) := by
  obtain ⟨h0, h1, h2, h3, h4, h5, h6, h7, h8, h9, h10, h11, h12, h13, h14, h15, h16⟩ := h
  refine ⟨h0, h1, h2, h3, h4, h5, h6, h7, h8, fun j => ?_, fun j => ⟨?_, ?_, ?_⟩, h11, h12, h13, h14, h15, h16⟩
  · show up (H.1 8) p 1 j ≤ 1
    rw [up_d]; split; exact Nat.le_refl _; exact h9 j
  · show up (H.1 9) p a j < 256
    rw [up_d]; split; exact ha; exact (h10 j).1
  · show up (H.1 10) p c j < 256
    rw [up_d]; split; exact hc; exact (h10 j).2.1
  · show up (H.1 11) p q j < 256
    rw [up_d]; split; exact hq; exact (h10 j).2.2
section Gv
variable {N : mz_N} {b : Bool} {H : Kp} {x : CrS} {p a c q : Nat} {t : Int32}
theorem give_c (hk : c_kp N b H) (hc : crC N H x) (hp : p < 16) : cp_260_0 (nI p) (nI a) (nI c) (nI q) t N ∧ c_kp (cf_260_0 (nI p) (nI a) (nI c) (nI q) t N) b (tkH H p a c q t (nI x.nn)) ∧ crC (cf_260_0 (nI p) (nI a) (nI c) (nI q) t N) (tkH H p a c q t (nI x.nn)) (tkX x p) ∧ fr [115, 117, 118, 119, 120, 121, 122, 123] N (cf_260_0 (nI p) (nI a) (nI c) (nI q) t N) := by
  have cl : (nI p).toNatClampNeg = p := nI_clamp (by omega)
  have ib : mz_ib (nI p) 16 := ib_n hp (by omega)
  have e2 : N.1 115 2 = nI x.nn := hc.nn
  generalize hM : cf_260_0 (nI p) (nI a) (nI c) (nI q) t N = M
  have g123 : M.1 123 = upd (N.1 123) p 1 := by rw [show M.1 123 = upd (N.1 123) (nI p).toNatClampNeg 1 by rw [← hM]; rfl, cl]
  have g118 : M.1 118 = upd (N.1 118) p (nI a) := by rw [show M.1 118 = upd (N.1 118) (nI p).toNatClampNeg (nI a) by rw [← hM]; rfl, cl]
  have g119 : M.1 119 = upd (N.1 119) p (nI c) := by rw [show M.1 119 = upd (N.1 119) (nI p).toNatClampNeg (nI c) by rw [← hM]; rfl, cl]
  have g120 : M.1 120 = upd (N.1 120) p (nI q) := by rw [show M.1 120 = upd (N.1 120) (nI p).toNatClampNeg (nI q) by rw [← hM]; rfl, cl]
  have g122 : M.1 122 = upd (N.1 122) p (-1) := by rw [show M.1 122 = upd (N.1 122) (nI p).toNatClampNeg (-1) by rw [← hM]; rfl, cl]
  have g117 : M.1 117 = upd (N.1 117) p (nI x.nn) := by rw [show M.1 117 = upd (N.1 117) (nI p).toNatClampNeg (N.1 115 2) by rw [← hM]; rfl, cl, e2]
  have g121 : M.1 121 = upd (N.1 121) p t := by rw [show M.1 121 = upd (N.1 121) (nI p).toNatClampNeg t by rw [← hM]; rfl, cl]
  have g115 : M.1 115 = upd (N.1 115) 2 (nI (x.nn + 1)) := by rw [show M.1 115 = upd (N.1 115) 2 (N.1 115 2 + 1) by rw [← hM]; rfl, e2, nI_1]
  have gf : fr [115, 117, 118, 119, 120, 121, 122, 123] N M := by
    rw [← hM, cf_260_0, cf_260_41, cf_68_0]
    refine ⟨fun d hd => ?_, rfl⟩
    have k0 : d ≠ 115 ∧ d ≠ 117 ∧ d ≠ 118 ∧ d ≠ 119 ∧ d ≠ 120 ∧ d ≠ 121 ∧ d ≠ 122 ∧ d ≠ 123 := by
      simp only [List.contains_eq_mem, List.mem_cons, List.not_mem_nil, or_false, decide_eq_false_iff_not] at hd
      omega
    obtain ⟨n1, n2, n3, n4, n5, n6, n7, n8⟩ := k0
    rw [pI_s, sI_n n1, wI_s, sI_n n6, wI_s, sI_n n2, wI_s, sI_n n7, wI_s, sI_n n5, wI_s, sI_n n4, wI_s, sI_n n3, wI_s, sI_n n8]
  clear hM
  refine ⟨⟨⟨ib, ib, ib, ib, ib⟩, ib, ib, trivial⟩, ?_, ?_, gf⟩
  · have k12 := hk.2.2.2.2.2.2.2.2.2.2.2.2.2.1
    refine ckp_12 hk (fq_fr gf) rfl rfl tkH_1 tkH_2 (fun _ => rfl) (fun j hj => ?_)
    obtain ⟨a1, a2⟩ := k12 j hj
    rw [g123, g118, g119, g120, g121, g117]
    show upd _ _ _ j = nI (up (H.1 8) p 1 j) ∧ (up (H.1 8) p 1 j = 1 → upd _ _ _ j = nI (up (H.1 9) p a j) ∧ upd _ _ _ j = nI (up (H.1 10) p c j) ∧ upd _ _ _ j = nI (up (H.1 11) p q j) ∧ upd _ _ _ j = up (H.2.1 10) p t j ∧ upd _ _ _ j = up (H.2.1 11) p (nI x.nn) j)
    simp only [up_a, up_d]
    by_cases w : j = p
    · simp only [if_pos w]; exact ⟨rfl, fun _ => ⟨trivial, trivial, trivial, trivial, trivial⟩⟩
    · simp only [if_neg w]; exact ⟨a1, a2⟩
  · obtain ⟨c1, c2, c3, c4, c5, c6, c7⟩ := hc
    refine ⟨fun j hj => ?_, ?_, ?_, ?_, ?_, fun u hu => ?_, ?_⟩
    · show up (H.1 8) p 1 j = 1 → _ = up x.wk p (-1) j
      rw [g122]
      simp only [up_a, up_d]
      by_cases w : j = p
      · simp only [if_pos w]; exact fun _ => trivial
      · simp only [if_neg w]; exact c1 j hj
    · rw [g115, up_a, if_pos rfl]; rfl
    · rw [g115, up_a, if_neg (by decide)]; exact c3
    · rw [gf.1 130 rfl, gf.1 131 rfl, gf.1 132 rfl]; exact c4
    · rw [gf.1 133 rfl, gf.1 134 rfl]; exact c5
    · have e1 : M.1 (136 + u) = N.1 (136 + u) := by rcases (show u = 0 ∨ u = 1 by omega) with w | w <;> rw [w] <;> exact gf.1 _ rfl
      have e2 : M.1 (139 + u) = N.1 (139 + u) := by rcases (show u = 0 ∨ u = 1 by omega) with w | w <;> rw [w] <;> exact gf.1 _ rfl
      rw [e1, e2]; exact c6 u hu
    · rw [gf.1 141 rfl]; exact c7
theorem free_c (hk : c_kp N b H) (hb : kpb H) : cp_259_0 N ∧ cf_259_0 N = nO 16 (fz (H.1 8) 16) := by
  have k12 := hk.2.2.2.2.2.2.2.2.2.2.2.2.2.1
  have b8 : ∀ j, H.1 8 j ≤ 1 := hb.2.2.2.2.2.2.2.2.2.1
  rw [cp_259_0, cf_259_0, cp_259_2, cf_259_2]
  refine lp_fz (f := cq_259_2 N) (P := cd_259_2 N) (r := nO 16 (fz (H.1 8) 16)) (H.1 8) 16 (fun j hj h0 => ?_) ?_
  · have l : nI j < 16 := (nI_ltI (b := 16) (by omega) (by omega)).mpr hj
    have g : mz_gI N 123 (nI j) = nI (H.1 8 j) := by rw [gI_a, nI_clamp (by omega)]; exact (k12 j hj).1
    have n0 : ¬ nI (H.1 8 j) = 0 := fun z => h0 ((nI_eq0 (by have := b8 j; omega)).mp z)
    rw [cd_259_2, cq_259_2]
    simp only [l, if_true, g, n0, if_false, nI_1]
    exact ⟨⟨fun _ => ib_n hj (by omega), fun z => absurd trivial z⟩, trivial⟩
  · have hz := fz_z (t := H.1 8) 16
    have hl := fz_le (H.1 8) 16
    generalize fz (H.1 8) 16 = p at hz hl ⊢
    rw [cd_259_2, cq_259_2]
    by_cases w : p < 16
    · have l : nI p < 16 := (nI_ltI (b := 16) (by omega) (by omega)).mpr w
      have g : mz_gI N 123 (nI p) = 0 := by rw [gI_a, nI_clamp (by omega), (k12 p w).1, hz w]; rfl
      rw [if_pos l, if_pos g, nO_lt w]
      exact ⟨⟨fun _ => ib_n w (by omega), fun z => absurd l z⟩, rfl⟩
    · have l : ¬ nI p < 16 := fun z => w ((nI_ltI (b := 16) (by omega) (by omega)).mp z)
      rw [if_neg l, nO_ge w]
      exact ⟨⟨fun z => absurd z l, fun _ => trivial⟩, rfl⟩
/-- cells of the reference in which a ticket stands -/
def tkr (N M : mz_N) : Prop := fq [287, 288, 289, 290, 293] [232, 291, 292] N M ∧ ∀ f, f ≠ 87 → M.2 232 f = N.2 232 f
theorem give_r (hk : r_kp N H) (hc : crR N H x) (hb : kpb H) (hn : x.nn < 2 ^ 31) : cp_536_0 (nI a) (nI c) (nI q) N ∧ (fz (H.1 8) 16 = 16 → cf_536_0 (nI a) (nI c) (nI q) N = (-1, N)) ∧ (fz (H.1 8) 16 < 16 → ∃ M, cf_536_0 (nI a) (nI c) (nI q) N = (nI (fz (H.1 8) 16), M) ∧ r_kp M (tkH H (fz (H.1 8) 16) a c q (H.2.1 5 0) (nI x.nn)) ∧ crR M (tkH H (fz (H.1 8) 16) a c q (H.2.1 5 0) (nI x.nn)) (tkX x (fz (H.1 8) 16)) ∧ tkr N M) := by
  have k12 := hk.2.2.2.2.2.2.2.2.2.2.2.2.2.1
  have k9 := hk.2.2.2.2.2.2.2.2.2.2.1
  have b8 : ∀ j, H.1 8 j ≤ 1 := hb.2.2.2.2.2.2.2.2.2.1
  have hz := fz_z (t := H.1 8) 16
  have hl := fz_le (H.1 8) 16
  have Z : cp_536_0 (nI a) (nI c) (nI q) N ∧ cf_536_0 (nI a) (nI c) (nI q) N = cf_536_26 (nI a) (nI c) (nI q) (nI (fz (H.1 8) 16)) N := by
    have P26 : cp_536_26 (nI a) (nI c) (nI q) (nI (fz (H.1 8) 16)) N := by
      rw [cp_536_26]
      refine ⟨fun _ => trivial, fun w => ?_⟩
      have w2 : fz (H.1 8) 16 < 16 := by
        rcases Nat.lt_or_ge (fz (H.1 8) 16) 16 with z | z
        · exact z
        · exact absurd (show nI (fz (H.1 8) 16) = 16 by rw [show fz (H.1 8) 16 = 16 by omega]; rfl) w
      have ib : mz_ib (nI (fz (H.1 8) 16)) 16 := ib_n w2 (by omega)
      exact ⟨ib, ib, ib, ib, ib, ib, ib⟩
    rw [cp_536_0, cf_536_0, cp_536_3, cf_536_3]
    refine lp_fz (f := cq_536_3 (nI a) (nI c) (nI q) N) (P := cd_536_3 (nI a) (nI c) (nI q) N) (r := cf_536_26 (nI a) (nI c) (nI q) (nI (fz (H.1 8) 16)) N) (H.1 8) 16 (fun j hj h0 => ?_) ?_
    · have l : nI j < 16 := (nI_ltI (b := 16) (by omega) (by omega)).mpr hj
      have g0 : mz_gI N 287 (nI j) = nI (H.1 8 j) := by rw [gI_a, nI_clamp (by omega)]; exact (k12 j hj).1
      have g : mz_gZ N 287 (nI j) = true := by
        rw [gZ_a, nI_clamp (by omega), (k12 j hj).1, show H.1 8 j = 1 by have := b8 j; omega]; rfl
      rw [cd_536_3, cq_536_3]
      simp only [l, if_true, g, g0, nI_1]
      exact ⟨⟨fun _ => ⟨ib_n hj (by omega), z01_n (b8 j), fun _ => trivial, fun z => absurd trivial z⟩, fun z => absurd trivial z⟩, trivial⟩
    · generalize fz (H.1 8) 16 = p at hz hl P26 ⊢
      rw [cd_536_3, cq_536_3]
      by_cases w : p < 16
      · have l : nI p < 16 := (nI_ltI (b := 16) (by omega) (by omega)).mpr w
        have g0 : mz_gI N 287 (nI p) = nI (H.1 8 p) := by rw [gI_a, nI_clamp (by omega)]; exact (k12 p w).1
        have g : ¬ mz_gZ N 287 (nI p) = true := by
          rw [gZ_a, nI_clamp (by omega), (k12 p w).1, hz w]; decide
        rw [if_pos l, if_neg g, g0]
        exact ⟨⟨fun _ => ⟨ib_n w (by omega), z01_n (b8 p), fun z => absurd z g, fun _ => P26⟩, fun z => absurd l z⟩, rfl⟩
      · have l : ¬ nI p < 16 := fun z => w ((nI_ltI (b := 16) (by omega) (by omega)).mp z)
        rw [if_neg l]
        exact ⟨⟨fun z => absurd z l, fun _ => P26⟩, rfl⟩
  refine ⟨Z.1, fun w => ?_, fun w => ?_⟩
  · rw [Z.2, w, cf_536_26, if_pos (show nI 16 = 16 from rfl)]
  · rw [Z.2]
    clear Z
    generalize fz (H.1 8) 16 = p at w ⊢
    have n16 : ¬ nI p = 16 := fun z => by have := (nI_eq (b := 16) (by omega) (by omega)).mp z; omega
    have cl : (nI p).toNatClampNeg = p := nI_clamp (by omega)
    rw [cf_536_26, if_neg n16, cf_536_89]
    refine ⟨_, rfl, ?_⟩
    generalize hM : mz_pL (mz_wI (mz_wL (mz_wL (mz_wI (mz_wI (mz_wI (mz_wI N 287 (nI p) (mz_b01 true)) 288 (nI p) (nI a)) 289 (nI p) (nI c)) 290 (nI p) (nI q)) 291 (nI p) ((mz_wI (mz_wI (mz_wI (mz_wI N 287 (nI p) (mz_b01 true)) 288 (nI p) (nI a)) 289 (nI p) (nI c)) 290 (nI p) (nI q)).2 232 2)) 292 (nI p) ((mz_wL (mz_wI (mz_wI (mz_wI (mz_wI N 287 (nI p) (mz_b01 true)) 288 (nI p) (nI a)) 289 (nI p) (nI c)) 290 (nI p) (nI q)) 291 (nI p) ((mz_wI (mz_wI (mz_wI (mz_wI N 287 (nI p) (mz_b01 true)) 288 (nI p) (nI a)) 289 (nI p) (nI c)) 290 (nI p) (nI q)).2 232 2)).2 232 87)) 293 (nI p) (-1)) 232 87 _ = M
    have g287 : M.1 287 = upd (N.1 287) p 1 := by rw [show M.1 287 = upd (N.1 287) (nI p).toNatClampNeg 1 by rw [← hM]; rfl, cl]
    have g288 : M.1 288 = upd (N.1 288) p (nI a) := by rw [show M.1 288 = upd (N.1 288) (nI p).toNatClampNeg (nI a) by rw [← hM]; rfl, cl]
    have g289 : M.1 289 = upd (N.1 289) p (nI c) := by rw [show M.1 289 = upd (N.1 289) (nI p).toNatClampNeg (nI c) by rw [← hM]; rfl, cl]
    have g290 : M.1 290 = upd (N.1 290) p (nI q) := by rw [show M.1 290 = upd (N.1 290) (nI p).toNatClampNeg (nI q) by rw [← hM]; rfl, cl]
    have g293 : M.1 293 = upd (N.1 293) p (-1) := by rw [show M.1 293 = upd (N.1 293) (nI p).toNatClampNeg (-1) by rw [← hM]; rfl, cl]
    have g291 : M.2 291 = vp_updL (N.2 291) p (N.2 232 2) := by rw [show M.2 291 = vp_updL (N.2 291) (nI p).toNatClampNeg (N.2 232 2) by rw [← hM]; rfl, cl]
    have g292 : M.2 292 = vp_updL (N.2 292) p (N.2 232 87) := by rw [show M.2 292 = vp_updL (N.2 292) (nI p).toNatClampNeg (N.2 232 87) by rw [← hM]; rfl, cl]
    have g232 : M.2 232 = vp_updL (N.2 232) 87 (N.2 232 87 + 1) := by rw [← hM]; rfl
    have gf : fq [287, 288, 289, 290, 293] [232, 291, 292] N M := by rw [← hM]; exact fq_pL (fq_wI (fq_wL (fq_wL (fq_wI (fq_wI (fq_wI (fq_wI (fq_refl _ _ _) rfl) rfl) rfl) rfl) rfl) rfl) rfl) rfl
    clear hM
    have gB : ∀ f, f ≠ 87 → M.2 232 f = N.2 232 f := fun f hf => by rw [g232, upL_a, if_neg hf]
    refine ⟨?_, ?_, gf, gB⟩
    · refine rkp_12 hk gf rfl rfl (by rw [gf.1 232 rfl]) (by rw [gf.1 232 rfl]) (fun f hf => gB f (by omega)) tkH_1 tkH_2 (fun _ => rfl) (fun j hj => ?_)
      obtain ⟨a1, a2⟩ := k12 j hj
      rw [g287, g288, g289, g290, g291, g292, k9.1, hc.nn]
      show upd _ _ _ j = nI (up (H.1 8) p 1 j) ∧ (up (H.1 8) p 1 j = 1 → upd _ _ _ j = nI (up (H.1 9) p a j) ∧ upd _ _ _ j = nI (up (H.1 10) p c j) ∧ upd _ _ _ j = nI (up (H.1 11) p q j) ∧ vp_updL _ _ _ j = (up (H.2.1 10) p (H.2.1 5 0) j).toInt64 ∧ vp_updL _ _ _ j = (up (H.2.1 11) p (nI x.nn) j).toInt64)
      simp only [up_a, up_d, upL_a]
      by_cases v : j = p
      · simp only [if_pos v]; exact ⟨rfl, fun _ => ⟨trivial, trivial, trivial, trivial, (nI_L hn).symm⟩⟩
      · simp only [if_neg v]; exact ⟨a1, a2⟩
    · obtain ⟨c1, c2, c3, c4, c5, c6, c7⟩ := hc
      refine ⟨fun j hj => ?_, ?_, ?_, ?_, ?_, ?_, ?_⟩
      · show up (H.1 8) p 1 j = 1 → _ = up x.wk p (-1) j
        rw [g293]
        simp only [up_a, up_d]
        by_cases v : j = p
        · simp only [if_pos v]; exact fun _ => trivial
        · simp only [if_neg v]; exact c1 j hj
      · rw [g232, upL_a, if_pos rfl, c2]; exact lN_1 _
      · rw [gf.1 232 rfl]; exact c3
      · rw [gf.1 302 rfl, gf.1 303 rfl, gf.2 304 rfl]; exact c4
      · rw [gf.2 298 rfl]; exact c5
      · rw [gf.1 296 rfl, gf.1 297 rfl, gf.2 298 rfl]; exact c6
      · rw [gf.1 294 rfl, gf.2 295 rfl]; exact c7
end Gv
