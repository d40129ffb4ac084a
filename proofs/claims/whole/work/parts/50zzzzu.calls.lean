/-! PURE (50zzzzu): what every call asks first. -/
section Cb
variable {N N1 N2 : mz_N} {a st : Bool} {v : Int32}
theorem c104_u (h : N.1 219 7 = 0) : cp_104_0 N ∧ cf_104_0 N = 0 := by
  have e : mz_fZ N 219 7 = false := by show decide (N.1 219 7 = 1) = false; rw [h]; rfl
  rw [cp_104_0, cf_104_0, e, h]
  exact ⟨Or.inl rfl, if_neg (fun z => by cases z)⟩
theorem c104_d (h : N.1 219 7 = 1) : cp_104_0 N ∧ cf_104_0 N = 2 := by
  have e : mz_fZ N 219 7 = true := by show decide (N.1 219 7 = 1) = true; rw [h]; rfl
  rw [cp_104_0, cf_104_0, e, h]
  exact ⟨Or.inr rfl, if_pos rfl⟩
/-- the code of a refused call -/
def fcd (a st : Bool) : Nat := if a = true then (if st = true then 0 else 2) else 1
theorem f462_29 {c : Nat} (hc : c ≤ 2) : cf_462_29 (nI c) N = (decide (0 < c), mz_pI N 232 0 (nI c)) := by
  rw [cf_462_29, show (mz_pI N 232 0 (nI c)).1 232 0 = nI c from rfl]
  rcases (show c = 0 ∨ c = 1 ∨ c = 2 by omega) with w | w | w <;> subst w <;> rfl
theorem f462_u (h : N.1 232 137 = 0) : cp_462_0 a st N ∧ cf_462_0 a st N = (!(a && st), mz_pI N 232 0 (nI (fcd a st))) := by
  have e : mz_fZ N 232 137 = false := by show decide (N.1 232 137 = 1) = false; rw [h]; rfl
  have nf : ¬ (false = true) := fun z => by cases z
  rw [cp_462_0, cf_462_0, e, h, if_neg nf]
  have T : ∀ c, c ≤ 2 → cp_462_29 (nI c) N := fun _ _ => trivial
  refine ⟨⟨Or.inl rfl, fun z => absurd z nf, fun _ => ⟨fun _ => ⟨fun _ => trivial, fun _ => trivial⟩, fun _ => trivial⟩⟩, ?_⟩
  cases a with
  | true =>
    cases st with
    | true => rw [if_pos rfl, if_pos rfl]; exact f462_29 (c := 0) (by omega)
    | false => rw [if_pos rfl, if_neg nf]; exact f462_29 (c := 2) (by omega)
  | false => rw [if_neg nf]; exact f462_29 (c := 1) (by omega)
theorem f462_d (h : N.1 232 137 = 1) : cp_462_0 a st N ∧ cf_462_0 a st N = (true, mz_pI N 232 0 2) := by
  have e : mz_fZ N 232 137 = true := by show decide (N.1 232 137 = 1) = true; rw [h]; rfl
  rw [cp_462_0, cf_462_0, e, h, if_pos rfl]
  exact ⟨⟨Or.inr rfl, fun _ => trivial, fun z => absurd rfl z⟩, f462_29 (c := 2) (by omega)⟩
theorem f484_u (h : N.1 232 137 = 0) : cp_484_0 N ∧ cf_484_0 N = (false, mz_pI N 232 0 0) := by
  have e : mz_fZ N 232 137 = false := by show decide (N.1 232 137 = 1) = false; rw [h]; rfl
  have nf : ¬ (false = true) := fun z => by cases z
  have e2 : (mz_pI N 232 0 (mz_b01 false)).1 232 137 = 0 := h
  rw [cp_484_0, cf_484_0, e, h, if_neg nf, cp_484_13, cf_484_13, cp_484_13]
  refine ⟨⟨Or.inl rfl, fun z => absurd z nf, fun _ => by rw [e2]; exact Or.inl rfl⟩, ?_⟩
  show (decide ((mz_pI N 232 0 (mz_b01 false)).1 232 137 = 1), mz_pI N 232 0 0) = _
  rw [e2]; rfl
theorem in_c {lo hi : Nat} (hh : hi < 2 ^ 31) (hl : lo ≤ hi) : cp_105_0 v (nI lo) (nI hi) ∧ ((∃ k, lo ≤ k ∧ k ≤ hi ∧ v = nI k ∧ cf_105_0 v (nI lo) (nI hi) = 0 ∧ cf_466_0 v.toInt64 (nI lo).toInt64 (nI hi).toInt64 = true) ∨ (cf_105_0 v (nI lo) (nI hi) = 1 ∧ cf_466_0 v.toInt64 (nI lo).toInt64 (nI hi).toInt64 = false)) := by
  refine ⟨⟨fun _ => trivial, fun _ => ⟨fun _ => trivial, fun _ => trivial⟩⟩, ?_⟩
  rw [cf_105_0, cf_466_0]
  by_cases a : v < nI lo
  · rw [if_pos a, if_pos ((l64_lt _ _).mpr a)]
    exact Or.inr ⟨rfl, rfl⟩
  · rw [if_neg a, if_neg (fun z => a ((l64_lt _ _).mp z))]
    by_cases c : nI hi < v
    · rw [if_pos c, if_pos ((l64_lt _ _).mpr c)]
      exact Or.inr ⟨rfl, rfl⟩
    · rw [if_neg c, if_neg (fun z => c ((l64_lt _ _).mp z))]
      rw [Int32.lt_iff_toInt_lt, nI_toInt (by omega)] at a c
      refine Or.inl ⟨v.toInt.toNat, by omega, by omega, ?_, rfl, rfl⟩
      apply Int32.toInt_inj.mp
      rw [nI_toInt (by omega)]
      omega
/-- both answer alike: the code, and what a call says -/
def qok {α : Type} (N2 : mz_N) (c : Nat × α) (r : α × mz_N) : Prop := c.1 ≤ 2 ∧ r.2 = mz_pI N2 232 0 (nI c.1) ∧ (c.1 = 0 → r.1 = c.2)
theorem lsame : ∀ c : Nat, c < 2001 → (nI c).toInt64 = lN c := fun c hc => nI_L (by omega)
end Cb
section Qu
variable {N1 N2 : mz_N} {b : Bool} {B q : Nat} {s : st_S} {D H : Kp} {x : CrS} {L : LvS} {v1 v2 v3 : Int32}
theorem MR_u1 (h : MR q B s D H x L N1 b N2) : N1.1 219 7 = 0 := h.cs.ks.c.2.2.2.2.1
theorem MR_u2 (h : MR q B s D H x L N1 b N2) : N2.1 232 137 = 0 := h.cs.ks.r.2.2.2.2.1
theorem l32 (a : Int32) : a.toInt64.toInt32 = a := toInt64_32 a
theorem in_r (hi : Nat) (hh : hi < 2 ^ 31) (v : Int32) {w : Int32} {g : Int64} (hw : w = nI hi) (hg : g = (nI hi).toInt64) : cp_105_0 v 0 w ∧ ((∃ k, k ≤ hi ∧ v = nI k ∧ cf_105_0 v 0 w = 0 ∧ cf_466_0 v.toInt64 0 g = true) ∨ (cf_105_0 v 0 w = 1 ∧ cf_466_0 v.toInt64 0 g = false)) := by
  obtain ⟨p, c⟩ := in_c (v := v) (lo := 0) (hi := hi) hh (Nat.zero_le _)
  subst hw hg
  refine ⟨p, ?_⟩
  rcases c with ⟨k, _, a, b', c, d⟩ | ⟨c, d⟩
  · exact Or.inl ⟨k, a, b', c, d⟩
  · exact Or.inr ⟨c, d⟩
theorem n00 : nI 0 = 0 := rfl
theorem n01 : nI 1 = 1 := rfl
theorem F_t (h : MR q B s D H x L N1 b N2) : cp_462_0 true true N2 ∧ cf_462_0 true true N2 = (false, mz_pI N2 232 0 0) := f462_u (MR_u2 h)
theorem F_f (h : MR q B s D H x L N1 b N2) : cp_462_0 false true N2 ∧ cf_462_0 false true N2 = (true, mz_pI N2 232 0 1) := f462_u (MR_u2 h)
theorem F_s (h : MR q B s D H x L N1 b N2) : cp_462_0 true false N2 ∧ cf_462_0 true false N2 = (true, mz_pI N2 232 0 2) := f462_u (MR_u2 h)
theorem nI_lit {m c : Nat} (hm : m < 1000) (hc : c < 1000) : (nI m = nI c) = (m = c) := propext (nI_eq (by omega) (by omega))
theorem meter_ok (h : MR q B s D H x L N1 b N2) : cp_356_0 v1 v2 N1 ∧ cp_586_0 v1 v2 N2 ∧ qok N2 (cf_356_0 v1 v2 N1) (cf_586_0 v1 v2 N2) := by
  obtain ⟨u1, u2⟩ := c104_u (MR_u1 h)
  obtain ⟨p1, c1⟩ := in_r 10 (by omega) v1 (w := 10) (g := 10) rfl rfl
  obtain ⟨p2, c2⟩ := in_r 2 (by omega) v2 (w := 2) (g := 2) rfl rfl
  have k8 := h.cs.ks.kc.2.2.2.2.2.2.2.2.1
  have r8 := h.cs.ks.kr.2.2.2.2.2.2.2.2.1
  obtain ⟨F1, F2⟩ := F_t h
  obtain ⟨F3, F4⟩ := F_f h
  rcases c1 with ⟨k, hk, rfl, i1, j1⟩ | ⟨i1, j1⟩
  · rcases c2 with ⟨m, hm, rfl, i2, j2⟩ | ⟨i2, j2⟩
    · have ib : mz_ib (nI k) 11 := ib_n (by omega) (by omega)
      have ib2 : mz_ib (nI m) 3 := ib_n (by omega) (by omega)
      have cl : (nI k).toNatClampNeg = k := nI_clamp (by omega)
      have cl2 : (nI m).toNatClampNeg = m := nI_clamp (by omega)
      have z0 : (nI m = 0) = (m = 0) := nI_lit (c := 0) (by omega) (by omega)
      have z1 : (nI m = 1) = (m = 1) := nI_lit (c := 1) (by omega) (by omega)
      have ga : mz_gI N1 (210 + m) (nI k) = if m = 0 then H.2.1 2 k else if m = 1 then H.2.1 3 k else H.2.1 4 k := by
        rw [gI_a, cl]
        rcases (show m = 0 ∨ m = 1 ∨ m = 2 by omega) with w | w | w <;> subst w
        · exact (k8 k (by omega)).1
        · exact (k8 k (by omega)).2.1
        · exact (k8 k (by omega)).2.2
      have gb : (mz_gL (mz_pI N2 232 0 0) 321 (nI k)).toInt32 = H.2.1 2 k := by rw [gL_a, cl]; show (N2.2 321 k).toInt32 = _; rw [(r8 k (by omega)).1, l32]
      have gc : (mz_gL (mz_pI N2 232 0 0) 322 (nI k)).toInt32 = H.2.1 3 k := by rw [gL_a, cl]; show (N2.2 322 k).toInt32 = _; rw [(r8 k (by omega)).2.1, l32]
      have gd : (mz_gL (mz_pI N2 232 0 0) 323 (nI k)).toInt32 = H.2.1 4 k := by rw [gL_a, cl]; show (N2.2 323 k).toInt32 = _; rw [(r8 k (by omega)).2.2, l32]
      rcases (show m = 0 ∨ m = 1 ∨ m = 2 by omega) with w | w | w
      · have w0 : (m = 0) = True := eq_true w
        have w1 : (m = 1) = False := eq_false (by omega)
        simp [cp_356_0, cf_356_0, cp_586_0, cf_586_0, cp_586_30, cf_586_30, u1, u2, p1, p2, i1, j1, i2, j2, F1, F2, qok, ib, ib2, cl2, z0, z1, ga, gb, gc, gd, n00, w0, w1]
      · have w0 : (m = 0) = False := eq_false (by omega)
        have w1 : (m = 1) = True := eq_true w
        simp [cp_356_0, cf_356_0, cp_586_0, cf_586_0, cp_586_30, cf_586_30, u1, u2, p1, p2, i1, j1, i2, j2, F1, F2, qok, ib, ib2, cl2, z0, z1, ga, gb, gc, gd, n00, w0, w1]
      · have w0 : (m = 0) = False := eq_false (by omega)
        have w1 : (m = 1) = False := eq_false (by omega)
        simp [cp_356_0, cf_356_0, cp_586_0, cf_586_0, cp_586_30, cf_586_30, u1, u2, p1, p2, i1, j1, i2, j2, F1, F2, qok, ib, ib2, cl2, z0, z1, ga, gb, gc, gd, n00, w0, w1]
    · simp [cp_356_0, cf_356_0, cp_586_0, cf_586_0, cp_586_29, cf_586_29, cp_586_30, cf_586_30, u1, u2, p1, p2, i1, j1, i2, j2, F3, F4, qok, n01]
  · simp [cp_356_0, cf_356_0, cp_586_0, cf_586_0, cp_586_29, cf_586_29, cp_586_30, cf_586_30, u1, u2, p1, p2, i1, j1, F3, F4, qok, n01]
end Qu
section Cx
variable {N N1 N2 : mz_N} {b : Bool} {B q : Nat} {s : st_S} {D H : Kp} {x : CrS} {L : LvS} {v v1 v2 v3 : Int32}
theorem i105 {hi : Nat} (hh : hi + 1 < 2 ^ 31) : decide (cf_105_0 v 0 (nI hi) = 0) = (if v < 0 then false else (if v < nI (hi + 1) then true else false)) := by
  rw [cf_105_0]
  by_cases a : v < 0
  · rw [if_pos a, if_pos a]; rfl
  · rw [if_neg a, if_neg a]
    have e : (nI hi < v) ↔ ¬ v < nI (hi + 1) := by
      rw [Int32.lt_iff_toInt_lt, Int32.lt_iff_toInt_lt, nI_toInt (by omega), nI_toInt (by omega)]
      omega
    by_cases c : v < nI (hi + 1)
    · rw [if_pos c, if_neg (fun z => e.mp z c)]; rfl
    · rw [if_neg c, if_pos (e.mpr c)]; rfl
theorem cell_in : cf_491_0 v1 v2 = (decide (cf_105_0 v1 0 4 = 0) && decide (cf_105_0 v2 0 47 = 0)) := by
  rw [cf_491_0, cf_465_0, show (4 : Int32) = nI 4 from rfl, show (47 : Int32) = nI 47 from rfl, i105 (by omega), i105 (by omega)]
  show (if (if v1 < 0 then false else if v1 < 5 then true else false) = true then _ else false) = ((if v1 < 0 then false else if v1 < 5 then true else false) && if v2 < 0 then false else if v2 < 48 then true else false)
  cases (if v1 < 0 then false else if v1 < 5 then true else false) <;> rfl
theorem edge_in : cf_464_0 v1 v2 = (decide (cf_105_0 v1 0 4 = 0) && decide (cf_105_0 v2 0 109 = 0)) := by
  rw [cf_464_0, cf_465_0, show (4 : Int32) = nI 4 from rfl, show (109 : Int32) = nI 109 from rfl, i105 (by omega), i105 (by omega)]
  show (if (if v1 < 0 then false else if v1 < 5 then true else false) = true then _ else false) = ((if v1 < 0 then false else if v1 < 5 then true else false) && if v2 < 0 then false else if v2 < 110 then true else false)
  cases (if v1 < 0 then false else if v1 < 5 then true else false) <;> rfl
theorem F_c (h : MR q B s D H x L N1 b N2) : cp_484_0 N2 ∧ cf_484_0 N2 = (false, mz_pI N2 232 0 0) := f484_u (MR_u2 h)
theorem spaces_ok (h : MR q B s D H x L N1 b N2) : cp_154_0 N1 ∧ cp_485_0 N2 ∧ qok N2 (cf_154_0 N1) (cf_485_0 N2) := by
  obtain ⟨u1, u2⟩ := c104_u (MR_u1 h)
  obtain ⟨F1, F2⟩ := F_c h
  have ga : N1.1 2 7 = nI (pl_n (H.1 0)) := h.lr.pl.1.1
  have gb : (mz_pI N2 232 0 0).1 232 7 = nI (pl_n (H.1 0)) := h.lr.pl.2.1
  simp [cp_154_0, cf_154_0, cp_485_0, cf_485_0, u1, u2, F1, F2, qok, n00, ga, gb]
theorem alarms_ok (h : MR q B s D H x L N1 b N2) : cp_295_0 N1 ∧ cp_545_0 N2 ∧ qok N2 (cf_295_0 N1) (cf_545_0 N2) := by
  obtain ⟨u1, u2⟩ := c104_u (MR_u1 h)
  obtain ⟨F1, F2⟩ := F_c h
  have ga : N1.1 81 3 = nI L.w.2.2.2 := h.lr.wa.1.2.2
  have gb : (mz_pI N2 232 0 0).1 232 72 = nI L.w.2.2.2 := h.lr.wa.2.1.2.2
  simp [cp_295_0, cf_295_0, cp_545_0, cf_545_0, u1, u2, F1, F2, qok, n00, ga, gb]
end Cx
