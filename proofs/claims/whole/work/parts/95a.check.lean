/-! THE SMALL MACHINE (14): a program that looks whether small code is the bytes' own, and what it stands for. -/
section Mz17
variable (FLf : Nat → List (Nat × Nat × Nat × Nat × Bool)) (MLf : Nat → List (Nat × Nat × Nat × Nat × Nat)) (KIf : Nat → List (Nat × Int32)) (KLf : Nat → List (Nat × Int64)) (BLf SLf NLf : Nat → List (Nat × Nat)) (OLf : Nat → List Nat) (TLf : List (Nat × Nat × Nat × Nat)) (MUf : Nat → List (Nat × Nat))
def mz_ckt (o : Nat) (b : Nat → Except DecodeError (Instr × Nat)) (ini : Bool) (hs : List (Nat × Nat × Nat × Nat)) (pc : Nat) (q : mz_i) : Bool := match q.1 with
  | 0 => q.2.2.1 == mz_len q.2.1
  | 1 => q.2.2.1 == mz_lenM q.2.1 && match q.2.1 with
    | .getfield idx => (FLf o).any (fun f => f.1 == idx && f.2.1 == q.2.2.2.1 && f.2.2.1 == q.2.2.2.2.1)
    | _ => true
  | 2 => match q.2.1 with
    | .tableswitch _ _ _ _ => true
    | .lookupswitch _ _ => true
    | _ => q.2.2.1 == 3
  | 3 => match q.2.1, q.2.2.2.2.2 with
    | .ldc idx, .int v => q.2.2.1 == 2 && (KIf o).any (fun f => f.1 == idx && f.2 == v)
    | .ldc_w idx, .int v => q.2.2.1 == 3 && (KIf o).any (fun f => f.1 == idx && f.2 == v)
    | .ldc2_w idx, .long v => q.2.2.1 == 3 && (KLf o).any (fun f => f.1 == idx && f.2 == v)
    | _, _ => false
  | 4 => match q.2.1 with
    | .invokestatic idx => q.2.2.1 == 3 && (MLf o).any (fun f => f.1 == idx && f.2.1 == q.2.2.2.1 && f.2.2.1 == q.2.2.2.2.1 && f.2.2.2.1 == 0) && hs.all (fun h => h.1 ≤ pc && pc < h.2.1)
    | _ => false
  | 5 => match q.2.1 with
    | .invokestatic idx => q.2.2.1 == 3 && (BLf o).any (fun f => f.1 == idx && f.2 == q.2.2.2.1)
    | _ => false
  | 6 => q.2.2.1 == 1
  | 7 => o == 11 && hs.isEmpty && match q.2.1 with
    | .new inew => q.2.2.1 == 3 && TLf.any (fun f => f.1 == inew && f.2.2.2 == q.2.2.2.1 && (match b (pc + 3) with
      | .ok (.dup, 1) => true
      | _ => false) && (match b (pc + 4) with
      | .ok (.ldc i, 2) => i == f.2.1
      | _ => false) && (match b (pc + 6) with
      | .ok (.invokespecial i, 3) => i == f.2.2.1
      | _ => false) && (match b (pc + 9) with
      | .ok (.athrow, 1) => true
      | _ => false))
    | _ => false
  | 8 => q.2.2.1 == mz_lenM q.2.1 && match q.2.1 with
    | .putfield idx => (FLf o).any (fun f => f.1 == idx && f.2.1 == q.2.2.2.1 && f.2.2.1 == q.2.2.2.2.1 && (!f.2.2.2.2 || (ini && f.2.1 == o)))
    | _ => true
  | 9 => match q.2.1 with
    | .getstatic idx => q.2.2.1 == 3 && (SLf o).any (fun f => f.1 == idx && f.2 == q.2.2.2.1)
    | _ => false
  | 10 => match q.2.1 with
    | .newarray t => q.2.2.1 == 2 && mz_ak t == some q.2.2.2.1
    | _ => false
  | 11 => match q.2.1 with
    | .new idx => q.2.2.1 == 3 && (NLf o).any (fun f => f.1 == idx && f.2 == q.2.2.2.1)
    | _ => false
  | 13 => match q.2.1 with
    | .invokespecial idx => q.2.2.1 == 3 && (OLf o).any (fun f => f == idx)
    | _ => false
  | 14 => match q.2.1, q.2.2.2.2.2 with
    | .invokevirtual idx, .ref ci => q.2.2.1 == 3 && (MLf o).any (fun f => f.1 == idx && f.2.1 == q.2.2.2.1 && f.2.2.1 == q.2.2.2.2.1 && f.2.2.2.1 == 1 && f.2.2.2.2 == ci) && hs.all (fun h => h.1 ≤ pc && pc < h.2.1)
    | _, _ => false
  | 15 => match q.2.1 with
    | .invokespecial idx => q.2.2.1 == 3 && (MLf o).any (fun f => f.1 == idx && f.2.1 == q.2.2.2.1 && f.2.2.1 == q.2.2.2.2.1 && f.2.2.2.1 == 2) && hs.all (fun h => h.1 ≤ pc && pc < h.2.1)
    | _ => false
  | 12 => match q.2.1 with
    | .multianewarray idx d => d == 2 && q.2.2.1 == 4 && (MUf o).any (fun f => f.1 == idx && f.2 == q.2.2.2.1)
    | _ => false
  | 16 => o == 7 && match q.2.1 with
    | .ldc idx => q.2.2.1 == 2 && mz_tx.any (fun f => f.1 == idx && q.2.2.2.1 == 2000 + f.2)
    | _ => false
  | 17 => o == 7 && q.2.2.1 == 3 && match q.2.1 with
    | .invokevirtual idx => idx == 103
    | _ => false
  | _ => true
def mz_ckb (o : Nat) (b : Nat → Except DecodeError (Instr × Nat)) (ini : Bool) (hs : List (Nat × Nat × Nat × Nat)) : Nat → List mz_i → Bool
  | _, [] => true
  | pc, q :: r => (match b pc with
    | .ok a => decide (a = (q.2.1, q.2.2.1))
    | .error _ => false) && (mz_ckt FLf MLf KIf KLf BLf SLf NLf OLf TLf MUf o b ini hs pc q && mz_ckb o b ini hs (pc + q.2.2.1) r)
/-- what the tables must say -/
def mz_tok (PG : Nat → Option mz_D) (FK : Nat → List Nat) (cl : List vw_C) (Ts : List Jvm.Cond) (ST : mz_st) (cn : Nat → String) : Prop :=
  (∀ o idx ci k t fin, (idx, ci, k, t, fin) ∈ FLf o → mz_fl cl Ts (cn o) idx ci k t fin ∧ (FK ci)[k]? = some t ∧ ∃ T N, cl[ci]? = some (cn ci, T, N)) ∧
  (∀ o idx j n kind ci, (idx, j, n, kind, ci) ∈ MLf o → ∃ N, PG j = some N ∧ mz_lk Ts (cn o) idx N n kind ∧ (kind = 1 → ∃ T z, cl[ci]? = some (N.2.1.cls, T, z))) ∧
  (∀ o idx v, (idx, v) ∈ KIf o → Jvm.Cond.constant (cn o) idx v ∈ Ts) ∧ (∀ o idx v, (idx, v) ∈ KLf o → Jvm.Cond.constantLong (cn o) idx v ∈ Ts) ∧
  (∀ o idx j, (idx, j) ∈ BLf o → ∀ w ∈ mz_bw (cn o) idx j, w ∈ Ts) ∧
  (∀ o idx a, (idx, a) ∈ SLf o → ∃ C n, Jvm.Cond.fieldLink (cn o) idx C n "[I" ∈ Ts ∧ (C, n, a) ∈ ST) ∧
  (∀ o idx ci, (idx, ci) ∈ NLf o → mz_cn cl Ts (cn o) idx ci (FK ci)) ∧
  (∀ o idx, idx ∈ OLf o → Jvm.Cond.methodLink (cn o) idx objectInit ∈ Ts) ∧ Jvm.Cond.instanceMethod objectInit ∈ Ts ∧ Jvm.Cond.code objectInit ⟨#[0xb1]⟩ 1 none ∈ Ts ∧
  (∀ t k, mz_ak t = some k → Jvm.Cond.arrayClass (newarray.typeOf t) ∈ Ts) ∧
  (∀ inew istr ic k, (inew, istr, ic, k) ∈ TLf → k < 2 ∧ istr ∈ [85, 92, 95, 97] ∧ ∃ names, Jvm.Cond.classLink "KeptHouse" inew (mz_en k) ∈ Ts ∧ Jvm.Cond.instantiable (mz_en k) 6 ∈ Ts ∧ Jvm.Cond.initialized (mz_en k) ∈ Ts ∧ Bundle.fit (mz_en k) = true ∧ (∀ n ∈ names, Bundle.fit n = true) ∧ names.length ≤ 5 ∧ ∀ w ∈ Bundle.ownAtoms "KeptHouse" ic (mz_en k) names, w ∈ Ts ∨ w = .isRef (.static Bundle.tN "UNASSIGNED_STACK" Bundle.steD) ∨ w = .isRef (.static Bundle.tN "SUPPRESSED_SENTINEL" Bundle.listD) ∨ w = .laysStatic Bundle.tN "UNASSIGNED_STACK" Bundle.steD ∨ w = .laysStatic Bundle.tN "SUPPRESSED_SENTINEL" Bundle.listD) ∧ cn 11 = "KeptHouse" ∧ (∀ o idx t, (idx, t) ∈ MUf o → (t = 4 ∨ t = 5) ∧ Jvm.Cond.classLink (cn o) idx (if t = 4 then "[[I" else "[[J") ∈ Ts) ∧ cn 7 = "KeptHouse$Reader"
theorem mz_any {α : Type} {l : List α} {p : α → Bool} (h : l.any p = true) : ∃ a, a ∈ l ∧ p a = true := by simpa using h
set_option maxHeartbeats 4000000 in
theorem mz_ckt_ok {PG : Nat → Option mz_D} {FK : Nat → List Nat} {cl : List vw_C} {Ts : List Jvm.Cond} {ST : mz_st} {cn : Nat → String} (T : mz_tok FLf MLf KIf KLf BLf SLf NLf OLf TLf MUf PG FK cl Ts ST cn) {M : mz_D} (hcn : M.2.1.cls = cn M.1) {ini : Bool} (hini : ini = true → M.2.1.name = "<init>") {b : Nat → Except DecodeError (Instr × Nat)} (hb : ∀ z i, b z = .ok i → decode M.2.2.1 z = .ok i) {pc : Nat} {q : mz_i} (hd : decode M.2.2.1 pc = .ok (q.2.1, q.2.2.1)) (h : mz_ckt FLf MLf KIf KLf BLf SLf NLf OLf TLf MUf M.1 b ini M.2.2.2.2.2.1 pc q = true) : mz_iok PG FK cl Ts ST M pc q := by
  obtain ⟨t1, t2, t3, t4, t5, t6, t7, t8, t9, t10, t11, t12, t13, t14, t15⟩ := T
  refine ⟨hd, ?_⟩
  unfold mz_ckt at h
  split at h
  · rename_i ht; rw [ht]; simpa using h
  · rename_i ht; rw [ht]
    simp only [Bool.and_eq_true, beq_iff_eq] at h
    refine ⟨h.1, fun idx hi => ?_⟩
    have h2 := h.2
    rw [hi] at h2
    obtain ⟨⟨a1, a2, a3, a4, a5⟩, hm, ha⟩ := mz_any h2
    simp only [Bool.and_eq_true, beq_iff_eq] at ha
    obtain ⟨⟨rfl, rfl⟩, rfl⟩ := ha
    rw [hcn]
    exact ⟨_, _, (t1 _ _ _ _ _ _ hm).1⟩
  · rename_i ht; rw [ht]
    split at h
    · rename_i hi; exact Or.inl ⟨_, _, _, _, hi⟩
    · rename_i hi; exact Or.inr (Or.inl ⟨_, _, hi⟩)
    · exact Or.inr (Or.inr (by simpa using h))
  · rename_i ht; rw [ht]
    split at h
    · rename_i hi hv
      simp only [Bool.and_eq_true, beq_iff_eq] at h
      obtain ⟨⟨a1, a2⟩, hm, ha⟩ := mz_any h.2
      simp only [Bool.and_eq_true, beq_iff_eq] at ha
      obtain ⟨rfl, rfl⟩ := ha
      rw [hcn]
      exact Or.inl ⟨_, _, hi, h.1, hv, t3 _ _ _ hm⟩
    · rename_i hi hv
      simp only [Bool.and_eq_true, beq_iff_eq] at h
      obtain ⟨⟨a1, a2⟩, hm, ha⟩ := mz_any h.2
      simp only [Bool.and_eq_true, beq_iff_eq] at ha
      obtain ⟨rfl, rfl⟩ := ha
      rw [hcn]
      exact Or.inr (Or.inl ⟨_, _, hi, h.1, hv, t3 _ _ _ hm⟩)
    · rename_i hi hv
      simp only [Bool.and_eq_true, beq_iff_eq] at h
      obtain ⟨⟨a1, a2⟩, hm, ha⟩ := mz_any h.2
      simp only [Bool.and_eq_true, beq_iff_eq] at ha
      obtain ⟨rfl, rfl⟩ := ha
      rw [hcn]
      exact Or.inr (Or.inr ⟨_, _, hi, h.1, hv, t4 _ _ _ hm⟩)
    · cases h
  · rename_i ht; rw [ht]
    split at h
    · rename_i idx hi
      simp only [Bool.and_eq_true, beq_iff_eq] at h
      obtain ⟨⟨h1, h2⟩, h3⟩ := h
      have hhk : mz_hk M pc := fun z hz => by
        have h9 := List.all_eq_true.mp h3 z hz
        simpa using h9
      obtain ⟨⟨a1, a2, a3, a4, a5⟩, hm, ha⟩ := mz_any h2
      simp only [Bool.and_eq_true, beq_iff_eq] at ha
      obtain ⟨⟨⟨rfl, rfl⟩, rfl⟩, rfl⟩ := ha
      obtain ⟨N, n1, n2, n3⟩ := t2 _ _ _ _ _ _ hm
      rw [hcn]
      exact ⟨_, N, hi, h1, n1, n2, hhk⟩
    · cases h
  · rename_i ht; rw [ht]
    split at h
    · rename_i idx hi
      simp only [Bool.and_eq_true, beq_iff_eq] at h
      obtain ⟨⟨a1, a2⟩, hm, ha⟩ := mz_any h.2
      simp only [Bool.and_eq_true, beq_iff_eq] at ha
      obtain ⟨rfl, rfl⟩ := ha
      rw [hcn]
      exact ⟨_, hi, h.1, t5 _ _ _ hm⟩
    · cases h
  · rename_i ht; rw [ht]; simpa using h
  · rename_i ht; rw [ht]
    simp only [Bool.and_eq_true, beq_iff_eq] at h
    obtain ⟨⟨ho, hemp⟩, h⟩ := h
    split at h
    · rename_i inew hi
      simp only [Bool.and_eq_true, beq_iff_eq] at h
      obtain ⟨h1, h2⟩ := h
      obtain ⟨⟨a1, a2, a3, a4⟩, hm, ha⟩ := mz_any h2
      simp only [Bool.and_eq_true, beq_iff_eq] at ha
      obtain ⟨⟨⟨⟨⟨rfl, rfl⟩, g3⟩, g4⟩, g6⟩, g9⟩ := ha
      obtain ⟨k1, k2, names, k3, k4, k5, k6, k7, k8, k9⟩ := t12 _ _ _ _ hm
      have hemp' : M.2.2.2.2.2.1 = [] := by simpa using hemp
      refine ⟨k1, by rw [hcn, ho, t13], _, a2, a3, names, hi, h1, k2, ?_, ?_, ?_, ?_, hemp', k3, k4, k5, k6, k7, k8, k9⟩
      · split at g3
        · rename_i he; exact hb _ _ he
        · cases g3
      · split at g4
        · rename_i i he
          simp only [beq_iff_eq] at g4
          rw [← g4]; exact hb _ _ he
        · cases g4
      · split at g6
        · rename_i i he
          simp only [beq_iff_eq] at g6
          rw [← g6]; exact hb _ _ he
        · cases g6
      · split at g9
        · rename_i he; exact hb _ _ he
        · cases g9
    · cases h
  · rename_i ht; rw [ht]
    simp only [Bool.and_eq_true, beq_iff_eq] at h
    refine ⟨h.1, fun idx hi => ?_⟩
    have h2 := h.2
    rw [hi] at h2
    obtain ⟨⟨a1, a2, a3, a4, a5⟩, hm, ha⟩ := mz_any h2
    simp only [Bool.and_eq_true, beq_iff_eq] at ha
    obtain ⟨⟨⟨rfl, rfl⟩, rfl⟩, hf⟩ := ha
    rw [hcn]
    refine ⟨_, _, (t1 _ _ _ _ _ _ hm).1, ?_, (t1 _ _ _ _ _ _ hm).2.1⟩
    cases a5
    · exact Or.inl rfl
    · have hf' : ini = true ∧ q.2.2.2.1 = M.1 := by simpa using hf
      obtain ⟨T0, N0, h0⟩ := (t1 _ _ _ _ _ _ hm).2.2
      refine Or.inr ⟨hini hf'.1, T0, N0, ?_⟩
      rw [h0, hf'.2]
  · rename_i ht; rw [ht]
    split at h
    · rename_i idx hi
      simp only [Bool.and_eq_true, beq_iff_eq] at h
      obtain ⟨⟨a1, a2⟩, hm, ha⟩ := mz_any h.2
      simp only [Bool.and_eq_true, beq_iff_eq] at ha
      obtain ⟨rfl, rfl⟩ := ha
      obtain ⟨C, n, k1, k2⟩ := t6 _ _ _ hm
      rw [hcn]
      exact ⟨_, C, n, hi, h.1, k1, k2⟩
    · cases h
  · rename_i ht; rw [ht]
    split at h
    · rename_i t hi
      simp only [Bool.and_eq_true, beq_iff_eq] at h
      exact ⟨t, hi, h.1, h.2, t11 _ _ h.2⟩
    · cases h
  · rename_i ht; rw [ht]
    split at h
    · rename_i idx hi
      simp only [Bool.and_eq_true, beq_iff_eq] at h
      obtain ⟨⟨a1, a2⟩, hm, ha⟩ := mz_any h.2
      simp only [Bool.and_eq_true, beq_iff_eq] at ha
      obtain ⟨rfl, rfl⟩ := ha
      rw [hcn]
      exact ⟨_, hi, h.1, t7 _ _ _ hm⟩
    · cases h
  · rename_i ht; rw [ht]
    split at h
    · rename_i idx hi
      simp only [Bool.and_eq_true, beq_iff_eq] at h
      obtain ⟨a1, hm, ha⟩ := mz_any h.2
      simp only [beq_iff_eq] at ha
      subst ha
      rw [hcn]
      exact ⟨_, hi, h.1, t8 _ _ hm, t9, t10⟩
    · cases h
  · rename_i ht; rw [ht]
    split at h
    · rename_i idx ci hi hv
      simp only [Bool.and_eq_true, beq_iff_eq] at h
      obtain ⟨⟨h1, h2⟩, h3⟩ := h
      have hhk : mz_hk M pc := fun z hz => by
        have h9 := List.all_eq_true.mp h3 z hz
        simpa using h9
      obtain ⟨⟨a1, a2, a3, a4, a5⟩, hm, ha⟩ := mz_any h2
      simp only [Bool.and_eq_true, beq_iff_eq] at ha
      obtain ⟨⟨⟨⟨rfl, rfl⟩, rfl⟩, rfl⟩, rfl⟩ := ha
      obtain ⟨N, n1, n2, n3⟩ := t2 _ _ _ _ _ _ hm
      rw [hcn]
      exact ⟨_, N, _, hi, h1, n1, hv, n3 rfl, n2, hhk⟩
    · cases h
  · rename_i ht; rw [ht]
    split at h
    · rename_i idx hi
      simp only [Bool.and_eq_true, beq_iff_eq] at h
      obtain ⟨⟨h1, h2⟩, h3⟩ := h
      have hhk : mz_hk M pc := fun z hz => by
        have h9 := List.all_eq_true.mp h3 z hz
        simpa using h9
      obtain ⟨⟨a1, a2, a3, a4, a5⟩, hm, ha⟩ := mz_any h2
      simp only [Bool.and_eq_true, beq_iff_eq] at ha
      obtain ⟨⟨⟨rfl, rfl⟩, rfl⟩, rfl⟩ := ha
      obtain ⟨N, n1, n2, n3⟩ := t2 _ _ _ _ _ _ hm
      rw [hcn]
      exact ⟨_, N, hi, h1, n1, n2, hhk⟩
    · cases h
  · rename_i ht; rw [ht]
    split at h
    · rename_i idx d hi
      simp only [Bool.and_eq_true, beq_iff_eq] at h
      obtain ⟨⟨h0, h1⟩, h2⟩ := h
      subst h0
      obtain ⟨⟨a1, a2⟩, hm, ha⟩ := mz_any h2
      simp only [Bool.and_eq_true, beq_iff_eq] at ha
      obtain ⟨rfl, ha2⟩ := ha
      obtain ⟨g1, g2⟩ := t14 _ _ _ hm
      rw [hcn]
      exact ⟨_, hi, h1, by rw [← ha2]; exact g1, by rw [← ha2]; exact g2⟩
    · cases h
  · rename_i ht; rw [ht]
    simp only [Bool.and_eq_true, beq_iff_eq] at h
    obtain ⟨ho, h⟩ := h
    split at h
    · rename_i idx hi
      simp only [Bool.and_eq_true, beq_iff_eq] at h
      obtain ⟨⟨a1, a2⟩, hm, ha⟩ := mz_any h.2
      simp only [Bool.and_eq_true, beq_iff_eq] at ha
      obtain ⟨rfl, ha2⟩ := ha
      exact ⟨by rw [hcn, ho]; exact t15, _, a2, hi, h.1, hm, ha2⟩
    · cases h
  · rename_i ht; rw [ht]
    simp only [Bool.and_eq_true, beq_iff_eq] at h
    obtain ⟨⟨ho, h1⟩, h⟩ := h
    split at h
    · rename_i idx hi
      simp only [beq_iff_eq] at h
      subst h
      exact ⟨by rw [hcn, ho]; exact t15, hi, h1⟩
    · cases h
  · split <;> first | trivial | (exfalso; simp_all; done)
theorem mz_ckb_ok {PG : Nat → Option mz_D} {FK : Nat → List Nat} {cl : List vw_C} {Ts : List Jvm.Cond} {ST : mz_st} {cn : Nat → String} (T : mz_tok FLf MLf KIf KLf BLf SLf NLf OLf TLf MUf PG FK cl Ts ST cn) {M : mz_D} (hcn : M.2.1.cls = cn M.1) {ini : Bool} (hini : ini = true → M.2.1.name = "<init>") {b : Nat → Except DecodeError (Instr × Nat)} (hb : ∀ z i, b z = .ok i → decode M.2.2.1 z = .ok i) : ∀ (code : List mz_i) (pc : Nat), mz_ckb FLf MLf KIf KLf BLf SLf NLf OLf TLf MUf M.1 b ini M.2.2.2.2.2.1 pc code = true → mz_cok (mz_iok PG FK cl Ts ST M) pc code := by
  intro code
  induction code with
  | nil => intro pc _; trivial
  | cons q r ih =>
    intro pc h
    unfold mz_ckb at h
    simp only [Bool.and_eq_true] at h
    obtain ⟨h1, h2, h3⟩ := h
    refine ⟨mz_ckt_ok FLf MLf KIf KLf BLf SLf NLf OLf TLf MUf T hcn hini hb ?_ h2, ih _ h3⟩
    split at h1
    · rename_i a ha
      rw [hb _ _ ha]
      simp only [decide_eq_true_eq] at h1
      rw [h1]
    · cases h1
end Mz17
theorem mz_cok_cut {ok : Nat → mz_i → Prop} : ∀ (l : List mz_i) (n pc pc' : Nat), mz_cok ok pc (l.take n) → pc + ((l.take n).map fun q => q.2.2.1).sum = pc' → mz_cok ok pc' (l.drop n) → mz_cok ok pc l := by
  intro l
  induction l with
  | nil => intro n pc pc' _ _ _; trivial
  | cons q r ih =>
    intro n pc pc' h1 h2 h3
    cases n with
    | zero =>
      simp at h2 h3
      rw [h2]; exact h3
    | succ n =>
      simp only [List.take_succ_cons, List.map_cons, List.sum_cons] at h1 h2
      exact ⟨h1.1, ih n _ pc' h1.2 (by omega) (by simpa using h3)⟩

