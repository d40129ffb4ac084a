/-! PURE (50zzzzzzzx): the start: both are made. -/
section Stb
variable {X N K : mz_N} {v1 : Int64}
/-- what the class's store is at first -/
def stC (X K : mz_N) : Prop := (∀ c, c < 219 → K.1 c = X.1 c ∧ K.2 c = X.2 c) ∧ (c_dk d00 K) ∧ (K.1 219 4 = nI 0) ∧ (K.1 219 5 = nI 1) ∧ (K.1 219 6 = nI 1) ∧ (K.1 219 7 = 0) ∧ (K.1 223 = fun _ => 0) ∧ (K.1 224 = fun _ => 0)
theorem stC.e {X K : mz_N} (h : stC X K) : ∀ c, c < 219 → K.1 c = X.1 c ∧ K.2 c = X.2 c := h.1
theorem stC.d {X K : mz_N} (h : stC X K) : c_dk d00 K := h.2.1
theorem stC.s4 {X K : mz_N} (h : stC X K) : K.1 219 4 = nI 0 := h.2.2.1
theorem stC.s5 {X K : mz_N} (h : stC X K) : K.1 219 5 = nI 1 := h.2.2.2.1
theorem stC.s6 {X K : mz_N} (h : stC X K) : K.1 219 6 = nI 1 := h.2.2.2.2.1
theorem stC.s7 {X K : mz_N} (h : stC X K) : K.1 219 7 = 0 := h.2.2.2.2.2.1
theorem stC.kb {X K : mz_N} (h : stC X K) : K.1 223 = fun _ => 0 := h.2.2.2.2.2.2.1
theorem stC.kt {X K : mz_N} (h : stC X K) : K.1 224 = fun _ => 0 := h.2.2.2.2.2.2.2
/-- before the first row is written -/
def stZ (X : mz_N) : mz_N := mz_pI (mz_pI (mz_pI (mz_nN (mz_nN (mz_nN (mz_nN (mz_nN (mz_nNN (mz_nN X 219) 220) 223) 224) 225) 226) 227) 219 8 (-1)) 219 5 1) 219 6 1
theorem stZ_lo (X : mz_N) {c : Nat} (hc : c < 219) : (stZ X).1 c = X.1 c ∧ (stZ X).2 c = X.2 c := by
  have n0 : ∀ (M : mz_N) (a : Nat), c ≠ a → (mz_nN M a).1 c = M.1 c ∧ (mz_nN M a).2 c = M.2 c := fun M a h => ⟨if_neg h, if_neg h⟩
  have n1 : ∀ (M : mz_N) (a : Nat), c < a → (mz_nNN M a).1 c = M.1 c ∧ (mz_nNN M a).2 c = M.2 c := fun M a h => ⟨if_neg (by omega), if_neg (by omega)⟩
  have p0 : ∀ (M : mz_N) (f : Nat) (v : Int32), (mz_pI M 219 f v).1 c = M.1 c ∧ (mz_pI M 219 f v).2 c = M.2 c := fun M f v => ⟨by rw [pI_s, sI_n (by omega)], by rw [pI_s, sI_2]⟩
  unfold stZ
  refine ⟨?_, ?_⟩
  · rw [(p0 _ _ _).1, (p0 _ _ _).1, (p0 _ _ _).1, (n0 _ 227 (by omega)).1, (n0 _ 226 (by omega)).1, (n0 _ 225 (by omega)).1, (n0 _ 224 (by omega)).1, (n0 _ 223 (by omega)).1, (n1 _ 220 (by omega)).1, (n0 _ 219 (by omega)).1]
  · rw [(p0 _ _ _).2, (p0 _ _ _).2, (p0 _ _ _).2, (n0 _ 227 (by omega)).2, (n0 _ 226 (by omega)).2, (n0 _ 225 (by omega)).2, (n0 _ 224 (by omega)).2, (n0 _ 223 (by omega)).2, (n1 _ 220 (by omega)).2, (n0 _ 219 (by omega)).2]
theorem c_ctor : cp_11_0 (mz_nN X 219) ∧ stC X (cf_11_0 (mz_nN X 219)) := by
  have e11 : cf_11_0 (mz_nN X 219) = (cf_15_0 0 0 (cf_12_0 0 0 true 0 1 (stZ X))).2 := rfl
  have p11 : cp_12_0 0 0 true 0 1 (stZ X) → cp_15_0 0 0 (cf_12_0 0 0 true 0 1 (stZ X)) → cp_11_0 (mz_nN X 219) := fun a b => ⟨a, b, trivial⟩
  have lo := fun c hc => stZ_lo X (c := c) hc
  have z221 : (stZ X).1 221 = fun _ => 0 := rfl
  have z222 : (stZ X).1 222 = fun _ => 0 := rfl
  have z223 : (stZ X).1 223 = fun _ => 0 := rfl
  have z224 : (stZ X).1 224 = fun _ => 0 := rfl
  have z8 : (stZ X).1 219 8 = -1 := rfl
  have z4 : (stZ X).1 219 4 = 0 := rfl
  have z5 : (stZ X).1 219 5 = 1 := rfl
  have z6 : (stZ X).1 219 6 = 1 := rfl
  have z7 : (stZ X).1 219 7 = 0 := rfl
  generalize stZ X = Z at *
  have dk0 : c_dk (fun _ _ => 0) Z := fun a ha j _ => by
    rcases (show a = 0 ∨ a = 1 by omega) with w | w
    · rw [w, show 221 + 0 = 221 from rfl, z221]; rfl
    · rw [w, show 221 + 1 = 222 from rfl, z222]; rfl
  obtain ⟨a1, f, a2, a3⟩ := c_cmp (N := Z) (kd := 0) (ix := 0) (n := 0) (la := true) (age := 1) (by omega)
  have a1' : cp_12_0 0 0 true 0 1 Z := a1
  have a2' : cf_12_0 0 0 true 0 1 Z = mz_sI Z 225 f := a2
  have m8 : (mz_sI Z 225 f).1 219 8 = -1 := by rw [sI_n (by decide)]; exact z8
  have nz : ¬ (-1 : Int32) = 0 := by decide
  have rl : (1 : Int32).toInt64 = lN 1 := rfl
  rw [rl] at a3
  have hd : c_dk (fun _ _ => 0) (mz_sI Z 225 f) := fun a ha j hj => by rw [sI_n (by omega)]; exact dk0 a ha j hj
  obtain ⟨b1', f', g, b2, b3⟩ := c_line (N := mz_sI Z 225 f) (a := 0) (n := 0) (d := fun _ _ => 0) (r := rw0 0 0 true 0 (lN 1) (fun _ => 0)) (by omega) (by omega) (by rw [sI_e]; exact a3) (fun j _ => rw0_lt2 (by omega) (by omega) (fun _ => by omega) j) (hd 0 (by omega))
  rw [m8] at b2 b3
  rw [if_neg nz, show decide ((-1 : Int32) ≠ 0) = true from rfl] at b2
  rw [show decide ((-1 : Int32) ≠ 0) = true from rfl] at b3
  have b2' : cf_15_0 0 0 (mz_sI Z 225 f) = (true, mz_sI (mz_sI (mz_sI (mz_sI Z 225 f) 225 f') (221 + 0) g) 219 (upd ((mz_sI Z 225 f).1 219) 8 (fus1 (-1)))) := b2
  have b1'' : cp_15_0 0 0 (mz_sI Z 225 f) := b1'
  refine ⟨p11 a1' (by rw [a2']; exact b1''), ?_⟩
  rw [e11, a2', b2']
  refine ⟨fun c hc => ?_, ?_, ?_, ?_, ?_, ?_, ?_, ?_⟩
  · refine ⟨?_, ?_⟩
    · show (mz_sI (mz_sI (mz_sI (mz_sI Z 225 f) 225 f') (221 + 0) g) 219 (upd ((mz_sI Z 225 f).1 219) 8 (fus1 (-1)))).1 c = X.1 c
      rw [sI_n (by omega), sI_n (by omega), sI_n (by omega), sI_n (by omega)]; exact (lo c hc).1
    · exact (lo c hc).2
  · exact c_dkw (by omega) hd b3
  · show (mz_sI (mz_sI (mz_sI (mz_sI Z 225 f) 225 f') (221 + 0) g) 219 (upd ((mz_sI Z 225 f).1 219) 8 (fus1 (-1)))).1 219 4 = nI 0
    rw [sI_e, up_a, if_neg (by decide), sI_n (by decide)]; exact z4
  · show (mz_sI (mz_sI (mz_sI (mz_sI Z 225 f) 225 f') (221 + 0) g) 219 (upd ((mz_sI Z 225 f).1 219) 8 (fus1 (-1)))).1 219 5 = nI 1
    rw [sI_e, up_a, if_neg (by decide), sI_n (by decide)]; exact z5
  · show (mz_sI (mz_sI (mz_sI (mz_sI Z 225 f) 225 f') (221 + 0) g) 219 (upd ((mz_sI Z 225 f).1 219) 8 (fus1 (-1)))).1 219 6 = nI 1
    rw [sI_e, up_a, if_neg (by decide), sI_n (by decide)]; exact z6
  · show (mz_sI (mz_sI (mz_sI (mz_sI Z 225 f) 225 f') (221 + 0) g) 219 (upd ((mz_sI Z 225 f).1 219) 8 (fus1 (-1)))).1 219 7 = 0
    rw [sI_e, up_a, if_neg (by decide), sI_n (by decide)]; exact z7
  · show (mz_sI (mz_sI (mz_sI (mz_sI Z 225 f) 225 f') (221 + 0) g) 219 (upd ((mz_sI Z 225 f).1 219) 8 (fus1 (-1)))).1 223 = _
    rw [sI_n (by decide), sI_n (by decide), sI_n (by decide), sI_n (by decide)]; exact z223
  · show (mz_sI (mz_sI (mz_sI (mz_sI Z 225 f) 225 f') (221 + 0) g) 219 (upd ((mz_sI Z 225 f).1 219) 8 (fus1 (-1)))).1 224 = _
    rw [sI_n (by decide), sI_n (by decide), sI_n (by decide), sI_n (by decide)]; exact z224
/-- the class, before it begins -/
def stA (v1 : Int64) (K : mz_N) : Prop := (c_dk d00 K) ∧ (K.1 219 4 = nI 0) ∧ (K.1 219 5 = nI 1) ∧ (K.1 219 6 = nI 1) ∧ (K.1 219 7 = 0) ∧ (K.1 223 = fun _ => 0) ∧ (K.1 224 = fun _ => 0) ∧ (K.1 134 = fun _ => 0) ∧ (K.2 56 15 = v1)
theorem stA.d {v1 : Int64} {K : mz_N} (h : stA v1 K) : c_dk d00 K := h.1
theorem stA.s4 {v1 : Int64} {K : mz_N} (h : stA v1 K) : K.1 219 4 = nI 0 := h.2.1
theorem stA.s5 {v1 : Int64} {K : mz_N} (h : stA v1 K) : K.1 219 5 = nI 1 := h.2.2.1
theorem stA.s6 {v1 : Int64} {K : mz_N} (h : stA v1 K) : K.1 219 6 = nI 1 := h.2.2.2.1
theorem stA.s7 {v1 : Int64} {K : mz_N} (h : stA v1 K) : K.1 219 7 = 0 := h.2.2.2.2.1
theorem stA.kb {v1 : Int64} {K : mz_N} (h : stA v1 K) : K.1 223 = fun _ => 0 := h.2.2.2.2.2.1
theorem stA.kt {v1 : Int64} {K : mz_N} (h : stA v1 K) : K.1 224 = fun _ => 0 := h.2.2.2.2.2.2.1
theorem stA.zv {v1 : Int64} {K : mz_N} (h : stA v1 K) : K.1 134 = fun _ => 0 := h.2.2.2.2.2.2.2.1
theorem stA.sd {v1 : Int64} {K : mz_N} (h : stA v1 K) : K.2 56 15 = v1 := h.2.2.2.2.2.2.2.2
/-- the class's other parts -/
noncomputable def stX (N : mz_N) : mz_N := cf_10_0 (mz_nN (cf_9_0 (mz_nN (cf_8_0 (mz_nN (cf_7_0 (mz_nN (cf_6_0 (mz_nN (cf_5_0 (mz_nN (cf_3_0 (mz_nN (cf_2_0 (mz_nN (mz_nN N 1) 2)) 41)) 56)) 65)) 81)) 100)) 115)) 208)
theorem stX_134 (N : mz_N) : (stX N).1 134 = fun _ => 0 := rfl
theorem c_made (v1 : Int64) (N : mz_N) : cp_1_0 (mz_nN N 1) ∧ stA v1 (mz_pL (cf_1_0 (mz_nN N 1)) 56 15 v1) := by
  obtain ⟨p1, h⟩ := c_ctor (X := stX N)
  have e1 : cf_1_0 (mz_nN N 1) = mz_nN (mz_nN (mz_nN (mz_nN (cf_11_0 (mz_nN (stX N) 219)) 228) 229) 230) 231 := rfl
  have pp : cp_11_0 (mz_nN (stX N) 219) → cp_1_0 (mz_nN N 1) := fun z => ⟨trivial, ⟨trivial, trivial, trivial⟩, trivial, trivial, trivial, trivial, trivial, trivial, z, trivial⟩
  refine ⟨pp p1, ?_⟩
  rw [e1]
  have z134 := stX_134 N
  generalize cf_11_0 (mz_nN (stX N) 219) = Q at h
  have n1 : ∀ c, c ≠ 228 → c ≠ 229 → c ≠ 230 → c ≠ 231 → (mz_pL (mz_nN (mz_nN (mz_nN (mz_nN Q 228) 229) 230) 231) 56 15 v1).1 c = Q.1 c := fun c a1 a2 a3 a4 => by
    rw [pL_s, sL_1]
    show (if c = 231 then _ else (if c = 230 then _ else (if c = 229 then _ else (if c = 228 then _ else Q.1 c)))) = Q.1 c
    rw [if_neg a4, if_neg a3, if_neg a2, if_neg a1]
  refine ⟨fun a ha j hj => ?_, ?_, ?_, ?_, ?_, ?_, ?_, ?_, rfl⟩
  · rw [n1 _ (by omega) (by omega) (by omega) (by omega)]; exact h.d a ha j hj
  · rw [n1 219 (by decide) (by decide) (by decide) (by decide)]; exact h.s4
  · rw [n1 219 (by decide) (by decide) (by decide) (by decide)]; exact h.s5
  · rw [n1 219 (by decide) (by decide) (by decide) (by decide)]; exact h.s6
  · rw [n1 219 (by decide) (by decide) (by decide) (by decide)]; exact h.s7
  · rw [n1 223 (by decide) (by decide) (by decide) (by decide)]; exact h.kb
  · rw [n1 224 (by decide) (by decide) (by decide) (by decide)]; exact h.kt
  · rw [n1 134 (by decide) (by decide) (by decide) (by decide), (h.e 134 (by omega)).1]; exact z134
end Stb
