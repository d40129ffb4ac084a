/-! PURE (50zzzzzzzs): the law: a call of both, and how it is compared. -/
section Sme
variable {N1 N2 M1 M2 : mz_N} {b : Bool} {B q : Nat} {H : Kp} {L : LvS} {R : RsS}
theorem RsR_ag (h1 : lo N1 M1) (h2 : up2 N2 M2) (h : RsR H L R N1 N2) : RsR H L R M1 M2 := by
  have e1 : ∀ c, c < 232 → M1.1 c = N1.1 c := fun c hc => (h1 c hc).1
  have e2 : ∀ c, 232 ≤ c → c < 342 → M2.1 c = N2.1 c := fun c a d => (h2 c a d).1
  have f2 : ∀ c, 232 ≤ c → c < 342 → M2.2 c = N2.2 c := fun c a d => (h2 c a d).2
  obtain ⟨a1, a2, a3, a4, a5, a6, a7, a8, a9, a10, a11, a12, a13, a14, a15⟩ := h
  refine ⟨fun d hd i hi => ?_, ?_, a3, ?_, ?_, ?_, ?_, ?_, a9, ?_, ?_, ?_, ?_, a14, a15⟩
  · rw [e1 (5 + d) (by omega), e1 (9 + d) (by omega)]; exact a1 d hd i hi
  · rw [e2 233 (by omega) (by omega)]; exact a2
  · rw [e1 2 (by omega), e2 232 (by omega) (by omega)]; exact a4
  · rw [e1 41 (by omega), e2 232 (by omega) (by omega)]; exact a5
  · rw [e1 42 (by omega), e2 251 (by omega) (by omega)]; exact a6
  · rw [e1 41 (by omega), e2 232 (by omega) (by omega)]; exact a7
  · rw [e1 109 (by omega), e2 316 (by omega) (by omega)]; exact a8
  · rw [e1 100 (by omega), e2 232 (by omega) (by omega)]; exact a10
  · rw [e1 111 (by omega), e1 112 (by omega), e1 113 (by omega), e1 114 (by omega), f2 317 (by omega) (by omega), e2 318 (by omega) (by omega), e2 319 (by omega) (by omega), e2 320 (by omega) (by omega)]; exact a11
  · rw [e1 1 (by omega), e1 228 (by omega), e2 232 (by omega) (by omega), e2 334 (by omega) (by omega)]; exact a12
  · rw [e1 1 (by omega), e1 229 (by omega), e2 232 (by omega) (by omega), e2 335 (by omega) (by omega)]; exact a13
theorem Sm_e (h1 : lo N1 M1) (h2 : up2 N2 M2) (h : Sm q B N1 b N2) : Sm q B M1 b M2 := by
  rcases h with ⟨p, C, s, D, H, x, L, R, i1, i2, i3, i4, i5, i6⟩ | ⟨D, ⟨d, kt, kb, j1, j2, j3, j4, j5, j6, j7, j8⟩, i2, i3⟩
  · exact Or.inl ⟨p, C, s, D, H, x, L, R, i1, i2, MR_e h1 h2 i3, RsR_ag h1 h2 i4, i5, i6⟩
  · refine Or.inr ⟨D, ⟨d, kt, kb, fun a ha j hj => ?_, ?_, ?_, ?_, j5, j6, ?_, zv_f j8 (h1 134 (by omega)).1⟩, i2, ?_⟩
    · rw [(h1 (221 + a) (by omega)).1]; exact j1 a ha j hj
    · unfold r_dk; rw [(h2 329 (by omega) (by omega)).1]; exact j2
    · rw [(h1 219 (by omega)).1]; exact j3
    · rw [(h2 232 (by omega) (by omega)).1]; exact j4
    · unfold dz; rw [(h2 308 (by omega) (by omega)).1, (h2 311 (by omega) (by omega)).1, (h2 282 (by omega) (by omega)).1, (h2 287 (by omega) (by omega)).1]; exact j7
    · rw [(h1 56 (by omega)).2, (h2 232 (by omega) (by omega)).2]; exact i3
end Sme
/-- the answers of both agree, and both houses are alike again -/
def lawR (q B : Nat) (b : Bool) (v : Int32) (K : mz_N) (w : Int64) : Prop := cf_459_0 K = v ∧ (v = 0 → mz_gL K 342 0 = w) ∧ Sm q B K b K
/-- how the law keeps a call's answer: three ways to end, two -/
def lw3 {α : Type} (g : α → Int64) (c : Nat × α × mz_N) (t : Nat) : Int32 × mz_N × Nat := if c.1 = 0 then (0, mz_wL c.2.2 342 0 (g c.2.1), t) else (if c.1 = 1 then (1, c.2.2, t + 1) else (2, c.2.2, t + 1))
def lw2 {α : Type} (g : α → Int64) (c : Nat × α × mz_N) (t : Nat) : Int32 × mz_N × Nat := if c.1 = 0 then (0, mz_wL c.2.2 342 0 (g c.2.1), t) else (1, c.2.2, t + 1)
/-- truth as a number -/
def bLg (a : Bool) : Int64 := if a = true then 1 else 0
section Lw
variable {α : Type} {N K K1 K2 M : mz_N} {b b' : Bool} {B q B' q' t : Nat} {g : α → Int64} {c : Nat × α × mz_N} {r : mz_N → α × mz_N} {v : Int32} {w : Int64} {PC : Prop} {PR : mz_N → Prop}
theorem lawR_m {q1 B1 : Nat} (hq : q ≤ q1) (hB : B ≤ B1) (h : lawR q B b v K w) : lawR q1 B1 b v K w := ⟨h.1, h.2.1, Sm_m hq hB h.2.2⟩
theorem gL_w (M : mz_N) (x : Int64) : mz_gL (mz_wL M 342 0 x) 342 0 = x := rfl
theorem wLo1 (M : mz_N) (x : Int64) : (mz_wL M 342 0 x).1 = M.1 := rfl
theorem wLo2 (M : mz_N) (x : Int64) (c : Nat) (hc : c ≠ 342) : (mz_wL M 342 0 x).2 c = M.2 c := if_neg hc
theorem up2_w (h : up2 N M) (x : Int64) : up2 N (mz_wL M 342 0 x) := fun c a d => ⟨(h c a d).1, (wLo2 M x c (by omega)).trans (h c a d).2⟩
theorem up2_o {P Q R : mz_N} (h : oF N P K Q) : up2 N K := fun c a _ => h.1 c a
/-- both cells of both houses, in one memory -/
theorem Sm_one (h : Sm q B K1 b K2) (e : ∀ c, c < 232 → K2.1 c = K1.1 c ∧ K2.2 c = K1.2 c) : Sm q B K2 b K2 := Sm_e (fun c hc => e c hc) (fun _ _ _ => ⟨rfl, rfl⟩) h
theorem law3 (h : Sm q B N b N) (A : ∀ M, Sm q B N b M → PC ∧ PR M ∧ cal q' B' b N M c (r M)) :
    PC ∧ c.1 ≤ 2 ∧ PR (lw3 g c t).2.1 ∧ (lw3 g c t).2.2 ≤ t + 1 ∧ lawR q' B' b (lw3 g c t).1 (r (lw3 g c t).2.1).2 (g (r (lw3 g c t).2.1).1) := by
  obtain ⟨p1, _, a1⟩ := A N h
  have u := up2_o (R := N) a1.2.2.2.1
  have c2 := a1.1
  unfold lw3
  by_cases w0 : c.1 = 0
  · rw [if_pos w0]
    obtain ⟨_, p2, a2⟩ := A (mz_wL c.2.2 342 0 (g c.2.1)) (Sm_e (fun _ _ => ⟨rfl, rfl⟩) (up2_w u _) h)
    obtain ⟨_, i2, i3, i4, i5⟩ := a2
    refine ⟨p1, c2, p2, Nat.le_succ _, ?_, fun _ => ?_, Sm_one i5 (fun c' hc => ?_)⟩
    · show (r _).2.1 232 0 = 0
      rw [i2, w0]; rfl
    · show (r (mz_wL c.2.2 342 0 (g c.2.1))).2.2 342 0 = g (r (mz_wL c.2.2 342 0 (g c.2.1))).1
      rw [(i4.2 342 (by omega)).2, i3 w0]; rfl
    · obtain ⟨y1, y2⟩ := i4.2 c' (by omega)
      exact ⟨y1, y2.trans (wLo2 _ _ c' (by omega))⟩
  · rw [if_neg w0]
    obtain ⟨_, p2, a2⟩ := A c.2.2 (Sm_e (fun _ _ => ⟨rfl, rfl⟩) u h)
    obtain ⟨_, i2, i3, i4, i5⟩ := a2
    have n0 : ¬ (1 : Int32) = 0 := by decide
    have n2 : ¬ (2 : Int32) = 0 := by decide
    by_cases w1 : c.1 = 1
    · rw [if_pos w1]
      refine ⟨p1, c2, p2, Nat.le_refl _, ?_, fun z => absurd z n0, Sm_one i5 (fun c' hc => i4.2 c' (by omega))⟩
      show (r _).2.1 232 0 = 1
      rw [i2, w1]; rfl
    · rw [if_neg w1]
      refine ⟨p1, c2, p2, Nat.le_refl _, ?_, fun z => absurd z n2, Sm_one i5 (fun c' hc => i4.2 c' (by omega))⟩
      show (r _).2.1 232 0 = 2
      rw [i2, show c.1 = 2 by omega]; rfl
theorem law2 (h : Sm q B N b N) (A : ∀ M, Sm q B N b M → PC ∧ PR M ∧ cal1 q' B' b' N M c (r M)) :
    PC ∧ (c.1 = 0 ∨ c.1 = 2) ∧ PR (lw2 g c t).2.1 ∧ (lw2 g c t).2.2 ≤ t + 1 ∧ lawR q' B' b' (lw2 g c t).1 (r (lw2 g c t).2.1).2 (g (r (lw2 g c t).2.1).1) := by
  obtain ⟨p1, _, a1⟩ := A N h
  have u := up2_o (R := N) a1.2.2.2.1
  have c2 := a1.1
  unfold lw2
  by_cases w0 : c.1 = 0
  · rw [if_pos w0]
    obtain ⟨_, p2, a2⟩ := A (mz_wL c.2.2 342 0 (g c.2.1)) (Sm_e (fun _ _ => ⟨rfl, rfl⟩) (up2_w u _) h)
    obtain ⟨_, i2, i3, i4, i5⟩ := a2
    refine ⟨p1, c2, p2, Nat.le_succ _, ?_, fun _ => ?_, Sm_one i5 (fun c' hc => ?_)⟩
    · show (r _).2.1 232 0 = 0
      rw [i2, w0]; rfl
    · show (r (mz_wL c.2.2 342 0 (g c.2.1))).2.2 342 0 = g (r (mz_wL c.2.2 342 0 (g c.2.1))).1
      rw [(i4.2 342 (by omega)).2, i3 w0]; rfl
    · obtain ⟨y1, y2⟩ := i4.2 c' (by omega)
      exact ⟨y1, y2.trans (wLo2 _ _ c' (by omega))⟩
  · rw [if_neg w0]
    obtain ⟨_, p2, a2⟩ := A c.2.2 (Sm_e (fun _ _ => ⟨rfl, rfl⟩) u h)
    obtain ⟨_, i2, i3, i4, i5⟩ := a2
    have n0 : ¬ (1 : Int32) = 0 := by decide
    refine ⟨p1, c2, p2, Nat.le_refl _, ?_, fun z => absurd z n0, Sm_one i5 (fun c' hc => i4.2 c' (by omega))⟩
    show (r _).2.1 232 0 = 1
    rw [i2, show c.1 = 2 by omega]; rfl
/-- calls that ask are calls that leave the class as it was -/
theorem caq_c {α : Type} {d : Nat × α} {r : α × mz_N} {N2 : mz_N} (h : caq q B b N N2 d r) : cal q B b N N2 (d.1, d.2, N) r := h
theorem caq1_c {α : Type} {d : Nat × α} {r : α × mz_N} {N2 : mz_N} (h : caq1 q B b N N2 d r) : cal1 q B b N N2 (d.1, d.2, N) r := h
theorem cw3 {P Q : Prop} {n : Nat} (hp : P) (ht : t < 1000) (hn : n ≤ 2) (hq : Q) : P ∧ (t < 1000 ∧ ((n = 0 → Q) ∧ (¬ n = 0 → ((n = 1 → True) ∧ (¬ n = 1 → n = 2))))) := ⟨hp, ht, fun _ => hq, fun _ => ⟨fun _ => trivial, fun _ => by omega⟩⟩
theorem cw2 {P Q : Prop} {n : Nat} (hp : P) (ht : t < 1000) (hn : n = 0 ∨ n = 2) (hq : Q) : P ∧ (t < 1000 ∧ ((n = 0 → Q) ∧ (¬ n = 0 → n = 2))) := ⟨hp, ht, fun _ => hq, fun _ => by omega⟩
/-- a truth is kept as a number -/
theorem lwb3 {c : Nat × Bool × mz_N} : (if c.1 = 0 then (if c.2.1 = true then ((0 : Int32), mz_wL c.2.2 342 0 1, t) else (0, mz_wL c.2.2 342 0 0, t)) else (if c.1 = 1 then (1, c.2.2, t + 1) else (2, c.2.2, t + 1))) = lw3 bLg c t := by
  unfold lw3 bLg
  cases c.2.1 <;> rfl
theorem lwb2 {c : Nat × Bool × mz_N} : (if c.1 = 0 then (if c.2.1 = true then ((0 : Int32), mz_wL c.2.2 342 0 1, t) else (0, mz_wL c.2.2 342 0 0, t)) else (1, c.2.2, t + 1)) = lw2 bLg c t := by
  unfold lw2 bLg
  cases c.2.1 <;> rfl
/-- a step of the law went well -/
def stp (q B : Nat) (v4 : Int32) (t : Nat) (x : (Int32 × mz_N × Bool × Nat) ⊕ (Bool × mz_N × Bool × Nat)) : Prop := ∃ K b t', x = .inl (v4 + 7, K, b, t') ∧ t' ≤ t + 1 ∧ Sm q B K b K
variable {τ : Type} {X Y Z : τ} {P : Prop} {a : Bool}
theorem lwP (h : P) : (cf_459_0 K = v → ((v = 0 → ((mz_gL K 342 0 = w → P) ∧ (¬ mz_gL K 342 0 = w → True))) ∧ (¬ v = 0 → P))) ∧ (¬ cf_459_0 K = v → True) := ⟨fun _ => ⟨fun _ => ⟨fun _ => h, fun _ => trivial⟩, fun _ => h⟩, fun _ => trivial⟩
theorem lwX (h : lawR q B b v K w) : (if cf_459_0 K = v then (if v = 0 then (if mz_gL K 342 0 = w then X else Y) else X) else Z) = X := by
  rw [if_pos h.1]
  by_cases z : v = 0
  · rw [if_pos z, if_pos (h.2.1 z)]
  · rw [if_neg z]
theorem lwPb {x0 x1 : Prop} (h1 : x1) (h0 : x0) (h : P) : (cf_459_0 K = v → ((v = 0 → ((a = true → ((mz_gL K 342 0 = 1 → x1) ∧ (¬ mz_gL K 342 0 = 1 → True))) ∧ (¬ a = true → ((mz_gL K 342 0 = 0 → x0) ∧ (¬ mz_gL K 342 0 = 0 → True))))) ∧ (¬ v = 0 → P))) ∧ (¬ cf_459_0 K = v → True) := ⟨fun _ => ⟨fun _ => ⟨fun _ => ⟨fun _ => h1, fun _ => trivial⟩, fun _ => ⟨fun _ => h0, fun _ => trivial⟩⟩, fun _ => h⟩, fun _ => trivial⟩
theorem lwXb (h : lawR q B b v K (bLg a)) : (if cf_459_0 K = v then (if v = 0 then (if a = true then (if mz_gL K 342 0 = 1 then X else Y) else (if mz_gL K 342 0 = 0 then X else Y)) else X) else Z) = X := by
  rw [if_pos h.1]
  by_cases z : v = 0
  · have e := h.2.1 z
    rw [if_pos z, e]
    cases a with
    | true => rw [if_pos rfl]; exact if_pos rfl
    | false => rw [if_neg (fun z => by cases z)]; exact if_pos rfl
  · rw [if_neg z]
theorem ladp {p A R : Prop} {x y : τ} {Q : τ → Prop} [Decidable p] (h1 : p → A ∧ Q x) (h2 : ¬ p → R ∧ Q y) : ((p → A) ∧ (¬ p → R)) ∧ Q (if p then x else y) := by
  by_cases w : p
  · rw [if_pos w]; exact ⟨⟨fun _ => (h1 w).1, fun z => absurd w z⟩, (h1 w).2⟩
  · rw [if_neg w]; exact ⟨⟨fun z => absurd z w, fun _ => (h2 w).1⟩, (h2 w).2⟩
end Lw
