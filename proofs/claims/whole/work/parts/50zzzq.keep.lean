/-! PURE (50zzzq): a group of keys is written on both sides. -/
/-- keys joined, the last one first -/
noncomputable def gjc (N : mz_N) : List (Nat × Nat) → mz_N
  | [] => cf_117_0 N
  | k :: l => cf_119_0 (nI k.1) (nI k.2) (gjc N l)
noncomputable def gjr (N : mz_N) : List (Nat × Nat) → mz_N
  | [] => cf_471_0 N
  | k :: l => cf_472_0 (nI k.1) (nI k.2) (gjr N l)
def gkl : List (Nat × Nat) → Nat → Nat
  | [] => fun _ => 0
  | k :: l => up (gkl l) l.length (kyo k.1 k.2)
def gka (l : List (Nat × Nat)) : Prop := ∀ k, k ∈ l → k.1 ≤ 15 ∧ k.2 < 40 ∧ kyo k.1 k.2 < 135
theorem al_c {P : Nat × Nat → Prop} {k : Nat × Nat} {l : List (Nat × Nat)} (h1 : P k) (h : ∀ x, x ∈ l → P x) : ∀ x, x ∈ k :: l → P x := fun x hx => by
  rcases List.mem_cons.mp hx with z | z
  · rw [z]; exact h1
  · exact h x z
theorem al_n {P : Nat × Nat → Prop} : ∀ x, x ∈ ([] : List (Nat × Nat)) → P x := fun x hx => by cases hx
theorem gka_c {k1 k2 : Nat} {l : List (Nat × Nat)} (h1 : k1 ≤ 15) (h2 : k2 < 40) (h3 : kyo k1 k2 < 135) (h : gka l) : gka ((k1, k2) :: l) := al_c ⟨h1, h2, h3⟩ h
theorem gka_n : gka [] := al_n
theorem kxt_n {H : Kp} {k1 k2 : Nat} (h : k1 ≤ 12) : kxt H k1 k2 := ⟨fun z => by omega, fun z => by omega, fun z => by omega⟩
theorem kpl_n {H : Kp} {k1 k2 : Nat} (h1 : k1 ≠ 4) (h2 : k1 ≠ 7) (h3 : k1 ≠ 12) : kpl H k1 k2 := ⟨fun z => absurd z h1, fun z => absurd z h2, fun z => absurd z h3⟩
theorem gka_t {k : Nat × Nat} {l : List (Nat × Nat)} (h : gka (k :: l)) : gka l := fun x hx => h x (List.mem_cons_of_mem _ hx)
theorem gkl_i : ∀ {l : List (Nat × Nat)} {i : Nat}, i < l.length → ∃ k, k ∈ l ∧ gkl l i = kyo k.1 k.2 := by
  intro l
  induction l with
  | nil => intro i hi; exact absurd hi (Nat.not_lt_zero _)
  | cons k l ih =>
    intro i hi
    by_cases w : i = l.length
    · exact ⟨k, List.mem_cons_self, by show up (gkl l) l.length _ i = _; rw [up_d, if_pos w]⟩
    · have hi2 : i < l.length := by simp only [List.length_cons] at hi; omega
      obtain ⟨k2, m, e⟩ := ih hi2
      exact ⟨k2, List.mem_cons_of_mem _ m, by show up (gkl l) l.length _ i = _; rw [up_d, if_neg w]; exact e⟩
theorem gkl_m : ∀ {l : List (Nat × Nat)} {k : Nat × Nat}, k ∈ l → ∃ i, i < l.length ∧ gkl l i = kyo k.1 k.2 := by
  intro l
  induction l with
  | nil => intro k hk; cases hk
  | cons x l ih =>
    intro k hk
    rcases List.mem_cons.mp hk with w | w
    · exact ⟨l.length, by simp only [List.length_cons]; omega, by show up (gkl l) l.length _ l.length = _; rw [up_d, if_pos rfl, w]⟩
    · obtain ⟨i, h1, h2⟩ := ih w
      exact ⟨i, by simp only [List.length_cons]; omega, by show up (gkl l) l.length _ i = _; rw [up_d, if_neg (by omega)]; exact h2⟩
theorem gjc_ok {N : mz_N} : ∀ {l : List (Nat × Nat)}, gka l → l.length ≤ 16 → gr_c (gjc N l) (gkl l) l.length ∧ fr [219, 226] N (gjc N l) ∧ ∀ f, f ≠ 11 → (gjc N l).1 219 f = N.1 219 f := by
  intro l
  induction l with
  | nil =>
    intro _ _
    refine ⟨start_c, ⟨fun c hc => ?_, rfl⟩, fun f hf => ?_⟩
    · show (cf_117_0 N).1 c = _
      rw [cf_117_0, pI_s, sI_n (fun z => by rw [z] at hc; cases hc)]
    · show (cf_117_0 N).1 219 f = _
      rw [cf_117_0, pI_s, sI_e, up_a, if_neg hf]
  | cons k l ih =>
    intro ha hl
    simp only [List.length_cons] at hl
    obtain ⟨h1, h2, h3⟩ := ih (gka_t ha) (by omega)
    obtain ⟨a1, a2, a3⟩ := ha k List.mem_cons_self
    obtain ⟨j1, j2, j3, j4⟩ := join_c (N := gjc N l) (gk := gkl l) (gc := l.length) (kd := k.1) (ix := k.2) (by omega) (by omega) a3 h1 (by omega)
    refine ⟨j2, fr_trans h2 j3, fun f hf => ?_⟩
    show (cf_119_0 (nI k.1) (nI k.2) (gjc N l)).1 219 f = _
    rw [j4, up_a, if_neg hf]
    exact h3 f hf
theorem gjc_p {N : mz_N} {k : Nat × Nat} {l : List (Nat × Nat)} (ha : gka (k :: l)) (hl : l.length < 16) : cp_119_0 (nI k.1) (nI k.2) (gjc N l) := by
  obtain ⟨h1, _, _⟩ := gjc_ok (N := N) (gka_t ha) (by omega)
  obtain ⟨a1, a2, a3⟩ := ha k List.mem_cons_self
  exact (join_c (N := gjc N l) (gk := gkl l) (gc := l.length) (kd := k.1) (ix := k.2) (by omega) (by omega) a3 h1 (by omega)).1
theorem gjr_ok {N : mz_N} : ∀ {l : List (Nat × Nat)}, gka l → l.length ≤ 16 → gr_r (gjr N l) (gkl l) l.length ∧ fr [232, 333] N (gjr N l) ∧ ∀ f, f ≠ 139 → (gjr N l).1 232 f = N.1 232 f := by
  intro l
  induction l with
  | nil =>
    intro _ _
    refine ⟨start_r, ⟨fun c hc => ?_, rfl⟩, fun f hf => ?_⟩
    · show (cf_471_0 N).1 c = _
      rw [cf_471_0, pI_s, sI_n (fun z => by rw [z] at hc; cases hc)]
    · show (cf_471_0 N).1 232 f = _
      rw [cf_471_0, pI_s, sI_e, up_a, if_neg hf]
  | cons k l ih =>
    intro ha hl
    simp only [List.length_cons] at hl
    obtain ⟨h1, h2, h3⟩ := ih (gka_t ha) (by omega)
    obtain ⟨a1, a2, a3⟩ := ha k List.mem_cons_self
    obtain ⟨j1, j2, j3, j4⟩ := join_r (N := gjr N l) (gk := gkl l) (gc := l.length) (kd := k.1) (ix := k.2) (by omega) (by omega) a3 h1 (by omega)
    refine ⟨j2, fr_trans h2 j3, fun f hf => ?_⟩
    show (cf_472_0 (nI k.1) (nI k.2) (gjr N l)).1 232 f = _
    rw [j4, up_a, if_neg hf]
    exact h3 f hf
theorem gjr_p {N : mz_N} {k : Nat × Nat} {l : List (Nat × Nat)} (ha : gka (k :: l)) (hl : l.length < 16) : cp_472_0 (nI k.1) (nI k.2) (gjr N l) := by
  obtain ⟨h1, _, _⟩ := gjr_ok (N := N) (gka_t ha) (by omega)
  obtain ⟨a1, a2, a3⟩ := ha k List.mem_cons_self
  exact (join_r (N := gjr N l) (gk := gkl l) (gc := l.length) (kd := k.1) (ix := k.2) (by omega) (by omega) a3 h1 (by omega)).1
/-- cells of the class that neither the store's books nor a group's keys touch -/
def cyF (N M : mz_N) : Prop := fr [219, 221, 222, 223, 224, 225, 226, 227] N M
def ryF (N M : mz_N) : Prop := (∀ c, [232, 329, 330, 331, 332, 333, 341].contains c = false → M.1 c = N.1 c) ∧ (∀ f, f ≠ 133 → f ≠ 135 → f ≠ 136 → f ≠ 137 → f ≠ 139 → M.1 232 f = N.1 232 f) ∧ (∀ c, c ≠ 232 → M.2 c = N.2 c) ∧ ∀ f, f ≠ 134 → M.2 232 f = N.2 232 f
theorem cyF_t {N M K : mz_N} (h1 : cyF N M) (h2 : cyF M K) : cyF N K := fr_trans h1 h2
theorem ryF_t {N M K : mz_N} (h1 : ryF N M) (h2 : ryF M K) : ryF N K := ⟨fun c hc => (h2.1 c hc).trans (h1.1 c hc), fun f a b c d e => (h2.2.1 f a b c d e).trans (h1.2.1 f a b c d e), fun c hc => (h2.2.2.1 c hc).trans (h1.2.2.1 c hc), fun f hf => (h2.2.2.2 f hf).trans (h1.2.2.2 f hf)⟩
theorem cyF_k {N M : mz_N} {b : Bool} {H : Kp} (h : cyF N M) (hk : c_kp N b H) : c_kp M b H := by
  have e1 : ∀ c, c < 219 → M.1 c = N.1 c := fun c hc => h.1 c (by
    have k0 : c ≠ 219 ∧ c ≠ 221 ∧ c ≠ 222 ∧ c ≠ 223 ∧ c ≠ 224 ∧ c ≠ 225 ∧ c ≠ 226 ∧ c ≠ 227 := by omega
    simp [k0])
  have e2 : M.2 = N.2 := h.2
  have lb : mz_lv b = 43 ∨ mz_lv b = 48 := by cases b <;> first | exact Or.inl rfl | exact Or.inr rfl
  unfold c_kp at hk ⊢
  rw [e2, e1 3 (by omega), e1 37 (by omega), e1 40 (by omega), e1 66 (by omega), e1 67 (by omega), e1 (mz_lv b) (by omega), e1 (mz_lv b + 1) (by omega), e1 62 (by omega), e1 63 (by omega), e1 210 (by omega), e1 211 (by omega), e1 212 (by omega), e1 208 (by omega), e1 215 (by omega), e1 125 (by omega), e1 126 (by omega), e1 127 (by omega), e1 128 (by omega), e1 123 (by omega), e1 118 (by omega), e1 119 (by omega), e1 120 (by omega), e1 121 (by omega), e1 117 (by omega), e1 101 (by omega), e1 102 (by omega), e1 103 (by omega), e1 104 (by omega), e1 105 (by omega), e1 106 (by omega), e1 107 (by omega), e1 108 (by omega), e1 87 (by omega), e1 88 (by omega), e1 89 (by omega)]
  exact hk
theorem ryF_k {N M : mz_N} {H : Kp} (h : ryF N M) (hk : r_kp N H) : r_kp M H := by
  obtain ⟨h1, h2, h3, h4⟩ := h
  unfold r_kp at hk ⊢
  rw [h1 233 rfl, h1 234 rfl, h1 244 rfl, h1 245 rfl, h1 246 rfl, h2 27 (by decide) (by decide) (by decide) (by decide) (by decide), h1 252 rfl, h1 247 rfl, h1 248 rfl, h3 321 (by decide), h3 322 (by decide), h3 323 (by decide), h3 324 (by decide), h3 325 (by decide), h4 2 (by decide), h4 122 (by decide), h4 123 (by decide), h4 124 (by decide), h4 125 (by decide), h2 21 (by decide) (by decide) (by decide) (by decide) (by decide), h1 249 rfl, h1 250 rfl, h3 305 (by decide), h1 306 rfl, h1 307 rfl, h1 287 rfl, h1 288 rfl, h1 289 rfl, h1 290 rfl, h3 291 (by decide), h3 292 (by decide), h1 308 rfl, h1 309 rfl, h1 310 rfl, h1 311 rfl, h1 312 rfl, h1 313 rfl, h1 314 rfl, h1 315 rfl, h1 282 rfl, h1 283 rfl, h1 284 rfl]
  exact hk
/-- the numbers of visits done, which a new beginning leaves -/
def zv (N : mz_N) : Prop := ∀ u, u < 2 → ∃ k, k ≤ 6 ∧ N.1 134 u = nI k
theorem zv_f {N M : mz_N} (h : zv N) (e : M.1 134 = N.1 134) : zv M := fun u hu => by rw [e]; exact h u hu
/-- both are up: one store, the durable things D, the live things H -/
def KS (B : Nat) (s : st_S) (D H : Kp) (N1 : mz_N) (b : Bool) (N2 : mz_N) : Prop := (S_ok B s D) ∧ (st_c N1 s) ∧ (st_r N2 s) ∧ (c_kp N1 b H) ∧ (r_kp N2 H) ∧ (kpb H) ∧ (zv N1)
theorem KS.ok {B : Nat} {s : st_S} {D H : Kp} {N1 : mz_N} {b : Bool} {N2 : mz_N} (h : KS B s D H N1 b N2) : S_ok B s D := h.1
theorem KS.c {B : Nat} {s : st_S} {D H : Kp} {N1 : mz_N} {b : Bool} {N2 : mz_N} (h : KS B s D H N1 b N2) : st_c N1 s := h.2.1
theorem KS.r {B : Nat} {s : st_S} {D H : Kp} {N1 : mz_N} {b : Bool} {N2 : mz_N} (h : KS B s D H N1 b N2) : st_r N2 s := h.2.2.1
theorem KS.kc {B : Nat} {s : st_S} {D H : Kp} {N1 : mz_N} {b : Bool} {N2 : mz_N} (h : KS B s D H N1 b N2) : c_kp N1 b H := h.2.2.2.1
theorem KS.kr {B : Nat} {s : st_S} {D H : Kp} {N1 : mz_N} {b : Bool} {N2 : mz_N} (h : KS B s D H N1 b N2) : r_kp N2 H := h.2.2.2.2.1
theorem KS.hb {B : Nat} {s : st_S} {D H : Kp} {N1 : mz_N} {b : Bool} {N2 : mz_N} (h : KS B s D H N1 b N2) : kpb H := h.2.2.2.2.2.1
theorem KS.zv {B : Nat} {s : st_S} {D H : Kp} {N1 : mz_N} {b : Bool} {N2 : mz_N} (h : KS B s D H N1 b N2) : zv N1 := h.2.2.2.2.2.2
/-- flags that are looked at also when down -/
def dz (N : mz_N) : Prop := (∀ j, j < 20 → mz_z01 (N.1 308 j)) ∧ (∀ j, j < 40 → mz_z01 (N.1 311 j)) ∧ (∀ j, j < 8 → mz_z01 (N.1 282 j)) ∧ ∀ j, j < 16 → mz_z01 (N.1 287 j)
theorem dz_k {N : mz_N} {H : Kp} (hk : r_kp N H) (hb : kpb H) : dz N := by
  obtain ⟨r1, r2, r3, r4, r5, r6, r6b, r7, r8, r8b, r9, r10, r11, r12, r13, r14, r15⟩ := hk
  obtain ⟨c0, c1, c2, c3, c5, c4, ct4, c6, c7, c8, c9, c12, c13, c15, c16, c19, c20⟩ := hb
  exact ⟨fun j hj => by rw [(r13 j hj).1]; exact z01_n (c12 j), fun j hj => by rw [(r14 j hj).1]; exact z01_n (c15 j), fun j hj => by rw [(r15 j hj).1]; exact z01_n (c19 j), fun j hj => by rw [(r12 j hj).1]; exact z01_n (c8 j)⟩
/-- both are down -/
def Dwn (B : Nat) (D : Kp) (N1 N2 : mz_N) : Prop := ∃ d kt kb, c_dk d N1 ∧ r_dk d N2 ∧ N1.1 219 7 = 1 ∧ N2.1 232 137 = 1 ∧ dk_I B d kt kb ∧ st_D kt kb D ∧ dz N2 ∧ zv N1
section Wr
variable {N1 N2 : mz_N} {b : Bool} {B : Nat} {s : st_S} {D H : Kp} {l : List (Nat × Nat)}
theorem gjc_y (ha : gka l) (hl : l.length ≤ 16) : cyF N1 (gjc N1 l) := fr_sub (gjc_ok ha hl).2.1 rfl
theorem gjr_y (ha : gka l) (hl : l.length ≤ 16) : ryF N2 (gjr N2 l) := by
  obtain ⟨_, h2, h3⟩ := gjr_ok (N := N2) ha hl
  refine ⟨fun c hc => h2.1 c ?_, fun f _ _ _ _ e => h3 f e, fun c _ => by rw [h2.2], fun f _ => by rw [h2.2]⟩
  have q : ∀ x, ([232, 329, 330, 331, 332, 333, 341] : List Nat).contains x = true ∨ ([232, 333] : List Nat).contains x = false := fun x => by
    by_cases k1 : x = 232
    · exact Or.inl (by rw [k1]; rfl)
    · by_cases k2 : x = 333
      · exact Or.inl (by rw [k2]; rfl)
      · exact Or.inr (by simp [k1, k2])
  rcases q c with w | w
  · rw [w] at hc; cases hc
  · exact w
theorem st_cF {N M : mz_N} (h : st_c N s) (h1 : M.1 221 = N.1 221) (h2 : M.1 222 = N.1 222) (h3 : M.1 223 = N.1 223) (h4 : M.1 224 = N.1 224) (h5 : ∀ f, 4 ≤ f → f ≤ 8 → M.1 219 f = N.1 219 f) : st_c M s := by
  obtain ⟨c1, c2, c3, c4, c5, c6, c7, c8⟩ := h
  refine ⟨fun a ha j hj => ?_, by rw [h5 4 (by omega) (by omega)]; exact c2, by rw [h5 5 (by omega) (by omega)]; exact c3, by rw [h5 6 (by omega) (by omega)]; exact c4, by rw [h5 7 (by omega) (by omega)]; exact c5, by rw [h5 8 (by omega) (by omega)]; exact c6, fun k hk j hj => ?_, fun k hk => ?_⟩
  · have := c1 a ha j hj
    rcases (show a = 0 ∨ a = 1 by omega) with w | w
    · rw [w] at this ⊢; rw [h1]; exact this
    · rw [w] at this ⊢; rw [h2]; exact this
  · rw [h3]; exact c7 k hk j hj
  · rw [h4]; exact c8 k hk
theorem st_rF {N M : mz_N} (h : st_r N s) (h1 : M.1 329 = N.1 329) (h2 : M.1 330 = N.1 330) (h3 : M.1 331 = N.1 331) (h4 : ∀ f, f = 133 ∨ f = 135 ∨ f = 136 ∨ f = 137 → M.1 232 f = N.1 232 f) (h5 : M.2 232 134 = N.2 232 134) : st_r M s := by
  obtain ⟨c1, c2, c3, c4, c5, c6, c7, c8⟩ := h
  refine ⟨fun a ha j hj => ?_, by rw [h4 133 (by omega)]; exact c2, by rw [h5]; exact c3, by rw [h4 135 (by omega)]; exact c4, by rw [h4 137 (by omega)]; exact c5, by rw [h4 136 (by omega)]; exact c6, fun k hk hk2 j hj => ?_, fun k hk => ?_⟩
  · rw [h1]; exact c1 a ha j hj
  · rw [h3]; exact c7 k hk hk2 j hj
  · rw [h2]; exact c8 k hk
theorem gr_cF {N M : mz_N} {gk : Nat → Nat} {gc : Nat} (h : gr_c N gk gc) (h1 : M.1 219 11 = N.1 219 11) (h2 : M.1 226 = N.1 226) : gr_c M gk gc := ⟨by rw [h1]; exact h.1, fun i hi => by rw [h2]; exact h.2 i hi⟩
theorem gr_rF {N M : mz_N} {gk : Nat → Nat} {gc : Nat} (h : gr_r N gk gc) (h1 : M.1 232 139 = N.1 232 139) (h2 : M.1 333 = N.1 333) : gr_r M gk gc := ⟨by rw [h1]; exact h.1, fun i hi => by rw [h2]; exact h.2 i hi⟩
theorem wr2 (hB : B + 1 < 2 ^ 30) (h : KS B s D H N1 b N2) (g1 : gr_c N1 (gkl l) l.length) (g2 : gr_r N2 (gkl l) l.length) (ha : gka l) (hl : l.length ≤ 16) (ht : ∀ k, k ∈ l → kxt H k.1 k.2) (hp : ∀ k, k ∈ l → kpl H k.1 k.2) (hx : gtx (gkl l) l.length) :
    cp_121_0 N1 b ∧ cp_474_0 N2 ∧ ∃ w K1 K2, cf_121_0 N1 b = (w, K1) ∧ cf_474_0 N2 = (w, K2) ∧ cyF N1 K1 ∧ ryF N2 K2 ∧
      (w = true → ∃ s', KS (B + 1) s' (DG (gkl l) D H l.length) H K1 b K2) ∧ (w = false → Dwn (B + 1) D K1 K2) := by
  have hkk : ∀ i, i < l.length → ∃ k, k ∈ l ∧ kdk (gkl l i) = k.1 ∧ ixk (gkl l i) = k.2 := fun i hi => by
    obtain ⟨k, m, e⟩ := gkl_i hi
    obtain ⟨e1, e2⟩ := kyo_inv (ha k m).2.2
    exact ⟨k, m, by rw [e]; exact e1, by rw [e]; exact e2⟩
  obtain ⟨p1, p2, w, K1, K2, q1, q2, q3, q4, q5, q6⟩ := group_ok (N1 := N1) (N2 := N2) (b := b) (gk := gkl l) (gc := l.length) hB h.ok h.c h.r h.kc h.kr h.hb g1 g2 hl (fun i hi => by obtain ⟨k, m, e1, e2⟩ := hkk i hi; rw [e1, e2]; exact ht k m) (fun i hi => by obtain ⟨k, m, e1, e2⟩ := hkk i hi; rw [e1, e2]; exact hp k m) hx
  have z1 : cyF N1 K1 := fr_sub q3 rfl
  have z2 : ryF N2 K2 := by
    obtain ⟨r1, r2, r3, r4⟩ := q4
    refine ⟨fun c hc => r1 c ?_, fun f a b c d _ => r2 f a b c d, r3, r4⟩
    cases e : ([232, 329, 330, 331, 332, 341] : List Nat).contains c with
    | false => rfl
    | true =>
      have : ([232, 329, 330, 331, 332, 333, 341] : List Nat).contains c = true := by
        simp only [List.contains_eq_mem, List.mem_cons, List.not_mem_nil, or_false, decide_eq_true_eq] at e ⊢
        omega
      rw [this] at hc
      cases hc
  refine ⟨p1, p2, w, K1, K2, q1, q2, z1, z2, fun hw => ?_, fun hw => ?_⟩
  · obtain ⟨s', k1, k2, k3⟩ := q5 hw
    exact ⟨s', k3, k1, k2, cyF_k z1 h.kc, ryF_k z2 h.kr, h.hb, zv_f h.zv (z1.1 134 rfl)⟩
  · obtain ⟨d, k1, k2, k3, k4, k5⟩ := q6 hw
    exact ⟨d, _, _, k1, k2, k3, k4, k5, h.ok.2, dz_k (ryF_k z2 h.kr) h.hb, zv_f h.zv (z1.1 134 rfl)⟩
theorem KS_j (h : KS B s D H N1 b N2) (ha : gka l) (hl : l.length ≤ 16) : KS B s D H (gjc N1 l) b (gjr N2 l) := by
  obtain ⟨a1, a2, a3⟩ := gjc_ok (N := N1) ha hl
  obtain ⟨b1', b2, b3⟩ := gjr_ok (N := N2) ha hl
  exact ⟨h.ok, st_cF h.c (a2.1 221 rfl) (a2.1 222 rfl) (a2.1 223 rfl) (a2.1 224 rfl) (fun f h1 h2 => a3 f (by omega)), st_rF h.r (b2.1 329 rfl) (b2.1 330 rfl) (b2.1 331 rfl) (fun f hf => b3 f (by omega)) (by rw [b2.2]), cyF_k (gjc_y ha hl) h.kc, ryF_k (gjr_y ha hl) h.kr, h.hb, zv_f h.zv (a2.1 134 rfl)⟩
theorem wr_ok (hB : B + 1 < 2 ^ 30) (h : KS B s D H N1 b N2) (ha : gka l) (hl : l.length ≤ 16) (ht : ∀ k, k ∈ l → kxt H k.1 k.2) (hp : ∀ k, k ∈ l → kpl H k.1 k.2) (hx : gtx (gkl l) l.length) :
    cp_121_0 (gjc N1 l) b ∧ cp_474_0 (gjr N2 l) ∧ ∃ w K1 K2, cf_121_0 (gjc N1 l) b = (w, K1) ∧ cf_474_0 (gjr N2 l) = (w, K2) ∧ cyF N1 K1 ∧ ryF N2 K2 ∧
      (w = true → ∃ s', KS (B + 1) s' (DG (gkl l) D H l.length) H K1 b K2) ∧ (w = false → Dwn (B + 1) D K1 K2) := by
  obtain ⟨p1, p2, w, K1, K2, q1, q2, q3, q4, q5, q6⟩ := wr2 hB (KS_j h ha hl) (gjc_ok ha hl).1 (gjr_ok ha hl).1 ha hl ht hp hx
  exact ⟨p1, p2, w, K1, K2, q1, q2, cyF_t (gjc_y ha hl) q3, ryF_t (gjr_y ha hl) q4, q5, q6⟩
/-- a group without the text's keys -/
theorem gtx_n (ha : gka l) (h6 : ∀ k, k ∈ l → k.1 ≠ 6) : gtx (gkl l) l.length := Or.inr fun i hi => by
  obtain ⟨k, m, e⟩ := gkl_i hi
  rw [e, (kyo_inv (ha k m).2.2).1]
  exact h6 k m
theorem cyF_j {N M : mz_N} (h : fr [219, 226] N M) : cyF N M := fr_sub h rfl
theorem ryF_j {N M : mz_N} (h2 : fr [232, 333] N M) (h3 : ∀ f, f ≠ 139 → M.1 232 f = N.1 232 f) : ryF N M := by
  refine ⟨fun c hc => h2.1 c ?_, fun f _ _ _ _ e => h3 f e, fun c _ => by rw [h2.2], fun f _ => by rw [h2.2]⟩
  have k1 : c ≠ 232 := fun z => by rw [z] at hc; cases hc
  have k2 : c ≠ 333 := fun z => by rw [z] at hc; cases hc
  simp [k1, k2]
theorem KS_go (h : KS B s D H N1 b N2) : KS B s D H (cf_117_0 N1) b (cf_471_0 N2) ∧ gr_c (cf_117_0 N1) (gkl []) 0 ∧ gr_r (cf_471_0 N2) (gkl []) 0 ∧ cyF N1 (cf_117_0 N1) ∧ ryF N2 (cf_471_0 N2) := by
  have y1 : gka ([] : List (Nat × Nat)) := fun k hk => by cases hk
  exact ⟨KS_j (l := []) h y1 (Nat.zero_le _), start_c, start_r, gjc_y (l := []) y1 (Nat.zero_le _), gjr_y (l := []) y1 (Nat.zero_le _)⟩
theorem KS_add {k1 k2 : Nat} (h : KS B s D H N1 b N2) (g1 : gr_c N1 (gkl l) l.length) (g2 : gr_r N2 (gkl l) l.length) (h1 : k1 ≤ 15) (h2 : k2 < 40) (h3 : kyo k1 k2 < 135) (hl : l.length < 16) : cp_119_0 (nI k1) (nI k2) N1 ∧ cp_472_0 (nI k1) (nI k2) N2 ∧ KS B s D H (cf_119_0 (nI k1) (nI k2) N1) b (cf_472_0 (nI k1) (nI k2) N2) ∧ gr_c (cf_119_0 (nI k1) (nI k2) N1) (gkl ((k1, k2) :: l)) (l.length + 1) ∧ gr_r (cf_472_0 (nI k1) (nI k2) N2) (gkl ((k1, k2) :: l)) (l.length + 1) ∧ cyF N1 (cf_119_0 (nI k1) (nI k2) N1) ∧ ryF N2 (cf_472_0 (nI k1) (nI k2) N2) := by
  obtain ⟨a1, a2, a3, a4⟩ := join_c (N := N1) (gk := gkl l) (gc := l.length) (kd := k1) (ix := k2) (by omega) (by omega) h3 g1 (by omega)
  obtain ⟨b1', b2, b3, b4⟩ := join_r (N := N2) (gk := gkl l) (gc := l.length) (kd := k1) (ix := k2) (by omega) (by omega) h3 g2 (by omega)
  have e1 : ∀ f, f ≠ 11 → (cf_119_0 (nI k1) (nI k2) N1).1 219 f = N1.1 219 f := fun f hf => by rw [a4, up_a, if_neg hf]
  have e2 : ∀ f, f ≠ 139 → (cf_472_0 (nI k1) (nI k2) N2).1 232 f = N2.1 232 f := fun f hf => by rw [b4, up_a, if_neg hf]
  have y1 := cyF_j a3
  have y2 := ryF_j b3 e2
  exact ⟨a1, b1', ⟨h.ok, st_cF h.c (a3.1 221 rfl) (a3.1 222 rfl) (a3.1 223 rfl) (a3.1 224 rfl) (fun f _ _ => e1 f (by omega)), st_rF h.r (b3.1 329 rfl) (b3.1 330 rfl) (b3.1 331 rfl) (fun f hf => e2 f (by omega)) (by rw [b3.2]), cyF_k y1 h.kc, ryF_k y2 h.kr, h.hb, zv_f h.zv (a3.1 134 rfl)⟩, a2, b2, y1, y2⟩
theorem Dwn_m {B' : Nat} (hB : B ≤ B') (h : Dwn B D N1 N2) : Dwn B' D N1 N2 := by
  obtain ⟨d, kt, kb, h1, h2, h3, h4, ⟨i1, i2, i3, a, gn, us, i4, i5⟩, h6⟩ := h
  exact ⟨d, kt, kb, h1, h2, h3, h4, ⟨i1, fun a n ha hn => Nat.le_trans (i2 a n ha hn) hB, i3, a, gn, us, Nat.le_trans i4 hB, i5⟩, h6⟩
end Wr
