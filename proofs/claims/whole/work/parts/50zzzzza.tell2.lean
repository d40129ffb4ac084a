/-! PURE (50zzzzza): telling something: one frame for all. -/
def tlA : List Nat := lrA ++ [219, 221, 222, 223, 224, 115, 122, 130, 131, 132, 133, 134, 136, 137, 139, 140, 141] ++ (1 :: 2 :: 41 :: 100 :: rsA)
def tlC : List Nat := lrC ++ [329, 330, 331, 293, 294, 296, 297, 302, 303] ++ (233 :: rsC)
def tlD : List Nat := lrD ++ [295, 298, 304, 317]
theorem al_sub {X Y A : List Nat} (h : Y.all (fun c => !A.contains c) = true) (hs : X.all (fun c => Y.contains c) = true) : X.all (fun c => !A.contains c) = true := by
  apply List.all_eq_true.mpr
  intro z hz
  have h1 := List.all_eq_true.mp hs z hz
  have h2 := ct_nt h h1
  rw [h2]; rfl
theorem Sm_r {α : Type} {N1 N2 : mz_N} {b : Bool} {q B e : Nat} {a a' : α} {c : Nat × α × mz_N} {r : α × mz_N} (h : Sm q B N1 b N2) (he : e = 1 ∨ e = 2) (h1 : c = (e, a, N1)) (h2 : r = (a', mz_pI N2 232 0 (nI e))) : cal q B b N1 N2 c r := by
  subst h1 h2
  exact cal_no h (by show e ≤ 2; omega) (by show e ≠ 0; omega) rfl rfl
theorem cal_m {α : Type} {N1 N2 : mz_N} {b : Bool} {q B q' B' : Nat} {c : Nat × α × mz_N} {r : α × mz_N} (hq : q ≤ q') (hB : B ≤ B') (h : cal q B b N1 N2 c r) : cal q' B' b N1 N2 c r := ⟨h.1, h.2.1, h.2.2.1, h.2.2.2.1, Sm_m hq hB h.2.2.2.2⟩
section T2
variable {N1 N2 M1 M2 : mz_N} {b : Bool} {B q : Nat} {s : st_S} {D H G : Kp} {x : CrS} {L L' : LvS} {R : RsS} {l : List (Nat × Nat)}
/-- both have told themselves the same -/
def tld (N1 N2 M1 M2 : mz_N) (b : Bool) (G : Kp) (l : kyL) : Prop := (c_kp M1 b G) ∧ (r_kp M2 G) ∧ (gka l) ∧ (l.length ≤ 16) ∧ (∀ k, k ∈ l → kxt G k.1 k.2) ∧ (∀ k, k ∈ l → kpl G k.1 k.2) ∧ (gtx (gkl l) l.length) ∧ ((∀ k, k ∈ l → 8 ≤ k.1 ∧ k.1 ≤ 12) ∨ ∀ k, k ∈ l → k.1 < 8 ∨ 12 ≤ k.1)
theorem tld.hc {N1 N2 M1 M2 : mz_N} {b : Bool} {G : Kp} {l : kyL} (h : tld N1 N2 M1 M2 b G l) : c_kp M1 b G := h.1
theorem tld.hr {N1 N2 M1 M2 : mz_N} {b : Bool} {G : Kp} {l : kyL} (h : tld N1 N2 M1 M2 b G l) : r_kp M2 G := h.2.1
theorem tld.ha {N1 N2 M1 M2 : mz_N} {b : Bool} {G : Kp} {l : kyL} (h : tld N1 N2 M1 M2 b G l) : gka l := h.2.2.1
theorem tld.hl {N1 N2 M1 M2 : mz_N} {b : Bool} {G : Kp} {l : kyL} (h : tld N1 N2 M1 M2 b G l) : l.length ≤ 16 := h.2.2.2.1
theorem tld.ht {N1 N2 M1 M2 : mz_N} {b : Bool} {G : Kp} {l : kyL} (h : tld N1 N2 M1 M2 b G l) : ∀ k, k ∈ l → kxt G k.1 k.2 := h.2.2.2.2.1
theorem tld.hp {N1 N2 M1 M2 : mz_N} {b : Bool} {G : Kp} {l : kyL} (h : tld N1 N2 M1 M2 b G l) : ∀ k, k ∈ l → kpl G k.1 k.2 := h.2.2.2.2.2.1
theorem tld.hx {N1 N2 M1 M2 : mz_N} {b : Bool} {G : Kp} {l : kyL} (h : tld N1 N2 M1 M2 b G l) : gtx (gkl l) l.length := h.2.2.2.2.2.2.1
theorem tld.md {N1 N2 M1 M2 : mz_N} {b : Bool} {G : Kp} {l : kyL} (h : tld N1 N2 M1 M2 b G l) : (∀ k, k ∈ l → 8 ≤ k.1 ∧ k.1 ≤ 12) ∨ ∀ k, k ∈ l → k.1 < 8 ∨ 12 ≤ k.1 := h.2.2.2.2.2.2.2
theorem tell_al {A1 B1 A2 B2 : List Nat} (h : MR q B s D H x L N1 b N2) (rs : RsR H L R N1 N2) (f1 : fq A1 B1 N1 M1) (f2 : fq A2 B2 N2 M2) (a1 : tlA.all (fun c => !A1.contains c) = true) (b1' : lrB.all (fun c => !B1.contains c) = true) (a2 : tlC.all (fun c => !A2.contains c) = true) (b2 : tlD.all (fun c => !B2.contains c) = true) (o1 : A1.all (fun c => decide (c < 232)) = true) (o2 : B1.all (fun c => decide (c < 232)) = true) (o3 : A2.all (fun c => decide (232 ≤ c ∧ c < 342)) = true) (o4 : B2.all (fun c => decide (232 ≤ c ∧ c < 342)) = true) (i2 : ∀ f, f ≠ 0 → f ≠ 21 → M2.1 232 f = N2.1 232 f) (l2 : ∀ f, f ≠ 122 → M2.2 232 f = N2.2 232 f)
    (t : tld N1 N2 M1 M2 b G l) (hb : kpb G) (e0 : G.1 0 = H.1 0) (e1 : G.1 1 = H.1 1) (e4 : G.1 4 = H.1 4) (e5 : G.1 5 = H.1 5) (e8 : G.1 8 = H.1 8) (e15 : ∀ j, j < 40 → H.1 15 j = 1 → G.1 15 j = 1) (e19 : G.1 19 = H.1 19) (e11 : G.2.1 11 = H.2.1 11) (i5 : G.2.1 5 = H.2.1 5) (kb : KB q G) (dr : ∀ j, j < 20 → G.1 12 j = 1 → G.1 13 j < 5 ∧ G.1 14 j < 110) (ka : ∀ k, k < 135 → (kdk k < 8 ∨ 12 ≤ kdk k) → (¬ ∃ i, i < l.length ∧ gkl l i = k) → kag H G (kdk k) (ixk k)) : pW q B s D G x L M1 b M2 l ∧ RsR G L R M1 M2 ∧ oF N1 N2 M1 M2 := by
  refine ⟨pW_of h ?_ ?_ t.hc t.hr hb ?_ ?_ e8 e11 i5 kb ?_ ?_ ?_ dr ka t.ha t.hl t.ht t.hp t.hx t.md, RsR_f rs ?_ e15 e4 (by rw [e5]) rfl (by rw [e19]; exact rs.pn), oF_q f1 f2 o1 o2 o3 o4⟩
  · rw [e0, e1]
    exact LR_q h.lr f1 f2 (al_sub a1 rfl) b1' (al_sub a2 rfl) (al_sub b2 rfl) (fun f hf => i2 f (by omega) (by omega)) (fun f hf => l2 f (by omega))
  · exact stK_of f1 f2 (al_sub a1 rfl) (al_sub a2 rfl) (fun f hf => i2 f (by omega) (by omega)) (l2 134 (by omega))
  · exact crC_f h.cs.cc f1 (al_sub a1 rfl) e8
  · exact crR_f h.cs.cr f2 (al_sub a2 rfl) (al_sub b2 rfl) (i2 96 (by omega) (by omega)) (l2 87 (by omega)) e8
  · rw [e0, e1]; exact h.iv.pl
  · rw [e4, e5]; exact h.iv.pr
  · unfold txo; rw [e4, e5]; exact MR_tx h
  · refine rsF_q f1 f2 (al_sub a1 rfl) (al_sub a2 rfl) ?_ (fun f hf => ?_)
    · exact ct_nt (X := tlD) (A := B2) b2 rfl
    · have : f = 4 ∨ f = 25 ∨ f = 34 ∨ f = 35 ∨ f = 36 ∨ f = 112 ∨ f = 141 ∨ f = 143 := by simpa [rsI] using hf
      exact i2 f (by omega) (by omega)
end T2
