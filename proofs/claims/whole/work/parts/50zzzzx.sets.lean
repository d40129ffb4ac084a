/-! PURE (50zzzzx): a call tells something that is kept. -/
section Sx
variable {kt : Nat → Bool} {kb : Nat → Nat → Nat} {D E G H : Kp} {q : Nat}
theorem kpl_cg {kd ix : Nat} (h : kag D E kd ix) (hk : kpl D kd ix) : kpl E kd ix := by
  obtain ⟨h1, h2, h3⟩ := hk
  refine ⟨fun w t ht => ?_, fun w w2 t ht => ?_, fun w w2 => ?_⟩
  · subst w
    have : D.2.1 0 (12 * ix + t) = E.2.1 0 (12 * ix + t) := h (12 * ix + t) (by omega) (by omega)
    rw [← this]; exact h1 rfl t ht
  · subst w w2
    have : D.2.1 1 t = E.2.1 1 t := h t ht
    rw [← this]; exact h2 rfl rfl t ht
  · subst w
    have h' : D.1 8 ix = E.1 8 ix ∧ (D.1 8 ix = 1 → D.1 9 ix = E.1 9 ix ∧ D.1 10 ix = E.1 10 ix ∧ D.1 11 ix = E.1 11 ix ∧ D.2.1 10 ix = E.2.1 10 ix ∧ D.2.1 11 ix = E.2.1 11 ix) := h
    obtain ⟨a, c⟩ := h'
    rw [← a] at w2
    rw [← (c w2).2.2.2.2]
    exact h3 rfl w2
theorem st_D_cg (h : st_D kt kb D) (hb : kpb E) (h4 : E.2.1 4 10 = 0) (ha : ∀ k, k < 135 → kag D E (kdk k) (ixk k)) : st_D kt kb E := by
  obtain ⟨h1, h2, h3⟩ := h
  refine ⟨hb, h4, fun k hk => ⟨fun ht => ?_, fun hf => ?_⟩⟩
  · obtain ⟨b1', b2, _⟩ := kdk_ok k hk
    obtain ⟨t1, t2, t3⟩ := (h3 k hk).1 ht
    refine ⟨kxt_congr b1' b2 (kag_symm b1' b2 (ha k hk)) t1, kpl_cg (ha k hk) t2, fun j hj => ?_⟩
    rw [t3 j hj]
    unfold xk
    rw [kx_congr b1' b2 h1.2.2.2.2.2.2.2.2.2.1 t1 (ha k hk)]
  · obtain ⟨b1', b2, _⟩ := kdk_ok k hk
    exact kag_trans b1' b2 ((h3 k hk).2 hf) (ha k hk)
/-- the books and parts of D, all else as in G -/
def mxD (D G : Kp) : Kp := (fun f => if f = 7 then D.1 7 else G.1 f, fun f => if 2 ≤ f ∧ f ≤ 9 then D.2.1 f else G.2.1 f, D.2.2)
theorem mx_1 {f : Nat} (h : f ≠ 7) : (mxD D G).1 f = G.1 f := if_neg h
theorem mx_7 : (mxD D G).1 7 = D.1 7 := rfl
theorem mx_2 {f : Nat} (h : 2 ≤ f ∧ f ≤ 9) : (mxD D G).2.1 f = D.2.1 f := if_pos h
theorem mx_3 {f : Nat} (h : ¬ (2 ≤ f ∧ f ≤ 9)) : (mxD D G).2.1 f = G.2.1 f := if_neg h
theorem mx_4 : (mxD D G).2.2 = D.2.2 := rfl
theorem mx_kag (h : KA D G) : ∀ k, k < 135 → kag D (mxD D G) (kdk k) (ixk k) := fun k hk => by
  obtain ⟨b1', b2, _⟩ := kdk_ok k hk
  by_cases w : kdk k < 8 ∨ 12 ≤ kdk k
  · have r := h k hk w
    generalize ixk k = ix at r ⊢
    generalize kdk k = kd at *
    unfold kag at r ⊢
    rw [mx_1 (show 0 ≠ 7 by decide), mx_1 (show 1 ≠ 7 by decide), mx_1 (show 2 ≠ 7 by decide), mx_1 (show 3 ≠ 7 by decide), mx_1 (show 4 ≠ 7 by decide), mx_1 (show 5 ≠ 7 by decide), mx_1 (show 6 ≠ 7 by decide), mx_1 (show 8 ≠ 7 by decide), mx_1 (show 9 ≠ 7 by decide), mx_1 (show 10 ≠ 7 by decide), mx_1 (show 11 ≠ 7 by decide), mx_1 (show 12 ≠ 7 by decide), mx_1 (show 13 ≠ 7 by decide), mx_1 (show 14 ≠ 7 by decide), mx_1 (show 15 ≠ 7 by decide), mx_1 (show 16 ≠ 7 by decide), mx_1 (show 17 ≠ 7 by decide), mx_1 (show 18 ≠ 7 by decide), mx_1 (show 19 ≠ 7 by decide), mx_1 (show 20 ≠ 7 by decide), mx_1 (show 21 ≠ 7 by decide), mx_3 (show ¬ (2 ≤ 0 ∧ 0 ≤ 9) by decide), mx_3 (show ¬ (2 ≤ 1 ∧ 1 ≤ 9) by decide), mx_3 (show ¬ (2 ≤ 10 ∧ 10 ≤ 9) by decide), mx_3 (show ¬ (2 ≤ 11 ∧ 11 ≤ 9) by decide), mx_3 (show ¬ (2 ≤ 12 ∧ 12 ≤ 9) by decide)]
    rcases (show kd = 1 ∨ kd = 2 ∨ kd = 3 ∨ kd = 4 ∨ kd = 5 ∨ kd = 6 ∨ kd = 7 ∨ kd = 12 ∨ kd = 13 ∨ kd = 14 ∨ kd = 15 by omega) with w | w | w | w | w | w | w | w | w | w | w <;> subst w <;> exact r
  · generalize ixk k = ix
    generalize kdk k = kd at *
    rcases (show kd = 8 ∨ kd = 9 ∨ kd = 10 ∨ kd = 11 by omega) with w | w | w | w <;> subst w
    · exact ⟨rfl, rfl, rfl, rfl, rfl⟩
    · exact ⟨fun _ _ => rfl, fun _ _ => rfl⟩
    · exact ⟨rfl, rfl, fun _ _ => rfl⟩
    · exact ⟨rfl, rfl, rfl, rfl⟩
theorem mx_KA : KA (mxD D G) G := fun k hk w => by
  obtain ⟨b1', b2, _⟩ := kdk_ok k hk
  have r := kag_refl (E := G) (kd := kdk k) (ix := ixk k) b1' b2
  generalize ixk k = ix at r ⊢
  generalize kdk k = kd at *
  rcases (show kd = 1 ∨ kd = 2 ∨ kd = 3 ∨ kd = 4 ∨ kd = 5 ∨ kd = 6 ∨ kd = 7 ∨ kd = 12 ∨ kd = 13 ∨ kd = 14 ∨ kd = 15 by omega) with w | w | w | w | w | w | w | w | w | w | w <;> subst w <;> exact r
theorem mx_pb (hD : kpb D) (hG : kpb G) : kpb (mxD D G) := by
  obtain ⟨a0, a1, a2, a3, a5, a4, at4, a6, a7, a8, a9, a12, a13, a15, a16, a19, a20⟩ := hD
  obtain ⟨c0, c1, c2, c3, c5, c4, ct4, c6, c7, c8, c9, c12, c13, c15, c16, c19, c20⟩ := hG
  exact ⟨c0, c1, c2, c3, c5, c4, ct4, c6, a7, c8, c9, c12, c13, c15, c16, c19, c20⟩
theorem mx_S {B : Nat} {s : st_S} (h : S_ok B s D) (hG : kpb G) (hA : KA D G) : S_ok B s (mxD D G) :=
  ⟨h.1, st_D_cg h.2 (mx_pb h.2.1 hG) h.2.2.1 (mx_kag hA)⟩
theorem mx_Jd (hD : KB q E) (he : ∀ f, 2 ≤ f → f ≤ 9 → D.2.1 f = E.2.1 f) (hG : KB q G) (pl : plB (G.1 0) (G.1 1)) (pr : (prs (G.1 4) (G.1 5 0)).1 = 0) (ds : tDs G) (tx : txo G) (dr : ∀ j, j < 20 → G.1 12 j = 1 → G.1 13 j < 5 ∧ G.1 14 j < 110) : Jd q (mxD D G) := by
  obtain ⟨d1, d2, d3, d4, d5, d6, d7, d8, d9, d10, d11, d12, d13, d14, d15, d16, d17⟩ := hD
  obtain ⟨g1, g2, g3, g4, g5, g6, g7, g8, g9, g10, g11, g12, g13, g14, g15, g16, g17⟩ := hG
  refine ⟨⟨g1, g2, g3, g4, ?_, ?_, ?_, ?_, ?_, ?_, ?_, ?_, ?_, g14, g15, g16, g17⟩, pl, pr, ds, tx, dr⟩
  · rw [mx_2 ⟨by omega, by omega⟩, he 6 (by omega) (by omega)]; exact d5
  · rw [mx_2 ⟨by omega, by omega⟩, he 6 (by omega) (by omega)]; exact d6
  · rw [mx_2 ⟨by omega, by omega⟩, he 2 (by omega) (by omega)]; exact d7
  · rw [mx_2 ⟨by omega, by omega⟩, he 3 (by omega) (by omega)]; exact d8
  · rw [mx_2 ⟨by omega, by omega⟩, he 4 (by omega) (by omega)]; exact d9
  · rw [mx_2 ⟨by omega, by omega⟩, he 5 (by omega) (by omega)]; exact d10
  · rw [mx_2 ⟨by omega, by omega⟩, he 5 (by omega) (by omega)]; exact d11
  · rw [mx_2 ⟨by omega, by omega⟩, he 5 (by omega) (by omega)]; exact d12
  · rw [mx_2 ⟨by omega, by omega⟩, he 8 (by omega) (by omega)]; exact d13
theorem dec_nb {kd ix : Nat} (h1 : 1 ≤ kd) (h15 : kd ≤ 15) (h : kd < 8 ∨ 12 ≤ kd) {f : Nat} (h2 : 2 ≤ f) (h9 : f ≤ 9) : (dec D H kd ix).2.1 f = D.2.1 f := by
  rcases (show kd = 1 ∨ kd = 2 ∨ kd = 3 ∨ kd = 4 ∨ kd = 5 ∨ kd = 6 ∨ kd = 7 ∨ kd = 12 ∨ kd = 13 ∨ kd = 14 ∨ kd = 15 by omega) with w | w | w | w | w | w | w | w | w | w | w <;> subst w
  · rfl
  · rfl
  · rfl
  · show up _ _ _ f = _; rw [up_d, if_neg (by omega)]
  · rfl
  · show (if ix = 7 then _ else _ : Kp).2.1 f = _
    split <;> rfl
  · show (if ix = 0 then _ else _ : Kp).2.1 f = _
    split
    · show up _ _ _ f = _; rw [up_d, if_neg (by omega)]
    · rfl
  · show up (up _ _ _) _ _ f = _; rw [up_d, if_neg (by omega), up_d, if_neg (by omega)]
  · rfl
  · show up _ _ _ f = _; rw [up_d, if_neg (by omega)]
  · rfl
theorem DG_nb {gk : Nat → Nat} : ∀ n, (∀ i, i < n → gk i < 135) → (∀ i, i < n → kdk (gk i) < 8 ∨ 12 ≤ kdk (gk i)) → ∀ f, 2 ≤ f → f ≤ 9 → (DG gk D H n).2.1 f = D.2.1 f := by
  intro n
  induction n with
  | zero => intro _ _ f _ _; rfl
  | succ n ih =>
    intro hg h f h2 h9
    obtain ⟨b1', b2, _⟩ := kdk_ok _ (hg n (by omega))
    have e : DG gk D H (n + 1) = dec (DG gk D H n) H (kdk (gk n)) (ixk (gk n)) := rfl
    rw [e, dec_nb b1' b2 (h n (by omega)) h2 h9]
    exact ih (fun i hi => hg i (by omega)) (fun i hi => h i (by omega)) f h2 h9
end Sx
abbrev kyL : Type := List (Nat × Nat)
/-- both have told G to themselves, and are about to write the keys l -/
def pW (q B : Nat) (s : st_S) (D G : Kp) (x : CrS) (L : LvS) (N1 : mz_N) (b : Bool) (N2 : mz_N) (l : kyL) : Prop := (KS B s D G N1 b N2) ∧ (crC N1 G x) ∧ (crR N2 G x) ∧ (LR q (G.1 0) (G.1 1) L N1 b N2) ∧ (Jd q D) ∧ (KB q G) ∧ (plB (G.1 0) (G.1 1)) ∧ ((prs (G.1 4) (G.1 5 0)).1 = 0) ∧ (tDs G) ∧ (txo G) ∧ (∀ j, j < 20 → G.1 12 j = 1 → G.1 13 j < 5 ∧ G.1 14 j < 110) ∧ (∀ k, k < 135 → (kdk k < 8 ∨ 12 ≤ kdk k) → (¬ ∃ i, i < l.length ∧ gkl l i = k) → kag D G (kdk k) (ixk k)) ∧ (CI q false G x) ∧ (x.nn ≤ 1000000000 + 4 * q) ∧ (gka l) ∧ (l.length ≤ 16) ∧ (∀ k, k ∈ l → kxt G k.1 k.2) ∧ (∀ k, k ∈ l → kpl G k.1 k.2) ∧ (gtx (gkl l) l.length) ∧ ((∀ k, k ∈ l → 8 ≤ k.1 ∧ k.1 ≤ 12) ∨ ∀ k, k ∈ l → k.1 < 8 ∨ 12 ≤ k.1)
theorem pW.ks {q B : Nat} {s : st_S} {D G : Kp} {x : CrS} {L : LvS} {N1 : mz_N} {b : Bool} {N2 : mz_N} {l : kyL} (h : pW q B s D G x L N1 b N2 l) : KS B s D G N1 b N2 := h.1
theorem pW.cc {q B : Nat} {s : st_S} {D G : Kp} {x : CrS} {L : LvS} {N1 : mz_N} {b : Bool} {N2 : mz_N} {l : kyL} (h : pW q B s D G x L N1 b N2 l) : crC N1 G x := h.2.1
theorem pW.cr {q B : Nat} {s : st_S} {D G : Kp} {x : CrS} {L : LvS} {N1 : mz_N} {b : Bool} {N2 : mz_N} {l : kyL} (h : pW q B s D G x L N1 b N2 l) : crR N2 G x := h.2.2.1
theorem pW.lr {q B : Nat} {s : st_S} {D G : Kp} {x : CrS} {L : LvS} {N1 : mz_N} {b : Bool} {N2 : mz_N} {l : kyL} (h : pW q B s D G x L N1 b N2 l) : LR q (G.1 0) (G.1 1) L N1 b N2 := h.2.2.2.1
theorem pW.jd {q B : Nat} {s : st_S} {D G : Kp} {x : CrS} {L : LvS} {N1 : mz_N} {b : Bool} {N2 : mz_N} {l : kyL} (h : pW q B s D G x L N1 b N2 l) : Jd q D := h.2.2.2.2.1
theorem pW.kb {q B : Nat} {s : st_S} {D G : Kp} {x : CrS} {L : LvS} {N1 : mz_N} {b : Bool} {N2 : mz_N} {l : kyL} (h : pW q B s D G x L N1 b N2 l) : KB q G := h.2.2.2.2.2.1
theorem pW.pl {q B : Nat} {s : st_S} {D G : Kp} {x : CrS} {L : LvS} {N1 : mz_N} {b : Bool} {N2 : mz_N} {l : kyL} (h : pW q B s D G x L N1 b N2 l) : plB (G.1 0) (G.1 1) := h.2.2.2.2.2.2.1
theorem pW.pr {q B : Nat} {s : st_S} {D G : Kp} {x : CrS} {L : LvS} {N1 : mz_N} {b : Bool} {N2 : mz_N} {l : kyL} (h : pW q B s D G x L N1 b N2 l) : (prs (G.1 4) (G.1 5 0)).1 = 0 := h.2.2.2.2.2.2.2.1
theorem pW.ds {q B : Nat} {s : st_S} {D G : Kp} {x : CrS} {L : LvS} {N1 : mz_N} {b : Bool} {N2 : mz_N} {l : kyL} (h : pW q B s D G x L N1 b N2 l) : tDs G := h.2.2.2.2.2.2.2.2.1
theorem pW.tx {q B : Nat} {s : st_S} {D G : Kp} {x : CrS} {L : LvS} {N1 : mz_N} {b : Bool} {N2 : mz_N} {l : kyL} (h : pW q B s D G x L N1 b N2 l) : txo G := h.2.2.2.2.2.2.2.2.2.1
theorem pW.dr {q B : Nat} {s : st_S} {D G : Kp} {x : CrS} {L : LvS} {N1 : mz_N} {b : Bool} {N2 : mz_N} {l : kyL} (h : pW q B s D G x L N1 b N2 l) : ∀ j, j < 20 → G.1 12 j = 1 → G.1 13 j < 5 ∧ G.1 14 j < 110 := h.2.2.2.2.2.2.2.2.2.2.1
theorem pW.ka {q B : Nat} {s : st_S} {D G : Kp} {x : CrS} {L : LvS} {N1 : mz_N} {b : Bool} {N2 : mz_N} {l : kyL} (h : pW q B s D G x L N1 b N2 l) : ∀ k, k < 135 → (kdk k < 8 ∨ 12 ≤ kdk k) → (¬ ∃ i, i < l.length ∧ gkl l i = k) → kag D G (kdk k) (ixk k) := h.2.2.2.2.2.2.2.2.2.2.2.1
theorem pW.ci {q B : Nat} {s : st_S} {D G : Kp} {x : CrS} {L : LvS} {N1 : mz_N} {b : Bool} {N2 : mz_N} {l : kyL} (h : pW q B s D G x L N1 b N2 l) : CI q false G x := h.2.2.2.2.2.2.2.2.2.2.2.2.1
theorem pW.nn {q B : Nat} {s : st_S} {D G : Kp} {x : CrS} {L : LvS} {N1 : mz_N} {b : Bool} {N2 : mz_N} {l : kyL} (h : pW q B s D G x L N1 b N2 l) : x.nn ≤ 1000000000 + 4 * q := h.2.2.2.2.2.2.2.2.2.2.2.2.2.1
theorem pW.ha {q B : Nat} {s : st_S} {D G : Kp} {x : CrS} {L : LvS} {N1 : mz_N} {b : Bool} {N2 : mz_N} {l : kyL} (h : pW q B s D G x L N1 b N2 l) : gka l := h.2.2.2.2.2.2.2.2.2.2.2.2.2.2.1
theorem pW.hl {q B : Nat} {s : st_S} {D G : Kp} {x : CrS} {L : LvS} {N1 : mz_N} {b : Bool} {N2 : mz_N} {l : kyL} (h : pW q B s D G x L N1 b N2 l) : l.length ≤ 16 := h.2.2.2.2.2.2.2.2.2.2.2.2.2.2.2.1
theorem pW.ht {q B : Nat} {s : st_S} {D G : Kp} {x : CrS} {L : LvS} {N1 : mz_N} {b : Bool} {N2 : mz_N} {l : kyL} (h : pW q B s D G x L N1 b N2 l) : ∀ k, k ∈ l → kxt G k.1 k.2 := h.2.2.2.2.2.2.2.2.2.2.2.2.2.2.2.2.1
theorem pW.hp {q B : Nat} {s : st_S} {D G : Kp} {x : CrS} {L : LvS} {N1 : mz_N} {b : Bool} {N2 : mz_N} {l : kyL} (h : pW q B s D G x L N1 b N2 l) : ∀ k, k ∈ l → kpl G k.1 k.2 := h.2.2.2.2.2.2.2.2.2.2.2.2.2.2.2.2.2.1
theorem pW.hx {q B : Nat} {s : st_S} {D G : Kp} {x : CrS} {L : LvS} {N1 : mz_N} {b : Bool} {N2 : mz_N} {l : kyL} (h : pW q B s D G x L N1 b N2 l) : gtx (gkl l) l.length := h.2.2.2.2.2.2.2.2.2.2.2.2.2.2.2.2.2.2.1
theorem pW.md {q B : Nat} {s : st_S} {D G : Kp} {x : CrS} {L : LvS} {N1 : mz_N} {b : Bool} {N2 : mz_N} {l : kyL} (h : pW q B s D G x L N1 b N2 l) : (∀ k, k ∈ l → 8 ≤ k.1 ∧ k.1 ≤ 12) ∨ ∀ k, k ∈ l → k.1 < 8 ∨ 12 ≤ k.1 := h.2.2.2.2.2.2.2.2.2.2.2.2.2.2.2.2.2.2.2
section Wm
variable {N1 N2 : mz_N} {b : Bool} {B q : Nat} {s : st_S} {D G H : Kp} {x : CrS} {L : LvS} {l : List (Nat × Nat)}
theorem wr_MR (hB : B + 1 < 2 ^ 30) (h : pW q B s D G x L N1 b N2 l) : cp_121_0 (gjc N1 l) b ∧ cp_474_0 (gjr N2 l) ∧ ∃ w K1 K2, cf_121_0 (gjc N1 l) b = (w, K1) ∧ cf_474_0 (gjr N2 l) = (w, K2) ∧ cyF N1 K1 ∧ ryF N2 K2 ∧ (w = true → ∃ s' D', MR q (B + 1) s' D' G x L K1 b K2) ∧ (w = false → Dwn (B + 1) D K1 K2 ∧ Jd q D) := by
  obtain ⟨p1, p2, w, K1, K2, o1, o2, o3, o4, o5, o6⟩ := wr_ok hB h.ks h.ha h.hl h.ht h.hp h.hx
  refine ⟨p1, p2, w, K1, K2, o1, o2, o3, o4, fun hw => ?_, fun hw => ⟨o6 hw, h.jd⟩⟩
  obtain ⟨s', k1⟩ := o5 hw
  have hgk : ∀ i, i < l.length → gkl l i < 135 := fun i hi => by
    obtain ⟨y, m, e⟩ := gkl_i hi
    rw [e]; exact (h.ha y m).2.2
  have hgt : ∀ i, i < l.length → kxt G (kdk (gkl l i)) (ixk (gkl l i)) := fun i hi => by
    obtain ⟨y, m, e⟩ := gkl_i hi
    obtain ⟨e1, e2⟩ := kyo_inv (h.ha y m).2.2
    rw [e, e1, e2]; exact h.ht y m
  have hA : KA (DG (gkl l) D G l.length) G := fun k hk hk2 => by
    obtain ⟨b1', b2, _⟩ := kdk_ok k hk
    obtain ⟨d1, d2⟩ := DG_kag (D := D) (H := G) (gk := gkl l) (gc := l.length) hgk hgt l.length (Nat.le_refl _) k hk
    by_cases v : ∃ i, i < l.length ∧ gkl l i = k
    · exact d1 v
    · exact kag_trans b1' b2 (d2 v) (h.ka k hk hk2 v)
  have hJ : Jd q (mxD (DG (gkl l) D G l.length) G) := by
    rcases h.md with v | v
    · have hg : mgk (gkl l) l.length := fun i hi => by
        obtain ⟨y, m, e⟩ := gkl_i hi
        rw [e, (kyo_inv (h.ha y m).2.2).1]
        exact v y m
      exact mx_Jd (KB_DG h.jd.kb h.kb l.length hg).1 (fun _ _ _ => rfl) h.kb h.pl h.pr h.ds h.tx h.dr
    · exact mx_Jd h.jd.kb (DG_nb l.length hgk (fun i hi => by
        obtain ⟨y, m, e⟩ := gkl_i hi
        rw [e, (kyo_inv (h.ha y m).2.2).1]
        exact v y m)) h.kb h.pl h.pr h.ds h.tx h.dr
  exact ⟨s', _, ⟨⟨⟨mx_S k1.ok h.ks.hb hA, k1.c, k1.r, k1.kc, k1.kr, k1.hb, k1.zv⟩, crc_y o3 h.cc, crr_y o4 h.cr⟩, LR_cr h.lr (crF_y o3) (crG_y o4), ⟨hJ, h.kb, h.pl, h.pr, h.ds, mx_KA, h.ci, h.nn⟩⟩⟩
/-- one key -/
theorem keep_ok {kd ix : Nat} {a : Int32} (hB : B + 1 < 2 ^ 30) (h : pW q B s D G x L N1 b N2 [(kd, ix)]) : cp_171_0 (nI kd) (nI ix) a N1 b ∧ cp_494_0 (nI kd) (nI ix) N2 ∧ ∃ w K1 K2, cf_171_0 (nI kd) (nI ix) a N1 b = ((if w = true then a else -1001), K1) ∧ cf_494_0 (nI kd) (nI ix) N2 = (w, K2) ∧ cyF N1 K1 ∧ ryF N2 K2 ∧ (w = true → ∃ s' D', MR q (B + 1) s' D' G x L K1 b K2) ∧ (w = false → Dwn (B + 1) D K1 K2 ∧ Jd q D) := by
  obtain ⟨p1, p2, w, K1, K2, o1, o2, o3⟩ := wr_MR hB h
  have q1 := gjc_p (N := N1) h.ha (Nat.succ_pos _)
  have q2 := gjr_p (N := N2) h.ha (Nat.succ_pos _)
  have e1 : cf_121_0 (cf_119_0 (nI kd) (nI ix) (cf_117_0 N1)) b = (w, K1) := o1
  have e2 : cf_474_0 (cf_472_0 (nI kd) (nI ix) (cf_471_0 N2)) = (w, K2) := o2
  refine ⟨⟨q1, p1⟩, ⟨q2, p2⟩, w, K1, K2, ?_, ?_, o3⟩
  · rw [cf_171_0, e1]; cases w <;> rfl
  · rw [cf_494_0, e2]
end Wm
