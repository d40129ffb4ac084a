/-! PURE (50zzp): what spaces have is spread over their cells. -/
theorem lp_filL {β : Type} [Nonempty β] {f : Int32 × mz_N → (Int32 × mz_N) ⊕ β} {P : Int32 × mz_N → Prop} {N : mz_N} (c n : Nat) (val : Nat → Int64) (R : mz_N → β) (hb : n < 2 ^ 31)
    (hs : ∀ t, t < n → ∀ g, P (nI t, mz_sL N c g) ∧ f (nI t, mz_sL N c g) = .inl (nI (t + 1), mz_wL (mz_sL N c g) c (nI t) (val t)))
    (he : ∀ g, P (nI n, mz_sL N c g) ∧ f (nI n, mz_sL N c g) = .inr (R (mz_sL N c g))) :
    (∃ m, mz_ok f P m (0, N)) ∧ ∃ g, mz_run f (0, N) = R (mz_sL N c g) ∧ ∀ j, g j = if j < n then val j else N.2 c j := by
  refine mz_lpn (f := f) (P := P) (Q := fun t => ∃ g, t = R (mz_sL N c g) ∧ ∀ j, g j = if j < n then val j else N.2 c j) n (fun t s => ∃ g, s = (nI t, mz_sL N c g) ∧ ∀ j, g j = if j < t then val j else N.2 c j) ?_ ?_ (Nat.zero_le _) ⟨N.2 c, by rw [sL_same]; rfl, fun j => by rw [if_neg (by omega)]⟩
  · rintro t s ht ⟨g, rfl, hg⟩
    obtain ⟨h1, h2⟩ := hs t ht g
    refine ⟨h1, Or.inl ⟨_, h2, vp_updL g t (val t), ?_, fun j => ?_⟩⟩
    · rw [wL_s, sL_e, sL_sL, nI_clamp (by omega)]
    · rw [upL_a]
      by_cases w : j = t
      · rw [if_pos w, w, if_pos (by omega)]
      · rw [if_neg w, hg j]
        by_cases v : j < t
        · rw [if_pos v, if_pos (by omega)]
        · rw [if_neg v, if_neg (by omega)]
  · rintro s ⟨g, rfl, hg⟩
    obtain ⟨h1, h2⟩ := he g
    exact ⟨h1, _, h2, g, rfl, hg⟩
noncomputable def spq (e : Nat → Nat) (T : Nat → Int64) (k : Nat) : Int64 := cf_489_0 (T k) (lN (pl_sz e k))
/-- what the i-th cell of space k gets -/
noncomputable def spi (e : Nat → Nat) (T : Nat → Int64) (k i : Nat) : Int64 := if lN i < T k - spq e T k * lN (pl_sz e k) then spq e T k + 1 else spq e T k
noncomputable def spd (e : Nat → Nat) (T : Nat → Int64) (c : Nat) : Int64 := spi e T (pl_lab e c) (cnt (pl_in e (pl_lab e c)) c)
/-- a tenth of a degree: the warmth of a space -/
noncomputable def wmv (e : Nat → Nat) (T : Nat → Int64) (k : Nat) : Int64 := cf_489_0 (T k) (lN (100 * pl_sz e k))
section Spd
variable {N : mz_N} {e : Nat → Nat} {k : Nat} {a2 : Nat}
theorem cnt_inj {p : Nat → Bool} {c c' : Nat} (h1 : p c = true) (h2 : p c' = true) (h : cnt p c = cnt p c') : c = c' := by
  rcases Nat.lt_trichotomy c c' with w | w | w
  · have := cnt_lt w h1; omega
  · exact w
  · have := cnt_lt w h2; omega
theorem pin {c : Nat} (h : pl_lab e c = k) : pl_in e k c = true := by unfold pl_in; simpa using h
theorem sp1_c (hs : c_sm e N) (hk : k < pl_n e) (q r : Int64) (f : Nat → Int64) : cp_243_63 a2 (nI k) (nI (pl_sz e k)) (nI (pl_st e k)) q r 0 (mz_sL N a2 f) ∧ ∃ g, cf_243_63 a2 (nI k) (nI (pl_sz e k)) (nI (pl_st e k)) q r 0 (mz_sL N a2 f) = .inl (nI (k + 1), mz_sL N a2 g) ∧ ∀ c, c < 240 → g c = if pl_lab e c = k then (if lN (cnt (pl_in e k) c) < r then q + 1 else q) else f c := by
  have hz := pl_sz_le hk
  have hb2 := pl_n_le e
  rw [cp_243_63, cf_243_63]
  refine mz_lpn (f := cq_243_63 a2 (nI k) (nI (pl_sz e k)) (nI (pl_st e k)) q r) (P := cd_243_63 a2 (nI k) (nI (pl_sz e k)) (nI (pl_st e k)) q r) (Q := fun t => ∃ g, t = .inl (nI (k + 1), mz_sL N a2 g) ∧ ∀ c, c < 240 → g c = if pl_lab e c = k then (if lN (cnt (pl_in e k) c) < r then q + 1 else q) else f c) (pl_sz e k) (fun i s => ∃ g, s = (nI i, mz_sL N a2 g) ∧ ∀ c, c < 240 → g c = if pl_lab e c = k ∧ cnt (pl_in e k) c < i then (if lN (cnt (pl_in e k) c) < r then q + 1 else q) else f c) ?_ ?_ (Nat.zero_le _) ⟨f, rfl, fun c _ => by rw [if_neg (fun z => Nat.not_lt_zero _ z.2)]⟩
  · rintro i s hi ⟨g, rfl, hg⟩
    obtain ⟨c0, c1, c2, c3, c4⟩ := en_c hs hk hi
    have l : nI i < nI (pl_sz e k) := (nI_ltI (by omega) (by omega)).mpr hi
    have g30 : mz_gI (mz_sL N a2 g) 30 (nI (pl_st e k) + nI i) = nI c0 := by rw [nI_add, gI_a, sL_1, nI_clamp (by omega)]; exact c4
    have i1 : mz_ib (nI (pl_st e k) + nI i) 240 := by rw [nI_add]; exact ib_n (by omega) (by omega)
    have i2 : mz_ib (nI c0) 240 := ib_n c1 (by omega)
    have eL : (nI i).toInt64 = lN i := nI_L (by omega)
    have st : ∀ v : Int64, v = (if lN i < r then q + 1 else q) → ∃ s2, cf_243_99 a2 (nI c0) v (nI k) (nI (pl_sz e k)) (nI (pl_st e k)) q r (nI i) (mz_sL N a2 g) = .inl s2 ∧ ∃ g', s2 = (nI (i + 1), mz_sL N a2 g') ∧ ∀ c, c < 240 → g' c = if pl_lab e c = k ∧ cnt (pl_in e k) c < i + 1 then (if lN (cnt (pl_in e k) c) < r then q + 1 else q) else f c := fun v hv => by
      refine ⟨_, rfl, vp_updL g c0 v, ?_, fun c hc => ?_⟩
      · rw [wL_s, sL_e, sL_sL, nI_clamp (by omega), nI_1]
      · rw [upL_a]
        by_cases w : c = c0
        · rw [if_pos w, w, if_pos ⟨c2, by omega⟩, c3, hv]
        · rw [if_neg w, hg c hc]
          by_cases z : pl_lab e c = k
          · have nz : cnt (pl_in e k) c ≠ i := fun y => w (cnt_inj (pin z) (pin c2) (y.trans c3.symm))
            by_cases y : cnt (pl_in e k) c < i
            · rw [if_pos (show pl_lab e c = k ∧ cnt (pl_in e k) c < i from ⟨z, y⟩), if_pos (show pl_lab e c = k ∧ cnt (pl_in e k) c < i + 1 from ⟨z, by omega⟩)]
            · rw [if_neg (fun x => y x.2), if_neg (fun x => by have := x.2; omega)]
          · rw [if_neg (fun x => z x.1), if_neg (fun x => z x.1)]
    rw [cd_243_63, cq_243_63]
    simp only [l, if_true, g30, eL]
    refine ⟨⟨fun _ => ⟨i1, fun _ => i2, fun _ => i2⟩, fun _ => trivial⟩, Or.inl ?_⟩
    by_cases w : lN i < r
    · rw [if_pos w]; exact st _ (by rw [if_pos w])
    · rw [if_neg w]; exact st _ (by rw [if_neg w])
  · rintro s ⟨g, rfl, hg⟩
    have l : ¬ nI (pl_sz e k) < nI (pl_sz e k) := fun q => by have := (nI_ltI (by omega) (by omega)).mp q; omega
    rw [cd_243_63, cq_243_63]
    simp only [l, if_false]
    refine ⟨⟨False.elim, fun _ => trivial⟩, _, rfl, g, ?_, fun c hc => ?_⟩
    · rw [nI_1]
    · rw [hg c hc]
      by_cases z : pl_lab e c = k
      · have y : cnt (pl_in e k) c < pl_sz e k := cnt_lt hc (pin z)
        rw [if_pos (show pl_lab e c = k ∧ cnt (pl_in e k) c < pl_sz e k from ⟨z, y⟩), if_pos z]
      · rw [if_neg (fun x => z x.1), if_neg z]
theorem spr_c (ha : 74 ≠ a2) (hn : pl_n e ≤ 40) (h7 : N.1 2 7 = nI (pl_n e)) (hs : c_sm e N) : cp_243_0 a2 N ∧ ∃ g, cf_243_0 a2 N = mz_sL N a2 g ∧ ∀ c, c < 240 → g c = spd e (N.2 74) c := by
  rw [cp_243_0, cf_243_0, cp_243_2, cf_243_2]
  refine mz_lpn (f := cq_243_2 a2) (P := cd_243_2 a2) (Q := fun t => ∃ g, t = mz_sL N a2 g ∧ ∀ c, c < 240 → g c = spd e (N.2 74) c) (pl_n e) (fun k s => ∃ g, s = (nI k, mz_sL N a2 g) ∧ ∀ c, c < 240 → pl_lab e c < k → g c = spd e (N.2 74) c) ?_ ?_ (Nat.zero_le _) ⟨N.2 a2, by rw [sL_same]; rfl, fun c _ h => absurd h (Nat.not_lt_zero _)⟩
  · rintro k s hk ⟨g, rfl, hg⟩
    obtain ⟨s1, s2⟩ := hs.1 k hk
    have hz := pl_sz_le hk
    have hz1 := pl_some hk
    have l : nI k < nI (pl_n e) := (nI_ltI (by omega) (by omega)).mpr hk
    have i1 : mz_ib (nI k) 40 := ib_n (by omega) (by omega)
    have g19 : mz_gI (mz_sL N a2 g) 19 (nI k) = nI (pl_sz e k) := by rw [gI_a, sL_1, nI_clamp (by omega)]; exact s1
    have g28 : mz_gI (mz_sL N a2 g) 28 (nI k) = nI (pl_st e k) := by rw [gI_a, sL_1, nI_clamp (by omega)]; exact s2
    have g74 : mz_gL (mz_sL N a2 g) 74 (nI k) = N.2 74 k := by rw [gL_a, sL_n ha, nI_clamp (by omega)]
    have pc := pc_c (x := N.2 74 k) (u := 1) (s := pl_sz e k) (by omega) hz1 (by omega)
    rw [Nat.one_mul, show nI 1 = 1 from rfl] at pc
    have eq : cf_159_0 (N.2 74 k) 1 (nI (pl_sz e k)) = spq e (N.2 74) k := pc.2
    obtain ⟨p1, g', p2, p3⟩ := sp1_c (a2 := a2) hs hk (spq e (N.2 74) k) (N.2 74 k - spq e (N.2 74) k * lN (pl_sz e k)) g
    rw [cd_243_2, cq_243_2]
    simp only [sL_1, h7, l, if_true, g19, g28, g74, eq, nI_L (show pl_sz e k < 2 ^ 31 by omega)]
    refine ⟨⟨fun _ => ⟨i1, i1, i1, pc.1, i1, p1⟩, fun _ => trivial⟩, Or.inl ⟨_, p2, g', rfl, fun c hc h => ?_⟩⟩
    rw [p3 c hc]
    by_cases z : pl_lab e c = k
    · rw [if_pos z, spd, z, spi]
    · rw [if_neg z]
      exact hg c hc (by omega)
  · rintro s ⟨g, rfl, hg⟩
    have l : ¬ nI (pl_n e) < nI (pl_n e) := fun q => by have := (nI_ltI (by omega) (by omega)).mp q; omega
    rw [cd_243_2, cq_243_2]
    simp only [sL_1, h7, l, if_false]
    exact ⟨⟨False.elim, fun _ => trivial⟩, _, rfl, g, rfl, fun c hc => hg c hc (pl_lab_lt hc)⟩
/-- the reference spreads with its queue -/
def spN (N : mz_N) (a2 : Nat) (g : Nat → Int64) (q : Nat → Int32) : mz_N := (fun c => if c = 238 then q else N.1 c, fun c => if c = a2 then g else N.2 c)
theorem spN_L {g : Nat → Int64} {q : Nat → Int32} {i : Int32} {v : Int64} : mz_wL (spN N a2 g q) a2 i v = spN N a2 (vp_updL g i.toNatClampNeg v) q := by
  refine mz_ext (fun c => rfl) (fun c => ?_)
  rw [wL_s, sL_2]
  show (if c = a2 then vp_updL (if a2 = a2 then g else N.2 a2) _ v else if c = a2 then g else N.2 c) = if c = a2 then _ else N.2 c
  rw [if_pos rfl]
  by_cases w : c = a2
  · rw [if_pos w, if_pos w]
  · rw [if_neg w, if_neg w, if_neg w]
theorem spN_I {g : Nat → Int64} {q : Nat → Int32} {i v : Int32} : mz_wI (spN N a2 g q) 238 i v = spN N a2 g (upd q i.toNatClampNeg v) := by
  refine mz_ext (fun c => ?_) (fun c => rfl)
  rw [wI_s, sI_1]
  show (if c = 238 then upd (if 238 = 238 then q else N.1 238) _ v else if c = 238 then q else N.1 c) = if c = 238 then _ else N.1 c
  rw [if_pos rfl]
  by_cases w : c = 238
  · rw [if_pos w, if_pos w]
  · rw [if_neg w, if_neg w, if_neg w]
theorem spN_0 : spN N a2 (N.2 a2) (N.1 238) = N := by
  refine mz_ext (fun c => ?_) (fun c => ?_)
  · show (if c = 238 then N.1 238 else N.1 c) = N.1 c
    by_cases w : c = 238
    · rw [if_pos w, w]
    · rw [if_neg w]
  · show (if c = a2 then N.2 a2 else N.2 c) = N.2 c
    by_cases w : c = a2
    · rw [if_pos w, w]
    · rw [if_neg w]
theorem spr_r {a1 n1 : Nat} (ha : a1 ≠ a2) (hn1 : pl_n e ≤ n1) (hn2 : n1 < 2 ^ 31) (h7 : N.1 232 7 = nI (pl_n e)) (h35 : ∀ c, c < 240 → N.1 235 c = nI (pl_lab e c)) (h37 : ∀ k, k < pl_n e → N.1 237 k = nI (pl_sz e k)) : cp_530_0 a1 n1 a2 N ∧ ∃ g q, cf_530_0 a1 n1 a2 N = spN N a2 g q ∧ ∀ c, c < 240 → g c = spd e (N.2 a1) c := by
  have hb2 := pl_n_le e
  have two : ∀ q0 : Nat → Int32, (∀ k, k < pl_n e → q0 k = 0) → cp_530_25 a1 n1 a2 0 (spN N a2 (N.2 a2) q0) ∧ ∃ g q, cf_530_25 a1 n1 a2 0 (spN N a2 (N.2 a2) q0) = spN N a2 g q ∧ ∀ c, c < 240 → g c = spd e (N.2 a1) c := fun q0 h0 => by
    rw [cp_530_25, cf_530_25]
    refine mz_lpn (f := cq_530_25 a1 n1 a2) (P := cd_530_25 a1 n1 a2) (Q := fun t => ∃ g q, t = spN N a2 g q ∧ ∀ c, c < 240 → g c = spd e (N.2 a1) c) 240 (fun i s => ∃ g q, s = (nI i, spN N a2 g q) ∧ (∀ c, c < i → g c = spd e (N.2 a1) c) ∧ ∀ k, k < pl_n e → q k = nI (cnt (pl_in e k) i)) ?_ ?_ (Nat.zero_le _) ⟨N.2 a2, q0, rfl, fun c h => absurd h (Nat.not_lt_zero _), fun k hk => h0 k hk⟩
    · rintro i s hi ⟨g, q, rfl, hg, hq⟩
      have hb := pl_lab_lt (e := e) hi
      have hz := pl_sz_le hb
      have hz1 := pl_some hb
      have hci := cnt_le (pl_in e (pl_lab e i)) i
      have l : nI i < 240 := (nI_ltI (b := 240) (by omega) (by omega)).mpr hi
      have i1 : mz_ib (nI i) 240 := ib_n (by omega) (by omega)
      have i2 : mz_ib (nI (pl_lab e i)) n1 := ib_n (by omega) hn2
      have i3 : mz_ib (nI (pl_lab e i)) 240 := ib_n (by omega) (by omega)
      have g35 : mz_gI (spN N a2 g q) 235 (nI i) = nI (pl_lab e i) := by rw [gI_a, nI_clamp (by omega)]; exact h35 i hi
      have g37 : mz_gI (spN N a2 g q) 237 (nI (pl_lab e i)) = nI (pl_sz e (pl_lab e i)) := by rw [gI_a, nI_clamp (by omega)]; exact h37 _ hb
      have g38 : mz_gI (spN N a2 g q) 238 (nI (pl_lab e i)) = nI (cnt (pl_in e (pl_lab e i)) i) := by rw [gI_a, nI_clamp (by omega)]; exact hq _ hb
      have gl : mz_gL (spN N a2 g q) a1 (nI (pl_lab e i)) = N.2 a1 (pl_lab e i) := by
        rw [gL_a, nI_clamp (by omega)]
        show (if a1 = a2 then g else N.2 a1) _ = _
        rw [if_neg ha]
      have g38' : ∀ v, mz_gI (spN N a2 (vp_updL g i v) q) 238 (nI (pl_lab e i)) = nI (cnt (pl_in e (pl_lab e i)) i) := fun v => by rw [gI_a, nI_clamp (by omega)]; exact hq _ hb
      have st : ∀ v : Int64, cf_489_0 (N.2 a1 (pl_lab e i)) (lN (pl_sz e (pl_lab e i))) + v = spd e (N.2 a1) i → ∃ s2, cf_530_94 a1 n1 a2 (nI i) (cf_489_0 (N.2 a1 (pl_lab e i)) (lN (pl_sz e (pl_lab e i)))) v (nI i) (nI (pl_lab e i)) (spN N a2 g q) = .inl s2 ∧ ∃ g' q', s2 = (nI (i + 1), spN N a2 g' q') ∧ (∀ c, c < i + 1 → g' c = spd e (N.2 a1) c) ∧ ∀ k, k < pl_n e → q' k = nI (cnt (pl_in e k) (i + 1)) := fun v hv => by
        refine ⟨_, rfl, vp_updL g i (spd e (N.2 a1) i), upd q (pl_lab e i) (nI (cnt (pl_in e (pl_lab e i)) i + 1)), ?_, fun c hc => ?_, fun k hk => ?_⟩
        · rw [hv, spN_L, nI_clamp (show i < 2 ^ 31 by omega), g38', spN_I, nI_clamp (show pl_lab e i < 2 ^ 31 by omega), nI_1, nI_1]
        · rw [upL_a]
          by_cases w : c = i
          · rw [if_pos w, w]
          · rw [if_neg w]; exact hg c (by omega)
        · rw [up_a]
          by_cases w : k = pl_lab e i
          · rw [if_pos w, w, cnt_s (pin rfl)]
          · rw [if_neg w, hq k hk, cnt_sn (by unfold pl_in; simpa using (fun z => w z.symm))]
      rw [cd_530_25, cq_530_25]
      simp only [l, if_true, g35, g37, g38, gl, nI_L (show pl_sz e (pl_lab e i) < 2 ^ 31 by omega), nI_L (show cnt (pl_in e (pl_lab e i)) i < 2 ^ 31 by omega)]
      refine ⟨⟨fun _ => ⟨i1, i2, i3, by_p hz1 (by omega), i3, i2, i3, fun _ => ⟨i1, i3, i3⟩, fun _ => ⟨i1, i3, i3⟩⟩, fun _ => trivial⟩, Or.inl ?_⟩
      by_cases w : lN (cnt (pl_in e (pl_lab e i)) i) < N.2 a1 (pl_lab e i) - cf_489_0 (N.2 a1 (pl_lab e i)) (lN (pl_sz e (pl_lab e i))) * lN (pl_sz e (pl_lab e i))
      · rw [if_pos w]; exact st _ (by rw [spd, spi, spq, if_pos w])
      · rw [if_neg w]; exact st _ (by rw [spd, spi, spq, if_neg w, Int64.add_zero])
    · rintro s ⟨g, q, rfl, hg, hq⟩
      rw [cd_530_25, cq_530_25]
      refine ⟨⟨fun q => absurd q (show ¬ nI 240 < 240 by decide), fun _ => trivial⟩, spN N a2 g q, ?_, g, q, rfl, hg⟩
      rw [if_neg (show ¬ (nI 240 : Int32) < 240 by decide)]
  rw [cp_530_0, cf_530_0, cp_530_2, cf_530_2]
  refine mz_lpn (f := cq_530_2 a1 n1 a2) (P := cd_530_2 a1 n1 a2) (Q := fun t => ∃ g q, t = spN N a2 g q ∧ ∀ c, c < 240 → g c = spd e (N.2 a1) c) (pl_n e) (fun i s => ∃ q, s = (nI i, spN N a2 (N.2 a2) q) ∧ ∀ k, k < i → q k = 0) ?_ ?_ (Nat.zero_le _) ⟨N.1 238, by rw [spN_0]; rfl, fun c h => absurd h (Nat.not_lt_zero _)⟩
  · rintro i s hi ⟨q, rfl, hq⟩
    have l : nI i < nI (pl_n e) := (nI_ltI (by omega) (by omega)).mpr hi
    have h7' : (spN N a2 (N.2 a2) q).1 232 7 = nI (pl_n e) := h7
    rw [cd_530_2, cq_530_2]
    simp only [h7', l, if_true]
    refine ⟨⟨fun _ => ib_n (by omega) (by omega), fun z => absurd trivial z⟩, Or.inl ⟨_, rfl, upd q i 0, ?_, fun k hk => ?_⟩⟩
    · rw [spN_I, nI_clamp (by omega), nI_1]
    · rw [up_a]
      by_cases w : k = i
      · rw [if_pos w]
      · rw [if_neg w]; exact hq k (by omega)
  · rintro s ⟨q, rfl, hq⟩
    have l : ¬ nI (pl_n e) < nI (pl_n e) := fun q => by have := (nI_ltI (by omega) (by omega)).mp q; omega
    have h7' : (spN N a2 (N.2 a2) q).1 232 7 = nI (pl_n e) := h7
    obtain ⟨t1, t2⟩ := two q hq
    rw [cd_530_2, cq_530_2]
    simp only [h7', l, if_false]
    exact ⟨⟨False.elim, fun _ => t1⟩, _, rfl, t2⟩
theorem gat_c (ha : a2 ≠ 74) (hn : pl_n e ≤ 40) (h7 : N.1 2 7 = nI (pl_n e)) (hs : c_sm e N) : cp_235_0 a2 N ∧ ∃ g, cf_235_0 a2 N = mz_sL N 74 g ∧ ∀ k, k < pl_n e → g k = ts e (N.2 a2) k := by
  rw [cp_235_0, cf_235_0, cp_235_2, cf_235_2]
  refine (fun (h : _ ∧ ∃ g, _ ∧ _) => ⟨h.1, h.2.choose, h.2.choose_spec.1, fun k hk => by rw [h.2.choose_spec.2 k, if_pos hk]⟩) (lp_filL (f := cq_235_2 a2) (P := cd_235_2 a2) (N := N) 74 (pl_n e) (fun k => ts e (N.2 a2) k) (fun M => M) (by omega) (fun i hi g => ?_) (fun g => ?_))
  · have l : nI i < nI (pl_n e) := (nI_ltI (by omega) (by omega)).mpr hi
    obtain ⟨s1, s2⟩ := sum_c (N := mz_sL N 74 g) (a2 := a2) hn hs hi
    rw [sL_n ha] at s2
    rw [cd_235_2, cq_235_2]
    simp only [sL_1, h7, l, if_true, s2]
    refine ⟨⟨fun _ => ⟨s1, ib_n (by omega) (by omega)⟩, fun _ => trivial⟩, ?_⟩
    rw [nI_1]
  · have l : ¬ nI (pl_n e) < nI (pl_n e) := fun q => by have := (nI_ltI (by omega) (by omega)).mp q; omega
    rw [cd_235_2, cq_235_2]
    simp only [sL_1, h7, l, if_false]
    exact ⟨⟨False.elim, fun _ => trivial⟩, trivial⟩
theorem wms_c (hn : pl_n e ≤ 40) (h7 : N.1 2 7 = nI (pl_n e)) (h19 : ∀ k, k < pl_n e → N.1 19 k = nI (pl_sz e k)) : cp_236_0 N ∧ ∃ g, cf_236_0 N = mz_sL N 75 g ∧ ∀ k, k < pl_n e → g k = wmv e (N.2 74) k := by
  rw [cp_236_0, cf_236_0, cp_236_2, cf_236_2]
  refine (fun (h : _ ∧ ∃ g, _ ∧ _) => ⟨h.1, h.2.choose, h.2.choose_spec.1, fun k hk => by rw [h.2.choose_spec.2 k, if_pos hk]⟩) (lp_filL (f := cq_236_2) (P := cd_236_2) (N := N) 75 (pl_n e) (fun k => wmv e (N.2 74) k) (fun M => M) (by omega) (fun i hi g => ?_) (fun g => ?_))
  · have l : nI i < nI (pl_n e) := (nI_ltI (by omega) (by omega)).mpr hi
    have hz := pl_sz_le hi
    have i1 : mz_ib (nI i) 40 := ib_n (by omega) (by omega)
    have pc := pc_c (x := N.2 74 i) (u := 100) (s := pl_sz e i) (by omega) (pl_some hi) (by omega)
    rw [show nI 100 = 100 from rfl] at pc
    have g19 : mz_gI (mz_sL N 75 g) 19 (nI i) = nI (pl_sz e i) := by rw [gI_a, sL_1, nI_clamp (by omega)]; exact h19 i hi
    have g74 : mz_gL (mz_sL N 75 g) 74 (nI i) = N.2 74 i := by rw [gL_a, sL_n (by decide), nI_clamp (by omega)]
    rw [cd_236_2, cq_236_2]
    simp only [sL_1, h7, l, if_true, g19, g74, pc.2]
    refine ⟨⟨fun _ => ⟨i1, i1, pc.1, i1⟩, fun _ => trivial⟩, ?_⟩
    rw [nI_1]; rfl
  · have l : ¬ nI (pl_n e) < nI (pl_n e) := fun q => by have := (nI_ltI (by omega) (by omega)).mp q; omega
    rw [cd_236_2, cq_236_2]
    simp only [sL_1, h7, l, if_false]
    exact ⟨⟨False.elim, fun _ => trivial⟩, trivial⟩
end Spd
