/-! PURE (50zza): the reference does its program. -/
section Dop
variable {N : mz_N} {T : Nat → Int} {S : List (Nat × Nat)}
theorem rws_sf {W V E G : Nat → Int32} (hw : rws W V E G S) (i : Nat) : rws W V E G (sf S i) := by
  have : ∀ k (S : List (Nat × Nat)), rws W V E G S → rws W V E G (S.drop k) := by
    intro k
    induction k with
    | zero => intro S h; exact h
    | succ k ih =>
      intro S h
      cases S with
      | nil => exact trivial
      | cons x S => exact ih S h.2.2
  exact this _ S hw
theorem nw_c {x : Nat × Nat} (h : x.1 ≠ 2) : nw (x :: S) = nw S + 1 ∧ na (x :: S) = na S := by
  constructor
  · show (if x.1 = 2 then nw S else nw S + 1) = _; rw [if_neg h]
  · show (if x.1 = 2 then na S + 1 else na S) = _; rw [if_neg h]
theorem nw_a {x : Nat × Nat} (h : x.1 = 2) : nw (x :: S) = nw S ∧ na (x :: S) = na S + 1 := by
  constructor
  · show (if x.1 = 2 then nw S else nw S + 1) = _; rw [if_pos h]
  · show (if x.1 = 2 then na S + 1 else na S) = _; rw [if_pos h]
theorem na_mono : ∀ {i k : Nat}, i ≤ k → k ≤ S.length → na (sf S i) ≤ na (sf S k) := by
  intro i k h
  induction k with
  | zero => intro _; rw [show i = 0 by omega]; exact Nat.le_refl _
  | succ k ih =>
    intro hk
    by_cases w : i = k + 1
    · rw [w]; exact Nat.le_refl _
    · obtain ⟨x, hx, -⟩ := sf_s (S := S) (i := k) (by omega)
      have := ih (by omega) (by omega)
      rw [hx]
      by_cases v : x.1 = 2
      · rw [(nw_a v).2]; omega
      · rw [(nw_c v).2]; exact this
/-- the next assignment -/
theorem nxt (hv : vok S) (hd : dpt S = 0) {i : Nat} (hi : i < S.length) : ∃ j g, i ≤ j ∧ j < S.length ∧ sf S (j + 1) = (2, g) :: sf S j ∧ ∀ k, i ≤ k → k < j → ∃ x, sf S (k + 1) = x :: sf S k ∧ x.1 ≠ 2 := by
  have hex : ∃ k, i ≤ k ∧ k < S.length ∧ ∃ g, sf S (k + 1) = (2, g) :: sf S k := by
    obtain ⟨x, hx, -⟩ := sf_s (S := S) (i := S.length - 1) (by omega)
    have e : S.length - 1 + 1 = S.length := by omega
    have hx' := hx
    rw [e, sf_l] at hx'
    have h2 : x.1 = 2 := by
      have hv' := hv
      have hd' := hd
      rw [hx'] at hv' hd'
      have hdd : (if x.1 ≤ 1 then dpt (sf S (S.length - 1)) + 1 else if x.1 = 3 then dpt (sf S (S.length - 1)) else if x.1 = 63 then dpt (sf S (S.length - 1)) - 2 else dpt (sf S (S.length - 1)) - 1) = 0 := hd'
      rcases hv'.2 with ⟨c, d⟩ | ⟨c, d⟩ | ⟨c, d, e⟩ | ⟨c, d⟩ | ⟨c, d⟩ | ⟨c, d⟩
      · rw [if_pos (by omega)] at hdd; omega
      · rw [if_pos (by omega)] at hdd; omega
      · exact c
      · rw [if_neg (by omega), if_pos c] at hdd; omega
      · rw [if_neg (by omega), if_neg (by omega), if_pos c] at hdd; omega
      · unfold isop at c
        rw [if_neg (by omega), if_neg (by omega), if_neg (by omega)] at hdd; omega
    refine ⟨S.length - 1, by omega, by omega, x.2, ?_⟩
    rw [hx]
    obtain ⟨x1, x2⟩ := x
    rw [show x1 = 2 from h2]
  obtain ⟨j, ⟨j1, j2, g, j3⟩, j4⟩ := pk_least _ hex
  refine ⟨j, g, j1, j2, j3, fun k k1 k2 => ?_⟩
  obtain ⟨x, hx, -⟩ := sf_s (S := S) (i := k) (by omega)
  refine ⟨x, hx, fun q => j4 k k2 ⟨k1, by omega, x.2, ?_⟩⟩
  rw [hx]
  obtain ⟨x1, x2⟩ := x
  rw [show x1 = 2 from q]
theorem run_r (hT : ∀ j, j < 53 → bn (T j)) (ht : ∀ j, j < 16 → N.1 257 j = iI (T j)) (hnm : ∀ j, 16 ≤ j → j < 53 → N.2 258 j = iL (T j)) (hv : vok S) (hd : dpt S = 0) (hl : S.length ≤ 196) (hna : na S ≤ 12) (h28 : N.1 232 28 = nI (na S)) (hw : rws (N.1 253) (N.1 254) (N.1 255) (N.1 256) S) : cp_511_9 0 0 N ∧ ∃ f' g', cf_511_9 0 0 N = rm N f' g' ∧ ∀ j, j < 16 → f' j = iI ((exs S T).2 j) := by
  have e0 : rm N (N.1 257) (N.2 259) = N := by unfold rm; rw [sI_same, sL_same]
  have hnw : ∀ i, nw (sf S i) ≤ 196 ∧ na (sf S i) ≤ 12 := fun i => by
    have h1 := nanw (sf S i)
    have h2 : (sf S i).length ≤ S.length := by unfold sf; rw [List.length_drop]; omega
    refine ⟨by omega, ?_⟩
    by_cases w : i ≤ S.length
    · have := na_mono (S := S) w (Nat.le_refl _)
      rw [sf_l] at this
      omega
    · have e : sf S i = S := by unfold sf; rw [show S.length - i = 0 by omega]; rfl
      rw [e]; exact hna
  -- named things stay
  have hT16 : ∀ i j, 16 ≤ j → (exs (sf S i) T).2 j = T j := by
    have : ∀ S : List (Nat × Nat), vok S → ∀ j, 16 ≤ j → (exs S T).2 j = T j := by
      intro S
      induction S with
      | nil => intro _ j _; rfl
      | cons x S ih =>
        intro hv j hj
        have hi := ih hv.1 j hj
        show (ex1 x (exs S T)).2 j = T j
        by_cases w : x.1 = 2
        · have hx2 : x.2 < 16 := by
            rcases hv.2 with ⟨c, d⟩ | ⟨c, d⟩ | ⟨c, d, e⟩ | ⟨c, d⟩ | ⟨c, d⟩ | ⟨c, d⟩
            · omega
            · omega
            · exact d
            · omega
            · omega
            · unfold isop at c; omega
          have e : (ex1 x (exs S T)).2 = up (exs S T).2 x.2 (tlv x.2 ((exs S T).1.headD 0)) := by unfold ex1; rw [if_neg (by omega), if_neg (by omega), if_pos w]
          rw [e]
          unfold up
          rw [if_neg (by omega)]; exact hi
        · have e : (ex1 x (exs S T)).2 = (exs S T).2 := by
            unfold ex1
            rw [if_neg w]
            split
            · rfl
            · split
              · rfl
              · split
                · rfl
                · split <;> rfl
          rw [e]; exact hi
    intro i j hj
    exact this _ (vok_sf hv i) j hj
  refine mz_lpm (f := cq_511_9) (P := cd_511_9) (Q := fun r => ∃ f' g', r = rm N f' g' ∧ ∀ j, j < 16 → f' j = iI ((exs S T).2 j)) (fun k st => ∃ i f g, k = S.length - i ∧ i ≤ S.length ∧ dpt (sf S i) = 0 ∧ st = (nI (nw (sf S i)), nI (na (sf S i)), rm N f g) ∧ ∀ j, j < 16 → f j = iI ((exs (sf S i) T).2 j)) ?_ S.length (0, 0, N) ⟨0, N.1 257, N.2 259, by omega, Nat.zero_le _, by rw [sf_0]; rfl, by rw [sf_0, e0]; rfl, by rw [sf_0]; exact ht⟩
  rintro k st ⟨i, f, g, rfl, hi, hdi, rfl, hf⟩
  have a28 : ∀ f g, (rm N f g).1 232 28 = nI (na S) := fun f g => by rw [rm_1 (by decide)]; exact h28
  rw [cd_511_9, cq_511_9]
  show ((nI (na (sf S i)) < (rm N f g).1 232 28 → cp_511_23 (nI (na (sf S i))) 0 (nI (nw (sf S i))) (rm N f g)) ∧ _) ∧ ((∃ s2, (if nI (na (sf S i)) < (rm N f g).1 232 28 then cf_511_23 (nI (na (sf S i))) 0 (nI (nw (sf S i))) (rm N f g) else Sum.inr (rm N f g)) = _ ∧ _) ∨ ∃ t, (if nI (na (sf S i)) < (rm N f g).1 232 28 then cf_511_23 (nI (na (sf S i))) 0 (nI (nw (sf S i))) (rm N f g) else Sum.inr (rm N f g)) = _ ∧ _)
  rw [a28]
  by_cases w : i = S.length
  · subst w
    rw [sf_l] at *
    have l : ¬ nI (na S) < nI (na S) := fun q => by have := (nI_ltI (by omega) (by omega)).mp q; omega
    rw [if_neg l]
    exact ⟨⟨fun q => absurd q l, fun _ => trivial⟩, Or.inr ⟨_, rfl, f, g, rfl, hf⟩⟩
  · obtain ⟨j, gl, j1, j2, j3, j4⟩ := nxt hv hd (i := i) (by omega)
    have hna2 : na (sf S i) < na S := by
      have h1 := na_mono (S := S) (i := j + 1) (k := S.length) (by omega) (Nat.le_refl _)
      rw [sf_l, j3, (nw_a (x := (2, gl)) rfl).2] at h1
      have h2 := na_mono (S := S) (i := i) (k := j) j1 (by omega)
      omega
    have l : nI (na (sf S i)) < nI (na S) := (nI_ltI (by omega) (by omega)).mpr hna2
    rw [if_pos l]
    have hst : ∀ k, i ≤ k → k ≤ j → na (sf S k) = na (sf S i) ∧ nw (sf S k) = nw (sf S i) + (k - i) := by
      intro k hk
      induction k with
      | zero => intro _; rw [show i = 0 by omega]; exact ⟨rfl, rfl⟩
      | succ k ih =>
        intro hkj
        by_cases v : i = k + 1
        · rw [v, Nat.sub_self]; exact ⟨rfl, rfl⟩
        · obtain ⟨x, hx, hx2⟩ := j4 k (by omega) (by omega)
          obtain ⟨a, b⟩ := ih (by omega) (by omega)
          rw [hx, (nw_c hx2).1, (nw_c hx2).2]
          exact ⟨a, by omega⟩
    have hrj := rws_sf hw (j + 1)
    rw [j3] at hrj
    obtain ⟨q1, q2⟩ := hrj.1 rfl
    rw [(hst j j1 (Nat.le_refl _)).1] at q1 q2
    have b13 : mz_ib (nI (na (sf S i))) 13 := ib_n (by have := (hnw i).2; omega) (by omega)
    have aE : ∀ f g, mz_gI (rm N f g) 255 (nI (na (sf S i))) = nI (nw (sf S j)) := fun f g => by rw [gI_a, rm_1 (by decide), nI_clamp (by have := (hnw i).2; omega)]; exact q2
    have aG : ∀ f g, mz_gI (rm N f g) 256 (nI (na (sf S i))) = nI gl := fun f g => by rw [gI_a, rm_1 (by decide), nI_clamp (by have := (hnw i).2; omega)]; exact q1
    have hvj := vok_sf hv (j + 1)
    rw [j3] at hvj
    have hgl : gl < 16 ∧ dpt (sf S j) = 1 := by
      rcases hvj.2 with ⟨c, d⟩ | ⟨c, d⟩ | ⟨c, d, e⟩ | ⟨c, d⟩ | ⟨c, d⟩ | ⟨c, d⟩
      · exact absurd (show (2 : Nat) = 0 from c) (by decide)
      · exact absurd (show (2 : Nat) = 1 from c) (by decide)
      · exact ⟨d, e⟩
      · exact absurd (show (2 : Nat) = 3 from c) (by decide)
      · exact absurd (show (2 : Nat) = 63 from c) (by decide)
      · have c' : isop 2 := c
        unfold isop at c'; omega
    have inner : cp_511_23 (nI (na (sf S i))) 0 (nI (nw (sf S i))) (rm N f g) ∧ ∃ f2 g2, cf_511_23 (nI (na (sf S i))) 0 (nI (nw (sf S i))) (rm N f g) = .inl (nI (nw (sf S (j + 1))), nI (na (sf S (j + 1))), rm N f2 g2) ∧ ∀ m, m < 16 → f2 m = iI ((exs (sf S (j + 1)) T).2 m) := by
      refine mz_lpn (f := cq_511_23 (nI (na (sf S i)))) (P := cd_511_23 (nI (na (sf S i)))) (Q := fun r => ∃ f2 g2, r = .inl (nI (nw (sf S (j + 1))), nI (na (sf S (j + 1))), rm N f2 g2) ∧ ∀ m, m < 16 → f2 m = iI ((exs (sf S (j + 1)) T).2 m)) j (fun k st => i ≤ k ∧ ∃ g2, st = (nI (exs (sf S k) T).1.length, nI (nw (sf S k)), rm N f g2) ∧ stj g2 (exs (sf S k) T).1 ∧ (exs (sf S k) T).2 = (exs (sf S i) T).2) ?_ ?_ j1 ⟨Nat.le_refl _, g, ?_, ?_, rfl⟩
      · rintro k st hk ⟨hik, g2, rfl, s1, s2⟩
        obtain ⟨x, hx, hx2⟩ := j4 k hik hk
        have hvk := vok_sf hv (k + 1)
        rw [hx] at hvk
        obtain ⟨o1, o2, o3⟩ := exs_ok hT (vok_sf hv k)
        have hdk := dpt_le (sf S k)
        have hlk : (sf S k).length = k := by unfold sf; rw [List.length_drop]; omega
        obtain ⟨h1, h2⟩ := hst k hik (by omega)
        obtain ⟨h1', h2'⟩ := hst j j1 (Nat.le_refl _)
        have hrk := rws_sf hw (k + 1)
        rw [hx] at hrk
        obtain ⟨u1, u2⟩ := hrk.2.1 hx2
        have bw := (hnw k).1
        have bj := (hnw j).1
        have lk : nI (nw (sf S k)) < nI (nw (sf S j)) := (nI_ltI (by omega) (by omega)).mpr (by omega)
        have ik : mz_ib (nI (nw (sf S k))) 400 := ib_n (by omega) (by omega)
        have aW : ∀ f g, mz_gI (rm N f g) 253 (nI (nw (sf S k))) = nI (rz x.1) := fun f g => by rw [gI_a, rm_1 (by decide), nI_clamp (by omega)]; exact u1
        have aV : ∀ f g, mz_gI (rm N f g) 254 (nI (nw (sf S k))) = nI x.2 := fun f g => by rw [gI_a, rm_1 (by decide), nI_clamp (by omega)]; exact u2
        have hxo : xok x (exs (sf S k) T).1.length := by rw [o1]; exact hvk.2
        obtain ⟨z1, ⟨g3, z2, z3⟩, z4, z5⟩ := step_r (N := N) (f := f) (g := g2) (T := (exs (sf S k) T).2) hxo hx2 (by omega) s1 o2 o3 ⟨fun m hm => by rw [s2]; exact hf m hm, fun m hm hm2 => by rw [hT16 k m hm]; exact hnm m hm hm2⟩
        have ee : exs (sf S (k + 1)) T = ex1 x ((exs (sf S k) T).1, (exs (sf S k) T).2) := by rw [hx]; rfl
        rw [cd_511_23, cq_511_23]
        show (mz_ib (nI (na (sf S i))) 13 ∧ (nI (nw (sf S k)) < mz_gI (rm N f g2) 255 (nI (na (sf S i))) → _ ∧ _ ∧ cp_514_0 (mz_gI (rm N f g2) 253 (nI (nw (sf S k)))) (mz_gI (rm N f g2) 254 (nI (nw (sf S k)))) (nI (exs (sf S k) T).1.length) (rm N f g2) ∧ _) ∧ (¬ nI (nw (sf S k)) < mz_gI (rm N f g2) 255 (nI (na (sf S i))) → _)) ∧ ((∃ s2, (if nI (nw (sf S k)) < mz_gI (rm N f g2) 255 (nI (na (sf S i))) then Sum.inl (nI (exs (sf S k) T).1.length + cf_516_0 (mz_gI (cf_514_0 (mz_gI (rm N f g2) 253 (nI (nw (sf S k)))) (mz_gI (rm N f g2) 254 (nI (nw (sf S k)))) (nI (exs (sf S k) T).1.length) (rm N f g2)) 253 (nI (nw (sf S k)))), nI (nw (sf S k)) + 1, cf_514_0 (mz_gI (rm N f g2) 253 (nI (nw (sf S k)))) (mz_gI (rm N f g2) 254 (nI (nw (sf S k)))) (nI (exs (sf S k) T).1.length) (rm N f g2)) else _) = _ ∧ _) ∨ _)
        rw [aE, if_pos lk, aW, aV, z2, aW, z5, nI_1]
        refine ⟨⟨b13, fun _ => ⟨ik, ik, z1, ik⟩, fun q => absurd lk q⟩, Or.inl ⟨_, rfl, by omega, g3, ?_, ?_, ?_⟩⟩
        · rw [ee]
          show (_, nI (nw (sf S k) + 1), _) = (_, nI (nw (sf S (k + 1))), _)
          rw [hx, (nw_c hx2).1]
        · rw [ee]; exact z3
        · rw [ee, z4]; exact s2
      · rintro st ⟨-, g2, rfl, s1, s2⟩
        obtain ⟨o1, o2, o3⟩ := exs_ok hT (vok_sf hv j)
        rw [hgl.2] at o1
        obtain ⟨v0, hs0⟩ : ∃ v0, (exs (sf S j) T).1 = [v0] := by
          cases hs : (exs (sf S j) T).1 with
          | nil => rw [hs] at o1; exact absurd o1 (by decide)
          | cons v0 s =>
            rw [hs] at o1
            have : s.length + 1 = 1 := o1
            have : s = [] := List.length_eq_zero_iff.mp (by omega)
            subst this
            exact ⟨v0, rfl⟩
        have hb0 : bn v0 := o2 v0 (by rw [hs0]; exact List.mem_cons_self)
        have g0 : mz_gL (rm N f g2) 259 0 = iL v0 := by
          rw [hs0] at s1
          rw [gL_a, rm_p]; exact s1.1
        obtain ⟨t1, t2⟩ := tell_r (N := N) (f := f) (g := g2) hgl.1 hb0
        have lj : ¬ nI (nw (sf S j)) < nI (nw (sf S j)) := fun q => by have := (nI_ltI (by have := (hnw j).1; omega) (by have := (hnw j).1; omega)).mp q; omega
        rw [cd_511_23, cq_511_23]
        show (mz_ib (nI (na (sf S i))) 13 ∧ (nI (nw (sf S j)) < mz_gI (rm N f g2) 255 (nI (na (sf S i))) → _) ∧ (¬ nI (nw (sf S j)) < mz_gI (rm N f g2) 255 (nI (na (sf S i))) → _ ∧ cp_517_0 (mz_gI (rm N f g2) 256 (nI (na (sf S i)))) (mz_gL (rm N f g2) 259 0) (rm N f g2) ∧ _)) ∧ ∃ t, (if nI (nw (sf S j)) < mz_gI (rm N f g2) 255 (nI (na (sf S i))) then _ else Sum.inr (Sum.inl (mz_gI (cf_517_0 (mz_gI (rm N f g2) 256 (nI (na (sf S i)))) (mz_gL (rm N f g2) 259 0) (rm N f g2)) 255 (nI (na (sf S i))), nI (na (sf S i)) + 1, cf_517_0 (mz_gI (rm N f g2) 256 (nI (na (sf S i)))) (mz_gL (rm N f g2) 259 0) (rm N f g2)))) = Sum.inr t ∧ _
        rw [aE, if_neg lj, aG, g0, t2, aE, nI_1]
        refine ⟨⟨b13, fun q => absurd q lj, fun _ => ⟨b13, t1, b13⟩⟩, _, rfl, upd f gl (iI (tlv gl v0)), g2, ?_, fun m hm => ?_⟩
        · rw [j3, (nw_a (x := (2, gl)) rfl).1, (nw_a (x := (2, gl)) rfl).2, (hst j j1 (Nat.le_refl _)).1]
        · rw [j3]
          show upd f gl (iI (tlv gl v0)) m = iI ((ex1 (2, gl) (exs (sf S j) T)).2 m)
          have e2 : (ex1 (2, gl) (exs (sf S j) T)).2 = up (exs (sf S j) T).2 gl (tlv gl ((exs (sf S j) T).1.headD 0)) := rfl
          rw [e2, hs0, s2, up_a]
          unfold up
          by_cases v : m = gl
          · rw [if_pos v, if_pos v]; rfl
          · rw [if_neg v, if_neg v]; exact hf m hm
      · obtain ⟨o1, -, -⟩ := exs_ok hT (vok_sf hv i)
        rw [o1, hdi]; rfl
      · obtain ⟨o1, -, -⟩ := exs_ok hT (vok_sf hv i)
        rw [hdi] at o1
        rw [List.length_eq_zero_iff.mp o1]; trivial
    obtain ⟨z1, f2, g2, z2, z3⟩ := inner
    refine ⟨⟨fun _ => z1, fun q => absurd l q⟩, Or.inl ⟨_, z2, S.length - (j + 1), by omega, j + 1, f2, g2, rfl, by omega, ?_, rfl, z3⟩⟩
    rw [j3]
    show dpt (sf S j) - 1 = 0
    rw [hgl.2]
end Dop
