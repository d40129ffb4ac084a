/-! PURE (50zzc): the class follows its program. -/
section Fol
variable {N : mz_N} {e fl : Nat → Nat} {S : List (Nat × Nat)} {T : Nat → Int} {hr tm tk : Nat} {we ld : Int} {mn b : Bool}
theorem nmv_lo {wh ws wk : Nat → Int64} {a c d g : Int} {j : Nat} (hj : j < 16) : nmv e fl wh ws wk hr a c d g mn T j = T j := by unfold nmv; rw [if_pos hj]
theorem vok_0 : ∀ {S : List (Nat × Nat)}, vok S → dpt S = 0 → na S = 0 → S = [] := by
  intro S
  cases S with
  | nil => intro _ _ _; rfl
  | cons x S =>
    intro hv hd hn
    have hdd : (if x.1 ≤ 1 then dpt S + 1 else if x.1 = 3 then dpt S else if x.1 = 63 then dpt S - 2 else dpt S - 1) = 0 := hd
    have hnn : (if x.1 = 2 then na S + 1 else na S) = 0 := hn
    rcases hv.2 with ⟨c, d⟩ | ⟨c, d⟩ | ⟨c, d, e⟩ | ⟨c, d⟩ | ⟨c, d⟩ | ⟨c, d⟩
    · rw [if_pos (by omega)] at hdd; omega
    · rw [if_pos (by omega)] at hdd; omega
    · rw [if_pos c] at hnn; omega
    · rw [if_neg (by omega), if_pos c] at hdd; omega
    · rw [if_neg (by omega), if_neg (by omega), if_pos c] at hdd; omega
    · unfold isop at c
      rw [if_neg (by omega), if_neg (by omega), if_neg (by omega)] at hdd; omega
theorem fol_c (hn : pl_n e ≤ 40) (hs : c_sm e N) (h7 : N.1 2 7 = nI (pl_n e)) (hf : nfs N) (h38 : ∀ j, j < 10 → N.1 38 j = nO (pl_n e) (pl_ht e fl j)) (hhr : hr < 24)
    (h66 : N.1 66 hr = iI we) (htm : N.1 208 0 = nI tm) (htm2 : tm < 2 ^ 31) (htk : N.1 56 7 = nI tk) (hld : sI11 (N.1 58) 11 = iI ld) (hmn : N.1 56 4 = mz_b01 mn)
    (hT : ∀ j, j < 16 → N.1 53 j = iI (T j)) (hbn : ∀ j, j < 53 → bn (nmv e fl (N.2 68) (N.2 69) (N.2 71) hr we (tm % 240 : Nat) tk ld mn T j))
    (hv : vok S) (hd : dpt S = 0) (hl : S.length ≤ 196) (hna : na S ≤ 12) (h4 : N.1 (mz_lv b) 4 = nI S.length) (h5 : N.1 (mz_lv b) 5 = nI (na S)) (hw : wds (N.1 (mz_lv b + 2)) (N.1 (mz_lv b + 3)) S) :
    cp_208_0 (nI hr) N b ∧ ∃ f' g', cf_208_0 (nI hr) N b = cm N f' g' ∧ ∀ j, j < 16 → f' j = iI ((exs S (nmv e fl (N.2 68) (N.2 69) (N.2 71) hr we (tm % 240 : Nat) tk ld mn T)).2 j) := by
  rw [cp_208_0, cf_208_0, h5]
  by_cases w : na S = 0
  · have e0 := vok_0 hv hd w
    subst e0
    rw [if_pos (show nI (na []) = 0 from rfl)]
    refine ⟨⟨fun _ => trivial, fun q => absurd (show nI (na []) = 0 from rfl) q⟩, N.1 53, N.1 54, by unfold cm; rw [sI_same, sI_same], fun j hj => ?_⟩
    show _ = iI (nmv e fl (N.2 68) (N.2 69) (N.2 71) hr we (tm % 240 : Nat) tk ld mn T j)
    rw [nmv_lo hj]; exact hT j hj
  · have l0 : ¬ nI (na S) = 0 := fun q => w ((nI_eq0 (by omega)).mp q)
    rw [if_neg l0]
    have key := nms_c (N := N) (e := e) (fl := fl) hn hs hf h38 (v1 := nI hr) (b := b) (Q := fun r => ∃ f' g', r = cm N f' g' ∧ ∀ j, j < 16 → f' j = iI ((exs S (nmv e fl (N.2 68) (N.2 69) (N.2 71) hr we (tm % 240 : Nat) tk ld mn T)).2 j)) ?_
    · exact ⟨⟨fun q => absurd q l0, fun _ => key.1⟩, key.2⟩
    · intro f f1 f2
      have w53 : ∀ g : Nat → Int32, ∀ a x : Int32, mz_wI (mz_sI N 53 g) 53 a x = mz_sI N 53 (upd g a.toNatClampNeg x) := fun g a x => by rw [wI_s, sI_e, sI_sI]
      have hsg : ∀ g : Nat → Int32, c_sm e (mz_sI N 53 g) := fun g => ⟨fun k hk => by rw [sI_n (by decide), sI_n (by decide)]; exact hs.1 k hk, fun c hc => by rw [sI_n (by decide)]; exact hs.2 c hc⟩
      have hfg : ∀ g : Nat → Int32, nfs (mz_sI N 53 g) := fun g => ⟨by rw [sI_n (by decide)]; exact hf.1, fun z => by rw [sI_n (by decide)] at z; exact hf.2 z⟩
      obtain ⟨a1, a2⟩ := adt_c (N := mz_sI N 53 f) hn (hsg f) (by rw [sI_n (by decide)]; exact h7) (hfg f)
      rw [sI_2] at a2
      have b24 : mz_ib (nI hr) 24 := ib_n hhr (by omega)
      have g66 : ∀ g : Nat → Int32, mz_gI (mz_sI N 53 g) 66 (nI hr) = iI we := fun g => by rw [gI_a, sI_n (by decide), nI_clamp (by omega)]; exact h66
      have g208 : ∀ g : Nat → Int32, (mz_sI N 53 g).1 208 0 = nI tm := fun g => by rw [sI_n (by decide)]; exact htm
      have g56 : ∀ g : Nat → Int32, (mz_sI N 53 g).1 56 7 = nI tk := fun g => by rw [sI_n (by decide)]; exact htk
      have gmn : ∀ g : Nat → Int32, mz_z01 ((mz_sI N 53 g).1 56 4) ∧ (mz_fZ (mz_sI N 53 g) 56 4 = true ↔ mn = true) := fun g => by
        unfold mz_fZ
        rw [sI_n (by decide), hmn]
        cases mn
        · exact ⟨Or.inl rfl, by simp [mz_b01]⟩
        · exact ⟨Or.inr rfl, by simp [mz_b01]⟩
      have gld : ∀ g : Nat → Int32, cp_212_0 (mz_sI N 53 g) ∧ cf_212_0 (mz_sI N 53 g) = iI ld := fun g => by
        obtain ⟨x1, x2⟩ := lds_c (N := mz_sI N 53 g)
        rw [sI_n (show (58 : Nat) ≠ 53 by decide), hld] at x2
        exact ⟨x1, x2⟩
      have erm : mz_irem (nI tm) 240 = nI (tm % 240) := irem_n (d := 240) htm2 (by omega) (by omega)
      -- the end: all names stand
      have fin : ∀ (z : Bool) (m2 : Int32), z = adt e (N.2 71) (pl_n e) → m2 = mz_b01 mn → cp_213_0 (mz_sI N 53 (upd (upd (upd (upd (upd (upd (upd f 46 (mz_b01 z)) 47 (iI we)) 48 (nI hr)) 49 (nI (tm % 240))) 50 (nI tk)) 51 (iI ld)) 52 m2)) b ∧ ∃ f' g', cf_213_0 (mz_sI N 53 (upd (upd (upd (upd (upd (upd (upd f 46 (mz_b01 z)) 47 (iI we)) 48 (nI hr)) 49 (nI (tm % 240))) 50 (nI tk)) 51 (iI ld)) 52 m2)) b = cm N f' g' ∧ ∀ j, j < 16 → f' j = iI ((exs S (nmv e fl (N.2 68) (N.2 69) (N.2 71) hr we (tm % 240 : Nat) tk ld mn T)).2 j) := fun z m2 hz hm2 => by
        have hne : mz_lv b ≠ 53 ∧ mz_lv b + 2 ≠ 53 ∧ mz_lv b + 3 ≠ 53 := by cases b <;> decide
        have hF : ∀ j, j < 53 → (mz_sI N 53 (upd (upd (upd (upd (upd (upd (upd f 46 (mz_b01 z)) 47 (iI we)) 48 (nI hr)) 49 (nI (tm % 240))) 50 (nI tk)) 51 (iI ld)) 52 m2)).1 53 j = iI (nmv e fl (N.2 68) (N.2 69) (N.2 71) hr we (tm % 240 : Nat) tk ld mn T j) := fun j hj => by
          rw [sI_e]
          by_cases j16 : j < 16
          · rw [nmv_lo j16, up_a, if_neg (by omega), up_a, if_neg (by omega), up_a, if_neg (by omega), up_a, if_neg (by omega), up_a, if_neg (by omega), up_a, if_neg (by omega), up_a, if_neg (by omega), f1 j j16]
            exact hT j j16
          · unfold nmv
            rw [if_neg j16]
            by_cases j26 : j < 26
            · rw [if_pos j26, up_a, if_neg (by omega), up_a, if_neg (by omega), up_a, if_neg (by omega), up_a, if_neg (by omega), up_a, if_neg (by omega), up_a, if_neg (by omega), up_a, if_neg (by omega)]
              have := (f2 (j - 16) (by omega)).1
              rw [show 16 + (j - 16) = j by omega] at this
              exact this
            · rw [if_neg j26]
              by_cases j36 : j < 36
              · rw [if_pos j36, up_a, if_neg (by omega), up_a, if_neg (by omega), up_a, if_neg (by omega), up_a, if_neg (by omega), up_a, if_neg (by omega), up_a, if_neg (by omega), up_a, if_neg (by omega)]
                have := (f2 (j - 26) (by omega)).2.1
                rw [show 26 + (j - 26) = j by omega] at this
                exact this
              · rw [if_neg j36]
                by_cases j46 : j < 46
                · rw [if_pos j46, up_a, if_neg (by omega), up_a, if_neg (by omega), up_a, if_neg (by omega), up_a, if_neg (by omega), up_a, if_neg (by omega), up_a, if_neg (by omega), up_a, if_neg (by omega)]
                  have := (f2 (j - 36) (by omega)).2.2
                  rw [show 36 + (j - 36) = j by omega] at this
                  exact this
                · rw [if_neg j46]
                  have hc : j = 46 ∨ j = 47 ∨ j = 48 ∨ j = 49 ∨ j = 50 ∨ j = 51 ∨ j = 52 := by omega
                  rcases hc with rfl | rfl | rfl | rfl | rfl | rfl | rfl
                  · rw [if_pos rfl]
                    show mz_b01 z = _
                    rw [hz]; cases adt e (N.2 71) (pl_n e) <;> rfl
                  · rfl
                  · exact iI_n hr
                  · exact iI_n (tm % 240)
                  · exact iI_n tk
                  · rfl
                  · show m2 = iI (if mn = true then 1 else 0)
                    rw [hm2]; cases mn <;> rfl
        obtain ⟨r1, f', g', r2, r3⟩ := run_c (N := mz_sI N 53 (upd (upd (upd (upd (upd (upd (upd f 46 (mz_b01 z)) 47 (iI we)) 48 (nI hr)) 49 (nI (tm % 240))) 50 (nI tk)) 51 (iI ld)) 52 m2)) (b := b) (S := S) (T := nmv e fl (N.2 68) (N.2 69) (N.2 71) hr we (tm % 240 : Nat) tk ld mn T) hbn hF hv hl (by rw [sI_n hne.1]; exact h4) (by rw [sI_n hne.2.1, sI_n hne.2.2]; exact hw)
        refine ⟨r1, f', g', ?_, fun j hj => r3 j (by omega)⟩
        rw [r2]
        unfold cm
        rw [sI_sI]
      have tl : ∀ z : Bool, z = adt e (N.2 71) (pl_n e) → cp_208_171 46 z (nI hr) (mz_sI N 53 f) b ∧ ∃ f' g', cf_208_171 46 z (nI hr) (mz_sI N 53 f) b = cm N f' g' ∧ ∀ j, j < 16 → f' j = iI ((exs S (nmv e fl (N.2 68) (N.2 69) (N.2 71) hr we (tm % 240 : Nat) tk ld mn T)).2 j) := fun z hz => by
        rw [cp_208_171, cf_208_171, w53, g66, w53, w53, cp_208_196, cf_208_196, g208, erm, w53, g56, w53, cp_208_228, cf_208_228]
        simp only [(gld _).2, w53]
        rw [show Int32.toNatClampNeg 46 = 46 from rfl, show Int32.toNatClampNeg 47 = 47 from rfl, show Int32.toNatClampNeg 48 = 48 from rfl, show Int32.toNatClampNeg 49 = 49 from rfl, show Int32.toNatClampNeg 50 = 50 from rfl, show Int32.toNatClampNeg 51 = 51 from rfl]
        have i46 : mz_ib 46 53 := ib_n (k := 46) (by omega) (by omega)
        have i52 : mz_ib 52 53 := ib_n (k := 52) (by omega) (by omega)
        obtain ⟨q1, q2⟩ := gmn (upd (upd (upd (upd (upd (upd f 46 (mz_b01 z)) 47 (iI we)) 48 (nI hr)) 49 (nI (tm % 240))) 50 (nI tk)) 51 (iI ld))
        obtain ⟨k1, k2⟩ := fin z (mz_b01 mn) hz rfl
        have hb : ∀ y : Bool, mz_b01 y = mz_b01 mn → cp_208_263 52 y (mz_sI N 53 (upd (upd (upd (upd (upd (upd f 46 (mz_b01 z)) 47 (iI we)) 48 (nI hr)) 49 (nI (tm % 240))) 50 (nI tk)) 51 (iI ld))) b ∧ ∃ f' g', cf_208_263 52 y (mz_sI N 53 (upd (upd (upd (upd (upd (upd f 46 (mz_b01 z)) 47 (iI we)) 48 (nI hr)) 49 (nI (tm % 240))) 50 (nI tk)) 51 (iI ld))) b = cm N f' g' ∧ ∀ j, j < 16 → f' j = iI ((exs S (nmv e fl (N.2 68) (N.2 69) (N.2 71) hr we (tm % 240 : Nat) tk ld mn T)).2 j) := fun y hy => by
          rw [cp_208_263, cf_208_263, w53, hy, show Int32.toNatClampNeg 52 = 52 from rfl]
          exact ⟨⟨i52, k1⟩, k2⟩
        by_cases v : mn = true
        · obtain ⟨h1, h2⟩ := hb true (by rw [v])
          rw [if_pos (q2.mpr v)]
          exact ⟨⟨i46, b24, (gld _).1, q1, fun _ => h1, fun q => absurd (q2.mpr v) q⟩, h2⟩
        · obtain ⟨h1, h2⟩ := hb false (by rw [Bool.eq_false_iff.mpr v])
          rw [if_neg (fun q => v (q2.mp q))]
          exact ⟨⟨i46, b24, (gld _).1, q1, fun q => absurd (q2.mp q) v, fun _ => h1⟩, h2⟩
      rw [cd_208_16, cq_208_16]
      show ((10 < 10 → _) ∧ (¬ (10 : Int32) < 10 → cp_211_0 (mz_sI N 53 f) ∧ (cf_211_0 (mz_sI N 53 f) = true → cp_208_171 46 true (nI hr) (mz_sI N 53 f) b) ∧ (¬ cf_211_0 (mz_sI N 53 f) = true → cp_208_171 46 false (nI hr) (mz_sI N 53 f) b))) ∧ ∃ r, (if (10 : Int32) < 10 then _ else (if cf_211_0 (mz_sI N 53 f) = true then Sum.inr (cf_208_171 46 true (nI hr) (mz_sI N 53 f) b) else Sum.inr (cf_208_171 46 false (nI hr) (mz_sI N 53 f) b))) = _ ∧ _
      have l10 : ¬ (10 : Int32) < 10 := by decide
      rw [a2, if_neg l10]
      by_cases v : adt e (N.2 71) (pl_n e) = true
      · obtain ⟨h1, h2⟩ := tl true v.symm
        rw [if_pos v]
        exact ⟨⟨fun q => absurd q l10, fun _ => ⟨a1, fun _ => h1, fun q => absurd v q⟩⟩, _, rfl, h2⟩
      · obtain ⟨h1, h2⟩ := tl false (Bool.eq_false_iff.mpr v).symm
        rw [if_neg v]
        exact ⟨⟨fun q => absurd q l10, fun _ => ⟨a1, fun q => absurd q v, fun _ => h1⟩⟩, _, rfl, h2⟩
end Fol
