/-! PURE (50zzzzc): the steps of a minute, both sides together. -/
section Ph
variable {N N1 N2 : mz_N} {b : Bool} {e fl : Nat → Nat} {S : List (Nat × Nat)} {T : Nat → Int} {u : SuS} {c : CiS} {k : ClS} {q hr tm : Nat} {we : Int}
theorem nfs_k (h : clC N k) : nfs N := by
  obtain ⟨fi, h1, h2⟩ := h.fi
  refine ⟨by rw [h1]; exact z01_b01 _, fun z j hj => ?_⟩
  rw [h.sm j hj]
  refine (h2 ?_ j hj).2
  rw [h1] at z
  cases fi with
  | true => cases z
  | false => rfl
theorem tgJ_bn {j : Nat} {v : Int} (h : tgJ j v) : bn v := by
  unfold tgJ at h
  unfold bn
  split at h
  · omega
  · split at h <;> omega
theorem nmv_bn {wh ws wk : Nat → Int64} {t2 tk ld : Int} {mn : Bool} (hT : tgB T) (h1 : ∀ j, j < pl_n e → bn (wrm e wh j).toInt) (h2 : ∀ j, j < pl_n e → bn (stq e ws j).toInt) (h3 : bn we) (h4 : bn (hr : Int)) (h5 : bn t2) (h6 : bn tk) (h7 : bn ld) : ∀ j, j < 53 → bn (nmv e fl wh ws wk hr we t2 tk ld mn T j) := fun j hj => by
  have b0 : bn 0 := ⟨by omega, by omega⟩
  have b1' : bn 1 := ⟨by omega, by omega⟩
  unfold nmv
  split
  · rename_i w; exact tgJ_bn (hT j w)
  · split
    · split
      · rename_i w; exact h1 _ w
      · exact b0
    · split
      · split
        · rename_i w; exact h2 _ w
        · exact b0
      · split
        · split
          · exact b1'
          · exact b0
        · split
          · split
            · exact b1'
            · exact b0
          · split
            · exact h3
            · split
              · exact h4
              · split
                · exact h5
                · split
                  · exact h6
                  · split
                    · exact h7
                    · split
                      · exact b1'
                      · exact b0
theorem sLn_n {f : Nat → Int32} {L : Nat → Nat} : ∀ n, (∀ c, c < n → f c = nI (L c) ∧ L c < 2 ^ 31) → sL (fun c => (f c).toInt64) n = lN (sumN L n) := by
  intro n
  induction n with
  | zero => intro _; rfl
  | succ n ih =>
    intro h
    show sL (fun c => (f c).toInt64) n + (f n).toInt64 = lN (sumN L n + L n)
    rw [ih (fun c hc => h c (by omega)), (h n (by omega)).1, nI_L (h n (by omega)).2, lN_add]
theorem prog_ok (hB : plB e fl) (hpl : plW N1 N2 e fl) (hp : prR N1 b N2 S) (hS : prB S) (hT : tgR N1 N2 T) (hTB : tgB T) (hu : suC N1 u) (hu2 : suR N2 u) (huB : suB q u) (hc : ciR N1 N2 c) (hcB : ciB c) (hk : clC N1 k) (hk2 : clR N2 k) (hhr : hr < 24) (w1 : N1.1 66 hr = iI we) (w2 : N2.1 245 hr = iI we) (w3 : bn we) (t1 : N1.1 208 0 = nI tm) (t2 : N2.2 232 2 = lN tm) (t3 : tm < 2 ^ 31) (hbw : ∀ j, j < pl_n e → bn (wrm e k.h j).toInt) (hbs : ∀ j, j < pl_n e → bn (stq e k.sa j).toInt) :
    cp_208_0 (nI hr) N1 b ∧ cp_511_0 (nI hr) N2 ∧ ∃ T', tgB T' ∧ tgR (cf_208_0 (nI hr) N1 b) (cf_511_0 (nI hr) N2) T' ∧ fq [53, 54] [] N1 (cf_208_0 (nI hr) N1 b) ∧ fq [257] [258, 259, 340] N2 (cf_511_0 (nI hr) N2) := by
  have tk := huB.tk
  have sb := sumN_bd (f := c.1) (b := 2000) (n := 11) (fun i hi => (hcB i hi).1)
  have e1 := nmv_cg (e := e) (fl := fl) (hr := hr) (we := we) (tm := ((tm % 240 : Nat) : Int)) (tk := (u.tk : Int)) (ld := (sumN c.1 11 : Int)) (mn := u.mn) (T := T) hk.h hk.sa hk.sm
  have e2 := nmv_cg (e := e) (fl := fl) (hr := hr) (we := we) (tm := ((tm % 240 : Nat) : Int)) (tk := (u.tk : Int)) (ld := (sumN c.1 11 : Int)) (mn := u.mn) (T := T) hk2.h hk2.sa hk2.sm
  have nb := nmv_bn (e := e) (fl := fl) (hr := hr) (we := we) (t2 := ((tm % 240 : Nat) : Int)) (tk := (u.tk : Int)) (ld := (sumN c.1 11 : Int)) (mn := u.mn) (T := T) (wh := k.h) (ws := k.sa) (wk := k.sm) hTB hbw hbs w3 ⟨by omega, by omega⟩ ⟨by omega, by omega⟩ ⟨by omega, by omega⟩ ⟨by omega, by omega⟩
  have l1 : sI11 (N1.1 58) 11 = iI (sumN c.1 11 : Int) := by rw [sI11_n (L := c.1) 11 (fun j hj => (hc j hj).1.1), iI_n]
  have l2 : sL (fun c => (N2.1 272 c).toInt64) 11 = iL (sumN c.1 11 : Int) := by
    rw [sLn_n (L := c.1) 11 (fun j hj => ⟨(hc j hj).1.2, by have := (hcB j hj).1; omega⟩), iL_n]
  have rs : r_sm e fl N2 := ⟨hpl.2.1, hpl.2.2.1, fun j hj => (hpl.2.2.2.1 j hj).2, fun j hj => (hpl.2.2.2.2.2.2 j hj).1⟩
  obtain ⟨a1, f', g', a2, a3⟩ := fol_c (N := N1) (e := e) (fl := fl) (S := S) (T := T) (hr := hr) (tm := tm) (tk := u.tk) (we := we) (ld := (sumN c.1 11 : Int)) (mn := u.mn) (b := b) hB.n (sm_pl hpl.1) hpl.1.1 (nfs_k hk) (fun j hj => (hpl.1.2.2.2.2.2 j hj).1) hhr w1 t1 t3 hu.tk l1 hu.mn (fun j hj => (hT j hj).1) (by rw [e1]; exact nb) hS.v hS.d hS.l hS.n hp.c4 hp.c5 hp.cw
  obtain ⟨b1', f2, p2, g2, u2, b2, b3⟩ := dp_r (N := N2) (e := e) (fl := fl) (S := S) (T := T) (hr := hr) (tm := tm) (tk := u.tk) (we := we) (ld := (sumN c.1 11 : Int)) (mn := u.mn) hB.n rs hhr w2 w3 t2 t3 hu2.tk (by omega) l2 hu2.mn (fun j hj => (hT j hj).2) (by rw [e2]; exact nb) hS.v hS.d hS.l hS.n hp.r8 hp.rw
  rw [e1] at a3
  rw [e2] at b3
  refine ⟨a1, b1', (exs S (nmv e fl k.h k.sa k.sm hr we (tm % 240 : Nat) u.tk (sumN c.1 11 : Int) u.mn T)).2, exs_J (fun j hj => ?_) S, fun j hj => ⟨?_, ?_⟩, ?_, ?_⟩
  · rw [nmv_lo hj]; exact hTB j hj
  · rw [a2]; exact a3 j hj
  · rw [b2]; exact b3 j hj
  · rw [a2]; exact fq_sI (fq_sI (fq_refl _ _ _) rfl) rfl
  · rw [b2]; exact fq_sL (fq_sI (fq_sL (fq_sL (fq_refl _ _ _) rfl) rfl) rfl) rfl
end Ph
