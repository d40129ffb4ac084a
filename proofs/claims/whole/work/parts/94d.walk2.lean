/-! THE SMALL MACHINE (13): every walk is sound. -/
section Mz16
variable {PG : Nat → Option mz_D} {FK : Nat → List Nat} {cl : List vw_C} {Ts : List Jvm.Cond} {ST : mz_st} {D : va_G} {ad : Nat → Nat} {cA : Nat → ClassId} {b : Nat} {cid : Nat → ClassId} {X : Nat → Option (Nat × (Nat → Int32))} {adV : Nat → Nat}
variable {p : Program} {l : Launch} {e : Env} {R : Room} {s : State} {m : MethodId} {args : Array Value} {below : List Frame} {meth : Method} {c : Code}
theorem mz_sl_app (S : mz_S) (q : Nat × Nat × List Nat) : mz_sl (S ++ [q]) = mz_sl S + (if q.1 = 9 then q.2.2.length else q.2.1) := by simp [mz_sl]
theorem mz_low {S : mz_S} {M : mz_M} {H : Heap} (hP : va_P D cl (mz_ws ad cA S M) H) (hb : b ≤ H.size) (had : ∀ a, a < 1000 → ad a = b + a) (hS : S.length ≤ 900) : b + S.length ≤ H.size := by
  cases hn : S.length with
  | zero => exact hb
  | succ k =>
    have h1 := (hP k _ (mz_ws_at (List.getElem?_eq_getElem (by omega)))).lt
    have h2 : ad k < H.size := h1
    rw [had k (by omega)] at h2
    omega
theorem mz_swf_app {S : mz_S} {q : Nat × Nat × List Nat} (h : mz_swf FK S) (hq : q.1 = 9 → q.2.2 = FK q.2.1) : mz_swf FK (S ++ [q]) := by
  intro a ci fk ha
  by_cases hl : a < S.length
  · rw [List.getElem?_append_left hl] at ha
    exact h a ci fk ha
  · rw [List.getElem?_append_right (by omega)] at ha
    have hz : a - S.length < 1 := (List.getElem?_eq_some_iff.mp ha).1
    rw [show a - S.length = 0 by omega] at ha
    have h2 : q = (9, ci, fk) := Option.some.inj ha
    rw [h2] at hq
    exact hq rfl
theorem mz_sl_many (S : mz_S) {t : Nat} (ht : t = 4 ∨ t = 5) (n k : Nat) : mz_sl (S ++ (t, n, []) :: List.replicate n (t - 4, k, [])) = mz_sl S + (n + n * k) := by
  have h9 : t ≠ 9 := by omega
  have h8 : t - 4 ≠ 9 := by omega
  unfold mz_sl
  rw [List.map_append, List.sum_append, List.map_cons, List.sum_cons, List.map_replicate]
  simp only [if_neg h9, if_neg h8, List.sum_replicate_nat]
theorem mz_swf_many {S : mz_S} {t n k : Nat} (h : mz_swf FK S) (ht : t = 4 ∨ t = 5) : mz_swf FK (S ++ (t, n, []) :: List.replicate n (t - 4, k, [])) := by
  intro a ci fk ha
  by_cases hl : a < S.length
  · rw [List.getElem?_append_left hl] at ha
    exact h a ci fk ha
  · rw [List.getElem?_append_right (by omega)] at ha
    cases hz : a - S.length with
    | zero =>
      rw [hz] at ha
      have h2 : (t, n, ([] : List Nat)) = (9, ci, fk) := Option.some.inj ha
      cases h2
      omega
    | succ j =>
      rw [hz, List.getElem?_cons_succ, List.getElem?_replicate] at ha
      split at ha
      · have h2 : (t - 4, k, ([] : List Nat)) = (9, ci, fk) := Option.some.inj ha
        have h3 : t - 4 = 9 := congrArg Prod.fst h2
        omega
      · cases ha
theorem mz_str_ok {a : Nat} {l : List Nat} (h : mz_str a = some l) : ∃ i, i < 3 ∧ a = 2000 + i ∧ l = js_nat.getD i [] := by
  unfold mz_str at h
  split at h
  · rename_i e; exact ⟨0, by decide, e, (Option.some.inj h).symm⟩
  · split at h
    · rename_i e; exact ⟨1, by decide, e, (Option.some.inj h).symm⟩
    · split at h
      · rename_i e; exact ⟨2, by decide, e, (Option.some.inj h).symm⟩
      · cases h
theorem mz_ak9 {t : ArrayType} {k : Nat} (h : mz_ak t = some k) : k ≠ 9 := by
  cases t <;> simp [mz_ak] at h <;> omega
/-- the facts of a method by its record -/
theorem mz_Mf_of {N : mz_D} (h : if N.2.2.2.2.2.1 = [] then Jvm.Cond.code N.2.1 N.2.2.1 N.2.2.2.1 N.2.2.2.2.1 ∈ Ts else Jvm.Cond.codeWith N.2.1 N.2.2.1 N.2.2.2.1 N.2.2.2.2.1 N.2.2.2.2.2.1 ∈ Ts) (hts : ∀ w ∈ Ts, w.before args s = true) : ∃ mk methk ck, mz_Mf s N.2.1 N.2.2.1 N.2.2.2.1 N.2.2.2.2.1 N.2.2.2.2.2.1 mk methk ck := by
  split at h
  · rename_i h0
    rw [h0]
    exact mz_Mf_code (hts _ h)
  · exact mz_Mf_with (hts _ h)
set_option maxHeartbeats 8000000 in
theorem mz_walk {M : mz_D} {K0 : mz_K} {fr lo : Nat} {E : Nat → List Value → mz_K → mz_Q → Prop} (C : mz_At PG FK cl Ts ST D ad cA b cid X adV p e R s m args meth c M K0 fr lo) (hE : mz_Snd PG FK cl Ts ST D ad cA b cid X adV l E fr lo) (hPG : ∀ j N, PG j = some N → N.2.2.2.1 ≤ 60) {Q : mz_Q} :
    ∀ (n pc : Nat) (r : List mz_i) (lv : List (Nat × Value)) (st : List Value) (clf : Bool) (K : mz_K), mz_W E X FK M.2.2.2.2.1 M.2.2.2.2.2.2.2 M.2.2.2.2.2.2.1 M.2.2.2.1 Q n pc r lv st clf K → mz_cok (mz_iok PG FK cl Ts ST M) pc r → ∀ (H : Heap) (locs : List Loc) (cells slots : Nat) (ls : Array Slot), lv_has ls M.2.2.2.1 (mz_gl ad lv) → mz_In FK cl D ad cA b s K0 K H locs cells slots clf →
    W p l e R s m args below meth c H locs cells slots (mz_End below s (fun q => b ≤ q) (mz_Po FK cl D ad cA b cid s.heap K0 Q)) (F0 m pc ls (mz_gs ad st)) := by
  obtain ⟨hx, htr, F, hcx, hcok, hhok, had, hgood, hnL, c1, c2, c3, c4, c5, c6, c7, c8⟩ := id C
  obtain ⟨F1, F2, F3, F4, F5, F6, F7, F8, F9⟩ := id F
  have hown : s.vm.findClass M.2.1.cls = some m.cls := findClass_of_methodNamed F1
  have hname : meth.name = M.2.1.name := (name_of_methodNamed F1 F2).1
  obtain ⟨x1, x2, x3, x4, x5, x6, x7, x8, x9, x10, x11, x12, x13, x14⟩ := id hcx
  have hts : ∀ w ∈ Ts, w.before args s = true := fun w hw => x1 w hw args
  intro n
  induction n with
  | zero => intro pc r lv st clf K h; exact absurd h (by unfold mz_W; exact fun q => q)
  | succ n ih =>
    intro pc r lv st clf K h hr H locs cells slots ls hl I
    cases r with
    | nil => exact absurd h (by unfold mz_W; exact fun q => q)
    | cons q r =>
      obtain ⟨⟨hd, hq⟩, hr'⟩ := hr
      obtain ⟨hP, i2, i3, i4, i5, i6, i7, i8⟩ := id I
      have hvK := mz_vle i5 i6
      unfold mz_W at h
      split at h
      · rename_i ht
        rw [ht] at hq
        simp only at hq
        split at h
        · rename_i a ha
          refine mz_pu_ok hx F4 (by rw [← hq]; exact hd) hl ha (fun ls' hl' => ?_)
          rw [← hq]
          exact ih _ _ _ _ _ _ h hr' _ _ _ _ _ hl' I
        · exact absurd h (fun q => q)
      · rename_i ht
        rw [ht] at hq
        simp only at hq
        obtain ⟨hlen, hq⟩ := hq
        split at h
        · rename_i a ha
          have hfl : ∃ t fin, ∀ idx, q.2.1 = .getfield idx → mz_fl cl Ts M.2.1.cls idx q.2.2.2.1 q.2.2.2.2.1 t fin := by
            by_cases hg : ∃ idx, q.2.1 = .getfield idx
            · obtain ⟨idx, hg⟩ := hg
              obtain ⟨t, fin, h9⟩ := hq idx hg
              exact ⟨t, fin, fun idx' h' => by rw [hg] at h'; cases h'; exact h9⟩
            · exact ⟨0, false, fun idx h' => absurd ⟨idx, h'⟩ hg⟩
          obtain ⟨t, fin, hfl⟩ := hfl
          refine mz_rd_ok hx F4 hts hown x2 hP x3 hfl (by rw [← hlen]; exact hd) ha ?_
          rw [← hlen]
          exact ih _ _ _ _ _ _ h hr' _ _ _ _ _ hl I
        · exact absurd h (fun q => q)
      · rename_i ht
        rw [ht] at hq
        simp only at hq
        split at h
        · rename_i a ha
          refine mz_br_ok hx F4 hd hq ha ?_
          have hc2 := mz_cok_sf _ 0 a.1 hcok
          rw [Nat.zero_add] at hc2
          exact ih _ _ _ _ _ _ h hc2 _ _ _ _ _ hl I
        · exact absurd h (fun q => q)
      · rename_i ht
        rw [ht] at hq
        simp only at hq
        have h9 := ih _ _ _ _ _ _ h hr' _ _ _ _ _ hl I
        rcases hq with ⟨idx, v, h1, h2, h3, h4⟩ | ⟨idx, v, h1, h2, h3, h4⟩ | ⟨idx, v, h1, h2, h3, h4⟩
        · rw [h1, h2] at hd
          rw [h2, h3] at h9
          exact lv_ldc hx F4 hown (hts _ h4) hd h9
        · rw [h1, h2] at hd
          rw [h2, h3] at h9
          exact lv_ldcw hx F4 hown (hts _ h4) hd h9
        · rw [h1, h2] at hd
          rw [h2, h3] at h9
          exact lv_ldc2 hx F4 hown (hts _ h4) hd h9
      · rename_i ht
        rw [ht] at hq
        simp only at hq
        obtain ⟨hyl, hwt, hEj⟩ := h
        obtain ⟨idx, N, h1, h2, hN, ⟨hy, hpl, ⟨sig, hsig, hn⟩, hcode, hst, -, -⟩, hhk⟩ := hq
        obtain ⟨w1, w2, w3⟩ := hst rfl
        obtain ⟨mk, methk, ck, FN⟩ := mz_Mf_of hcode hts
        rw [h1, h2] at hd
        rw [h2] at hEj hr'
        refine mz_szb (fun hsz => ?_)
        rw [mz_gs_split st q.2.2.2.2.1]
        refine mz_callS (mk := mk) (methk := methk) (ck := ck) hx F4 hown (hts _ w1) (hts _ w2) (hts _ w3) hy FN hpl (hl.1.trans F5.symm) (fun sig' h' => ?_) hd ⟨c1, ?_, by show cells + (2000 - mz_u K) ≤ R.cells; omega, by show slots + (7100000 - mz_v K) ≤ R.slots; omega⟩ (mz_cal C hE I hsz hN hl hhk hEj (fun pc r lv st K hw hok H locs cells slots ls hl I => ih pc r lv st false K hw hok H locs cells slots ls hl I) hr')
        · cases hsig.symm.trans h'
          simp only [mz_gs, List.length_map, List.length_reverse, List.length_take]
          rw [if_pos rfl] at hn
          omega
        · rw [mz_wt_gs]
          have := hPG _ _ hN
          show mz_wt (st.drop q.2.2.2.2.1) + (N.2.2.2.1 + 11) + lo ≤ R.locals
          omega
      · rename_i ht
        rw [ht] at hq
        simp only at hq
        obtain ⟨hwt, h⟩ := h
        obtain ⟨idx, h1, h2, h3⟩ := hq
        split at h
        · rename_i a ha
          rw [h1, h2] at hd
          rw [h2] at h hr'
          refine mz_bi_ok hx F4 (F5.trans hl.1.symm) hts hown x2 hP h3 (by omega) (by omega) (by omega) (by show mz_wt st + 100 ≤ R.locals; omega) hd ha (fun H' locs' hP' => ?_)
          exact ih _ _ _ _ _ _ h hr' _ _ _ _ _ hl ⟨hP', i2, i3, i4, i5, i6, i7, fun h => by cases h⟩
        · exact absurd h (fun q => q)
      · rename_i ht
        rw [ht] at hq
        simp only at hq
        rw [hq] at hd
        split at h
        · rename_i v he
          rw [he] at hd
          obtain ⟨h1, h2⟩ := h
          have hp : mz_Po FK cl D ad cA b cid s.heap K0 Q (.inl (some (.int v))) H cells slots := ⟨⟨hP.2.2.1, hP.2.2.2.1⟩, .inl (some (.int v)), K, h2, rfl, hP.1, i2, i3, i4, i5, i6, i7⟩
          rcases h1 with h1 | ⟨h1, h3⟩
          · exact mz_iret hx F4 (F6.trans h1) rfl F7 (fun z hz => hP.2.2.2.2 z hz) hp hd
          · exact mz_iret hx F4 (F6.trans h1) (mz_ty3 h3 .boolean (Or.inr (Or.inr (Or.inr ⟨rfl, rfl⟩)))).1 F7 (fun z hz => hP.2.2.2.2 z hz) hp hd
        · rename_i v he
          rw [he] at hd
          obtain ⟨h1, h2⟩ := h
          exact mz_lret hx F4 (F6.trans h1) F7 (fun z hz => hP.2.2.2.2 z hz) ⟨⟨hP.2.2.1, hP.2.2.2.1⟩, .inl (some (.long v)), K, h2, rfl, hP.1, i2, i3, i4, i5, i6, i7⟩ hd
        · rename_i he
          rw [he] at hd
          obtain ⟨h1, h2⟩ := h
          exact mz_vret hx F4 (F6.trans h1) F7 (fun z hz => hP.2.2.2.2 z hz) ⟨⟨hP.2.2.1, hP.2.2.2.1⟩, .inl none, K, h2, trivial, hP.1, i2, i3, i4, i5, i6, i7⟩ hd
        · exact absurd h (fun q => q)
      · rename_i ht
        rw [ht] at hq
        simp only at hq
        obtain ⟨h1, h2, h3, h4⟩ := h
        obtain ⟨y1, y2, inew, istr, ic, names, y3, y4, y5, y6, y7, y8, y9, y10, y11, y12, y13, y14, y15, y16, y17⟩ := hq
        obtain ⟨rfl, rfl, rfl, rfl, rfl⟩ := i8 h1
        rw [y3, y4] at hd
        rw [h3]
        obtain ⟨tx, qs, hstr⟩ := x6 istr y5
        rw [y2] at hown
        rw [y10] at F8
        have h0 : c.exceptionTable.toList = [] := List.map_eq_nil_iff.mp F8
        obtain ⟨z1, z2, z3⟩ := x5 _ y1
        refine mz_throw (rest := []) hx F4 htr hown (hts _ y11) (hts _ y12) (hts _ y13) y14 y15 (fun a ha => ?_) hstr hd y6 y7 y8 y9 (fun h hh => by rw [h0] at hh; exact absurd hh List.not_mem_nil) F7 (hl.1.trans F5.symm) (by unfold mz_u at c5 i5; omega) (by unfold mz_v at c6; omega) (by omega) (by simp; omega) (fun H' cell g1 g2 g3 g4 g5 => ?_)
        · rcases y17 a ha with h | h | h | h | h
          · exact hts _ h
          · rw [h]; exact mz_isRef x7 args
          · rw [h]; exact mz_isRef x8 args
          · rw [h]; exact x13.use args
          · rw [h]; exact x14.use args
        · refine ⟨⟨by omega, fun z hz _ => g2 z hz⟩, .inr q.2.2.2.1, _, h4, ⟨y1, cell, g3, g4, Option.some.inj (g5.symm.trans z1)⟩, hP.1.kept (fun k x hx => g2 _ ((hP.1 k x hx).lt)), i2, ?_, ?_, ?_, i6, i7⟩
          · unfold mz_u; simp only; omega
          · unfold mz_v; simp only; omega
          · unfold mz_u; simp only; omega
      · rename_i ht
        rw [ht] at hq
        simp only at hq
        obtain ⟨hlen, hq⟩ := hq
        split at h
        · rename_i a ha
          have hfl : ∃ t fin, (∀ idx, q.2.1 = .putfield idx → mz_fl cl Ts M.2.1.cls idx q.2.2.2.1 q.2.2.2.2.1 t fin) ∧ ((∃ idx, q.2.1 = .putfield idx) → fin = false ∨ (meth.name = "<init>" ∧ ∃ T N, cl[q.2.2.2.1]? = some (M.2.1.cls, T, N))) ∧ ((∃ idx, q.2.1 = .putfield idx) → (FK q.2.2.2.1)[q.2.2.2.2.1]? = some t) := by
            by_cases hg : ∃ idx, q.2.1 = .putfield idx
            · obtain ⟨idx, hg⟩ := hg
              obtain ⟨t, fin, h9, h10, h11⟩ := hq idx hg
              exact ⟨t, fin, fun idx' h' => by rw [hg] at h'; cases h'; exact h9, fun _ => by rw [hname]; exact h10, fun _ => h11⟩
            · exact ⟨0, false, fun idx h' => absurd ⟨idx, h'⟩ hg, fun h' => absurd h' hg, fun h' => absurd h' hg⟩
          obtain ⟨t, fin, hfl, hfin, hfk⟩ := hfl
          refine mz_wr_ok hx F4 hts hown x2 hP hfl hfin (fun hh a fk hs => by rw [i2 _ _ _ hs]; exact hfk hh) (by rw [← hlen]; exact hd) ha (fun H' locs' hP' => ?_)
          rw [← hlen]
          exact ih _ _ _ _ _ _ h hr' _ _ _ _ _ hl ⟨hP', i2, i3, i4, i5, i6, i7, fun h => by cases h⟩
        · exact absurd h (fun q => q)
      · rename_i ht
        rw [ht] at hq
        simp only at hq
        obtain ⟨idx, C0, nm, h1, h2, h3, h4⟩ := hq
        rw [h1, h2] at hd
        rw [h2] at h hr'
        exact va_gets hx F4 (x4 _ h4) hP.2.2 hown (hts _ h3) (fun _ h9 => h9) hd (ih _ _ _ _ _ _ h hr' _ _ _ _ _ hl I)
      · rename_i ht
        rw [ht] at hq
        simp only at hq
        obtain ⟨t, h1, h2, h3, h4⟩ := hq
        rw [h1, h2] at hd
        split at h
        · rename_i n0 st0
          obtain ⟨g1, g2, g3, g4, g5, h⟩ := h
          rw [h2] at h hr'
          have e1 : mz_u K = K.1.length := by unfold mz_u; omega
          have e2 : mz_v K = mz_sl K.1 := by unfold mz_v; omega
          refine mz_szb (fun hsz => ?_)
          have hlow : ad K.1.length ≤ H.size := by rw [had K.1.length (by omega)]; exact mz_low hP.1 (Nat.le_trans x9 hP.2.2.1) had i7
          have hsz2 : H.size = ad K.1.length := by
            have := had K.1.length (by omega)
            omega
          refine mz_newa hx F4 h3 (hts _ h4) x2 hP hsz2 (fun z hz => by show b ≤ z; omega) g1 (by omega) (by omega) (by omega) hd (fun H' hP' hz' => ?_)
          refine ih _ _ _ _ _ _ h hr' _ _ _ _ _ hl ⟨hP', ?_, ?_, ?_, ?_, ?_, ?_, fun h => by cases h⟩
          · exact mz_swf_app i2 (fun h9 => absurd h9 (mz_ak9 h3))
          · unfold mz_u at i3 ⊢; simp; omega
          · unfold mz_v at i4 ⊢; rw [mz_sl_app, if_neg (mz_ak9 h3)]; simp only; omega
          · unfold mz_u; simp; omega
          · rw [mz_sl_app, if_neg (mz_ak9 h3)]; exact g5
          · simp; omega
        · exact absurd h (fun q => q)
      · rename_i ht
        rw [ht] at hq
        simp only at hq
        obtain ⟨idx, h1, h2, h3⟩ := hq
        rw [h1, h2] at hd
        obtain ⟨g3, g4, g5, h⟩ := h
        rw [h2] at h hr'
        have e1 : mz_u K = K.1.length := by unfold mz_u; omega
        have e2 : mz_v K = mz_sl K.1 := by unfold mz_v; omega
        refine mz_szb (fun hsz => ?_)
        have hlow : ad K.1.length ≤ H.size := by rw [had K.1.length (by omega)]; exact mz_low hP.1 (Nat.le_trans x9 hP.2.2.1) had i7
        have hsz2 : H.size = ad K.1.length := by
          have := had K.1.length (by omega)
          omega
        refine mz_newo hx F4 hts hown h3 x2 hP hsz2 (fun z hz => by show b ≤ z; omega) (by omega) (by omega) hd (fun H' hP' hz' => ?_)
        refine ih _ _ _ _ _ _ h hr' _ _ _ _ _ hl ⟨hP', ?_, ?_, ?_, ?_, ?_, ?_, fun h => by cases h⟩
        · exact mz_swf_app i2 (fun _ => rfl)
        · unfold mz_u at i3 ⊢; simp; omega
        · unfold mz_v at i4 ⊢; rw [mz_sl_app, if_pos rfl]; simp only; omega
        · unfold mz_u; simp; omega
        · rw [mz_sl_app, if_pos rfl]; exact g5
        · simp; omega
      · rename_i ht
        rw [ht] at hq
        simp only at hq
        obtain ⟨idx, h1, h2, h3, h4⟩ := hq
        rw [h1, h2] at hd
        split at h
        · rename_i n1 n0 st0
          obtain ⟨g1, g2, g3, g4, g5, g6, g7, h⟩ := h
          rw [h2] at h hr'
          have e1 : mz_u K = K.1.length := by unfold mz_u; omega
          have e2 : mz_v K = mz_sl K.1 := by unfold mz_v; omega
          refine mz_szb (fun hsz => ?_)
          have hlow : ad K.1.length ≤ H.size := by rw [had K.1.length (by omega)]; exact mz_low hP.1 (Nat.le_trans x9 hP.2.2.1) had i7
          have hsz2 : H.size = ad K.1.length := by
            have := had K.1.length (by omega)
            omega
          refine mz_newm hx F4 hown h3 (hts _ h4) x11 x2 hP hsz2 had g1 g2 g4 g6 (by omega) (by omega) hd (fun H' locs' hP' => ?_)
          have hsl := mz_sl_many K.1 h3 n0.toNatClampNeg n1.toNatClampNeg
          refine ih _ _ _ _ _ _ h hr' _ _ _ _ _ hl ⟨hP', ?_, ?_, ?_, ?_, ?_, ?_, fun h => by cases h⟩
          · exact mz_swf_many i2 h3
          · unfold mz_u at i3 ⊢; simp; omega
          · unfold mz_v at i4 ⊢; simp only; rw [hsl]; omega
          · unfold mz_u; simp; omega
          · simp only; rw [hsl]; exact g7
          · simp; omega
        · exact absurd h (fun q => q)
      · rename_i ht
        rw [ht] at hq
        simp only at hq
        obtain ⟨idx, h1, h2, h3, h4, h5⟩ := hq
        rw [h1, h2] at hd
        split at h
        · rename_i a st0
          obtain ⟨g1, h⟩ := h
          rw [h2] at h hr'
          refine W.objInit hx F4 hown (hts _ h3) (hts _ h4) (hts _ h5) rfl (hl.1.trans F5.symm) rfl hd ?_ ?_ ?_
          · omega
          · show 2 * 0 + ((mz_gs ad st0).map fun v => v.category).sum + 12 ≤ R.locals
            rw [mz_wt_gs]
            omega
          · exact ih _ _ _ _ _ _ h hr' _ _ _ _ _ hl I
        · exact absurd h (fun q => q)
      · rename_i ht
        rw [ht] at hq
        simp only at hq
        obtain ⟨hyl, hwt, ⟨a, t, ci, fk, k1, k2, k3⟩, hEj⟩ := h
        obtain ⟨idx, N, ci', h1, h2, hN, k4, ⟨T0, n0, k5⟩, ⟨hy, hpl, ⟨sig, hsig, hn⟩, hcode, -, hst, -⟩, hhk⟩ := hq
        rw [k2] at k4
        cases k4
        obtain ⟨w1, w2, w3⟩ := hst rfl
        obtain ⟨mk, methk, ck, FN⟩ := mz_Mf_of hcode hts
        rw [h1, h2] at hd
        rw [h2] at hEj hr'
        refine mz_szb (fun hsz => ?_)
        rw [mz_gs_split st q.2.2.2.2.1]
        rw [k1] at hEj ⊢
        obtain ⟨cellB, g1, g2, g3⟩ := va_recv x2 hP.1 k5 (mz_ws_at k3)
        have e9 : (mz_gs ad (.ref a :: t)).reverse ++ mz_gs ad (st.drop q.2.2.2.2.1) = (mz_gs ad t).reverse ++ .ref (ad a) :: mz_gs ad (st.drop q.2.2.2.2.1) := by simp [mz_gs, mz_g]
        rw [e9]
        have hln : (st.take q.2.2.2.2.1).reverse.length = t.length + 1 := by rw [k1]; rfl
        simp only [List.length_reverse, List.length_take] at hln
        refine mz_callV (mk := mk) (methk := methk) (ck := ck) hx F4 hown (hts _ w1) (hts _ w2) (hts _ w3) hy FN hpl (hl.1.trans F5.symm) g1 g2 g3 (fun sig' h' => ?_) hd ⟨c1, ?_, by show cells + (2000 - mz_u K) ≤ R.cells; omega, by show slots + (7100000 - mz_v K) ≤ R.slots; omega⟩ (mz_cal C hE I hsz hN hl hhk hEj (fun pc r lv st K hw hok H locs cells slots ls hl I => ih pc r lv st false K hw hok H locs cells slots ls hl I) hr')
        · cases hsig.symm.trans h'
          simp only [mz_gs, List.length_map]
          rw [if_neg (by decide)] at hn
          omega
        · rw [mz_wt_gs]
          have := hPG _ _ hN
          show mz_wt (st.drop q.2.2.2.2.1) + (N.2.2.2.1 + 11) + lo ≤ R.locals
          omega
      · rename_i ht
        rw [ht] at hq
        simp only at hq
        obtain ⟨hyl, hwt, ⟨a, t, k1⟩, hEj⟩ := h
        obtain ⟨idx, N, h1, h2, hN, ⟨hy, hpl, ⟨sig, hsig, hn⟩, hcode, -, -, hst⟩, hhk⟩ := hq
        obtain ⟨w1, w2, w3, w4, w5⟩ := hst rfl
        have hcode2 := hcode
        rw [if_pos w4, w5] at hcode2
        obtain ⟨mk, methk, ck, FN⟩ := mz_Mf_of hcode hts
        rw [h1, h2] at hd
        rw [h2] at hEj hr'
        refine mz_szb (fun hsz => ?_)
        rw [mz_gs_split st q.2.2.2.2.1]
        rw [k1] at hEj ⊢
        have e9 : (mz_gs ad (.ref a :: t)).reverse ++ mz_gs ad (st.drop q.2.2.2.2.1) = (mz_gs ad t).reverse ++ .ref (ad a) :: mz_gs ad (st.drop q.2.2.2.2.1) := by simp [mz_gs, mz_g]
        rw [e9]
        have hln : (st.take q.2.2.2.2.1).reverse.length = t.length + 1 := by rw [k1]; rfl
        simp only [List.length_reverse, List.length_take] at hln
        have hCal := mz_cal (mk := mk) (methk := methk) (ck := ck) C hE I hsz hN hl hhk hEj (fun pc r lv st K hw hok H locs cells slots ls hl I => ih pc r lv st false K hw hok H locs cells slots ls hl I) hr'
        rw [w4, w5] at FN hCal
        refine mz_callI (mk := mk) (methk := methk) (ck := ck) hx F4 hown w3 (w1.imp (fun h => hts _ h) (fun ⟨host, h⟩ => ⟨host, hts _ h⟩)) (hts _ w2) (hts _ hcode2) hy FN hpl (hl.1.trans F5.symm) (fun sig' h' => ?_) hd ⟨c1, ?_, by show cells + (2000 - mz_u K) ≤ R.cells; omega, by show slots + (7100000 - mz_v K) ≤ R.slots; omega⟩ hCal
        · cases hsig.symm.trans h'
          simp only [mz_gs, List.length_map]
          rw [if_neg (by decide)] at hn
          omega
        · rw [mz_wt_gs]
          have := hPG _ _ hN
          show mz_wt (st.drop q.2.2.2.2.1) + (N.2.2.2.1 + 11) + lo ≤ R.locals
          omega
      · rename_i ht
        rw [ht] at hq
        simp only at hq
        obtain ⟨hcl, idx, i0, h1, h2, h3, h4⟩ := hq
        rw [h1, h2] at hd
        rw [h2] at h hr'
        rw [hcl] at hown
        obtain ⟨tx, g⟩ := x12 _ h3
        have h9 := ih _ _ _ _ _ _ h hr' _ _ _ _ _ hl I
        rw [h4] at h9
        exact va_ldcS hx F4 hown g hd h9
      · rename_i ht
        rw [ht] at hq
        simp only at hq
        obtain ⟨hcl, h1, h2⟩ := hq
        rw [h1, h2] at hd
        rw [hcl] at hown
        split at h
        · rename_i c0 a0 st0
          obtain ⟨g1, h⟩ := h
          split at h
          · rename_i l0 hl0
            rw [h2] at h hr'
            obtain ⟨i0, hi0, rfl, rfl⟩ := mz_str_ok hl0
            have hIf : mz_In FK cl D ad cA b s K0 K H locs cells slots false := ⟨hP, i2, i3, i4, i5, i6, i7, fun h => by cases h⟩
            have h9 := ih _ _ _ _ _ _ h hr' _ _ _ _ _ hl hIf
            rw [← js_eq hi0 c0] at h9
            refine js_cV (xs := [.int c0]) (rest := mz_gs ad st0) hx F4 hown x10 hi0 (jk_1 hi0 c0) (js_m (i := 0) rfl) (js_m (i := 1) rfl) (js_m (i := 2) rfl) (js_m (i := 3) rfl) ⟨by decide, by decide⟩ (by decide +kernel) (hl.1.trans F5.symm) hP.2.2 (fun sig h => by rw [show parseMethodDescriptor js_y1.desc = some ⟨[.int], some .int⟩ from by decide +kernel] at h; cases h; rfl) hd ⟨by omega, ?_, by omega, by omega⟩ h9
            rw [mz_wt_gs]
            omega
          · exact absurd h (fun q => q)
        · exact absurd h (fun q => q)
      · exact absurd h (fun q => q)
theorem mz_args {ad : Nat → Nat} : ∀ (xs : List Value) (i : Nat), lv_args i (mz_gs ad xs) = mz_gl ad (lv_args i xs) := by
  intro xs
  induction xs with
  | nil => intro i; rfl
  | cons v vs ih =>
    intro i
    show lv_args i (mz_g ad v :: mz_gs ad vs) = _
    rw [lv_args, lv_args, mz_g_cat, ih]
    rfl
/-- every depth of calls is sound -/
theorem mz_sound (l : Launch) (hPG : ∀ j N, PG j = some N → N.2.2.2.1 ≤ 60 ∧ mz_cok (mz_iok PG FK cl Ts ST N) 0 N.2.2.2.2.2.2.1 ∧ mz_hok Ts N) (had : ∀ a, a < 1000 → ad a = b + a) (hgood : ∀ w ∈ Ts, mz_good w = true) : ∀ d, mz_Snd PG FK cl Ts ST D ad cA b cid X adV l (mz_E PG X FK d) (d + 10) (200 * d) := by
  intro d
  induction d with
  | zero => intro j xs K Q h; exact absurd h (fun q => q)
  | succ d ih =>
    intro j xs K Q h M hM p e R s m below meth c hx htr F hcx hP hswf hS hsz hfr hlo hRc hRs hu hv
    obtain ⟨M', n, hM', hlg, hnl, hW⟩ := h
    cases hM.symm.trans hM'
    have C : mz_At PG FK cl Ts ST D ad cA b cid X adV p e R s m (mz_gs ad xs).toArray meth c M K (d + 10) (200 * d) := ⟨hx, htr, F, hcx, (hPG j M hM).2.1, (hPG j M hM).2.2, had, hgood, (hPG j M hM).1, by omega, by omega, by omega, hsz, hRc, hRs, hu, hv⟩
    have hent := lv_entry (mz_gs ad xs) (n := M.2.2.2.1) (by
      have : (lg_sl (mz_gs ad xs)).length = (lg_sl xs).length := by
        simp only [lg_sl, mz_gs, List.flatMap_map, List.length_flatMap]
        congr 1
        apply List.map_congr_left
        intro v _
        rw [mz_g_cat]
        split <;> rfl
      omega)
    rw [lg_entry_eq]
    have hargs : lv_args 0 (mz_gs ad xs) = mz_gl ad (lv_args 0 xs) := mz_args xs 0
    rw [hargs] at hent
    exact mz_walk C ih (fun j N h => (hPG j N h).1) n 0 M.2.2.2.2.2.2.1 (lv_args 0 xs) [] true K hW (hPG j M hM).2.1 s.heap [] 0 0 _ hent ⟨⟨hP, mz_apart had (by omega), Nat.le_refl _, fun _ _ _ => rfl, fun q hq => absurd hq List.not_mem_nil⟩, hswf, by omega, by omega, hu, hv, hS, fun _ => ⟨rfl, rfl, rfl, rfl, rfl⟩⟩
end Mz16
