/-! THE SMALL MACHINE (12): the walk is sound. -/
section Mz15
variable {PG : Nat → Option mz_D} {FK : Nat → List Nat} {cl : List vw_C} {Ts : List Jvm.Cond} {ST : mz_st} {D : va_G} {ad : Nat → Nat} {cA : Nat → ClassId} {b : Nat} {cid : Nat → ClassId} {X : Nat → Option (Nat × (Nat → Int32))} {adV : Nat → Nat}
variable {p : Program} {l : Launch} {e : Env} {R : Room} {s : State} {m : MethodId} {args : Array Value} {below : List Frame} {meth : Method} {c : Code}
/-- what a walk stands on -/
def mz_At (PG : Nat → Option mz_D) (FK : Nat → List Nat) (cl : List vw_C) (Ts : List Jvm.Cond) (ST : mz_st) (D : va_G) (ad : Nat → Nat) (cA : Nat → ClassId) (b : Nat) (cid : Nat → ClassId) (X : Nat → Option (Nat × (Nat → Int32))) (adV : Nat → Nat) (p : Program) (e : Env) (R : Room) (s : State) (m : MethodId) (args : Array Value) (meth : Method) (c : Code) (M : mz_D) (K0 : mz_K) (fr lo : Nat) : Prop :=
  p.tables.exec = Jvm.exec ∧ e.platform.stackTraces = false ∧ mz_Mf s M.2.1 M.2.2.1 M.2.2.2.1 M.2.2.2.2.1 M.2.2.2.2.2.1 m meth c ∧ mz_cx cl Ts ST D ad cA b cid X adV s ∧ mz_cok (mz_iok PG FK cl Ts ST M) 0 M.2.2.2.2.2.2.1 ∧ mz_hok Ts M ∧ (∀ a, a < 1000 → ad a = b + a) ∧ (∀ w ∈ Ts, mz_good w = true) ∧ M.2.2.2.1 ≤ 60 ∧
  fr + 1 ≤ R.frames ∧ 10 ≤ R.frames ∧ lo + 200 ≤ R.locals ∧ s.heap.size ≤ b + mz_u K0 ∧ 2000 ≤ R.cells + mz_u K0 ∧ 7100000 ≤ R.slots + mz_v K0 ∧ mz_u K0 ≤ 2000 ∧ mz_sl K0.1 ≤ 7000000
/-- where a walk stands -/
def mz_In (FK : Nat → List Nat) (cl : List vw_C) (D : va_G) (ad : Nat → Nat) (cA : Nat → ClassId) (b : Nat) (s : State) (K0 K : mz_K) (H : Heap) (locs : List Loc) (cells slots : Nat) (clf : Bool) : Prop :=
  mz_P D cl ad cA (fun q => b ≤ q) s.heap K.1 K.2.1 H locs ∧ mz_swf FK K.1 ∧ cells + mz_u K0 = mz_u K ∧ slots + mz_v K0 = mz_v K ∧ mz_u K ≤ 2000 ∧ mz_sl K.1 ≤ 7000000 ∧ K.1.length ≤ 900 ∧ (clf = true → H = s.heap ∧ locs = [] ∧ cells = 0 ∧ slots = 0 ∧ K = K0)
theorem mz_gs_drop (st : List Value) (n : Nat) : mz_gs ad (st.drop n) = (mz_gs ad st).drop n := by simp [mz_gs, List.map_drop]
theorem mz_gs_split (st : List Value) (n : Nat) : mz_gs ad st = (mz_gs ad (st.take n).reverse).reverse ++ mz_gs ad (st.drop n) := by
  simp only [mz_gs, ← List.map_reverse, List.reverse_reverse, ← List.map_append, List.take_append_drop]
theorem mz_wt_gs (st : List Value) : ((mz_gs ad st).map fun v => v.category).sum = mz_wt st := by simp [mz_gs, mz_wt, Function.comp_def, mz_g_cat]
theorem mz_zf {k : Nat} : ∀ (t : List ExceptionTableEntry) (g : List (Nat × Nat × Nat)), (∀ (i : Nat) (x : ExceptionTableEntry) (y : Nat × Nat × Nat), t[i]? = some x → g[i]? = some y → x.handlerPc = y.2.1) → t.length = g.length → ∀ h, g.find? (fun h => h.1 == k) = some h → ((t.zip (g.map (·.1))).find? (fun q => q.2 == k)).map (fun q => q.1.handlerPc) = some h.2.1 := by
  intro t
  induction t with
  | nil =>
    intro g _ hl h hf
    cases g with
    | nil => simp at hf
    | cons y r => simp at hl
  | cons x t ih =>
    intro g hi hl h hf
    cases g with
    | nil => simp at hl
    | cons y r =>
      by_cases hy : y.1 = k
      · have h1 : h = y := by simpa [List.find?, hy] using hf.symm
        subst h1
        simp [List.find?, hy, hi 0 x h rfl rfl]
      · have hb : (y.1 == k) = false := by simpa using hy
        have hf' : r.find? (fun h => h.1 == k) = some h := by simpa [List.find?, hb] using hf
        have := ih r (fun i x' y' h1 h2 => hi (i + 1) x' y' (by simpa using h1) (by simpa using h2)) (by simpa using hl) h hf'
        simpa [List.find?, hb] using this
/-- a callee's walk, and what comes behind it -/
theorem mz_cal {M N : mz_D} {K0 K : mz_K} {fr lo : Nat} {E : Nat → List Value → mz_K → mz_Q → Prop} (C : mz_At PG FK cl Ts ST D ad cA b cid X adV p e R s m args meth c M K0 fr lo) (hE : mz_Snd PG FK cl Ts ST D ad cA b cid X adV l E fr lo) {H : Heap} {locs : List Loc} {cells slots : Nat} {clf : Bool} (I : mz_In FK cl D ad cA b s K0 K H locs cells slots clf) (hsz : H.size ≤ s.heap.size + cells)
    {j pc len : Nat} {xs rest : List Value} {lv : List (Nat × Value)} {ls : Array Slot} {r : List mz_i} {Q : mz_Q} {W' : Nat → List mz_i → List (Nat × Value) → List Value → mz_K → Prop} (hN : PG j = some N) {mk : MethodId} {methk : Method} {ck : Code} (hl : lv_has ls M.2.2.2.1 (mz_gl ad lv)) (hhk : mz_hk M pc)
    (hEj : E j xs K (mz_af W' M.2.2.2.2.2.2.2 M.2.2.2.2.2.2.1 (pc + len) r lv rest Q))
    (hW' : ∀ (pc : Nat) (r : List mz_i) (lv : List (Nat × Value)) (st : List Value) (K : mz_K), W' pc r lv st K → mz_cok (mz_iok PG FK cl Ts ST M) pc r → ∀ (H : Heap) (locs : List Loc) (cells slots : Nat) (ls : Array Slot), lv_has ls M.2.2.2.1 (mz_gl ad lv) → mz_In FK cl D ad cA b s K0 K H locs cells slots false → W p l e R s m args below meth c H locs cells slots (mz_End below s (fun q => b ≤ q) (mz_Po FK cl D ad cA b cid s.heap K0 Q)) (F0 m pc ls (mz_gs ad st)))
    (hr : mz_cok (mz_iok PG FK cl Ts ST M) (pc + len) r) :
    mz_Cal p l e R { frames := fr, locals := lo, cells := 2000 - mz_u K, slots := 7100000 - mz_v K } s m args below meth c H locs cells slots (mz_End below s (fun q => b ≤ q) (mz_Po FK cl D ad cA b cid s.heap K0 Q)) N.2.1 N.2.2.1 N.2.2.2.1 N.2.2.2.2.1 N.2.2.2.2.2.1 mk methk ck (fun q => b ≤ q) (mz_Po FK cl D ad cA b cid H K (mz_af W' M.2.2.2.2.2.2.2 M.2.2.2.2.2.2.1 (pc + len) r lv rest Q)) (mz_gs ad xs).toArray pc len ls (mz_gs ad rest) := by
  obtain ⟨hx, htr, F, hcx, hcok, hhok, had, hgood, hnL, c1, c2, c3, c4, c5, c6, c7, c8⟩ := C
  obtain ⟨⟨hP1, hD, hS⟩, hswf, i3, i4, i5, i6, i7, i8⟩ := I
  have hsS : H.size ≤ b + mz_u K := by omega
  have hvK := mz_vle i5 i6
  refine ⟨fun T g hT hW FT => ?_, fun v H' L k n hpost hL => ?_, fun x H' L k n hpost hL => ?_⟩
  · have hcx' : mz_cx cl Ts ST D ad cA b cid X adV (T.calling g mk (mz_gs ad xs).toArray) := mz_cx_on hgood hcx hW (by rw [hT]; exact hS.1) (by rw [hT]; exact hS.2.1)
    have h1 := hE j xs K _ hEj N hN p e { frames := fr, locals := lo, cells := 2000 - mz_u K, slots := 7100000 - mz_v K } (T.calling g mk (mz_gs ad xs).toArray) mk (.java g :: below) methk ck hx htr FT hcx' (by show va_P D cl _ T.heap; rw [hT]; exact hP1) hswf i7 (by show T.heap.size ≤ _; rw [hT]; exact hsS) (Nat.le_refl _) (Nat.le_refl _) (by show 2000 ≤ 2000 - mz_u K + mz_u K; omega) (by show 7100000 ≤ 7100000 - mz_v K + mz_v K; omega) i5 i6
    have h2 : (T.calling g mk (mz_gs ad xs).toArray).heap = H := hT
    rw [h2] at h1
    rw [hT]
    exact h1
  · obtain ⟨⟨q1, q2⟩, r0, K', hq, ho, hP', hw', k1, k2, k3, k4, k5⟩ := hpost
    have hIn : mz_In FK cl D ad cA b s K0 K' H' (locs ++ L) (cells + k) (slots + n) false := by
      refine ⟨⟨hP', mz_apart had (by omega), ⟨Nat.le_trans hS.1 q1, fun z h1 h2 => (q2 z (Nat.lt_of_lt_of_le h1 hS.1) h2).trans (hS.2.1 z h1 h2), fun z hz => ?_⟩⟩, hw', by omega, by omega, k3, k4, k5, fun h => by cases h⟩
      rcases List.mem_append.mp hz with h | h
      · exact hS.2.2 z h
      · exact hL z h
    cases r0 with
    | inr k0 => cases ho
    | inl r1 => cases r1 with
      | none => cases v with
        | some w => cases ho
        | none => exact hW' _ _ _ _ _ hq hr _ _ _ _ _ hl hIn
      | some v1 => cases v with
        | none => cases ho
        | some w =>
          have ho' : w = mz_g ad v1 := ho
          subst ho'
          exact hW' _ _ _ _ _ hq hr _ _ _ _ _ hl hIn
  · obtain ⟨⟨q1, q2⟩, r0, K', hq, ho, hP', hw', k1, k2, k3, k4, k5⟩ := hpost
    have hIn : mz_In FK cl D ad cA b s K0 K' H' (locs ++ L) (cells + k) (slots + n) false := by
      refine ⟨⟨hP', mz_apart had (by omega), ⟨Nat.le_trans hS.1 q1, fun z h1 h2 => (q2 z (Nat.lt_of_lt_of_le h1 hS.1) h2).trans (hS.2.1 z h1 h2), fun z hz => ?_⟩⟩, hw', by omega, by omega, k3, k4, k5, fun h => by cases h⟩
      rcases List.mem_append.mp hz with h | h
      · exact hS.2.2 z h
      · exact hL z h
    cases r0 with
    | inl r1 => cases r1 <;> cases ho
    | inr k0 =>
      obtain ⟨hk2, cell, e1, e2, e3⟩ := ho
      unfold mz_af at hq
      simp only at hq
      split at hq
      · rename_i h hfind
        obtain ⟨F1, F2, F3, F4, F5, F6, F7, F8, F9⟩ := F
        obtain ⟨o1, o2⟩ := hhok
        have hlen : c.exceptionTable.toList.length = M.2.2.2.2.2.2.2.length := by rw [← o1, ← F8, List.length_map]
        have hgi : ∀ (i : Nat) (x : ExceptionTableEntry), c.exceptionTable.toList[i]? = some x → M.2.2.2.2.2.1[i]? = some (x.startPc, x.endPc, x.handlerPc, x.catchType) := fun i x hx => by rw [← F8, List.getElem?_map, hx]; rfl
        have hown : s.vm.findClass M.2.1.cls = some m.cls := findClass_of_methodNamed F1
        have hmem : h ∈ M.2.2.2.2.2.2.2 := List.mem_of_find?_eq_some hfind
        obtain ⟨ih, hih⟩ := List.getElem?_of_mem hmem
        have hilt : ih < c.exceptionTable.toList.length := by rw [hlen]; exact (List.getElem?_eq_some_iff.mp hih).1
        obtain ⟨w1, w2, w3, w4, w5⟩ := o2 ih _ h (hgi ih _ (List.getElem?_eq_getElem hilt)) hih
        refine mz_catch (cid := cid) (k := k0) (cell := cell) e1 (fun z => by rw [e2]; exact fun q => by cases q) e3 (tbl := c.exceptionTable.toList.zip (M.2.2.2.2.2.2.2.map (·.1))) (by rw [List.map_fst_zip (by rw [List.length_map]; exact Nat.le_of_eq hlen)]) ?_ (mz_zf _ _ (fun i x y h1 h2 => (o2 i _ y (hgi i x h1) h2).1) hlen h hfind) ?_
        · intro pl hpl q hq
          obtain ⟨i, hi⟩ := List.getElem?_of_mem hq
          rw [List.getElem?_zip_eq_some] at hi
          obtain ⟨z1, z2⟩ := hi
          rw [List.getElem?_map] at z2
          cases z3 : M.2.2.2.2.2.2.2[i]? with
          | none => rw [z3] at z2; cases z2
          | some g =>
            rw [z3] at z2
            have z4 : g.1 = q.2 := by simpa using z2
            obtain ⟨v1, v2, v3, v4, -⟩ := o2 i _ g (hgi i _ z1) z3
            have v5 := hhk _ (List.mem_of_getElem? (hgi i _ z1))
            obtain ⟨x1, x2, x3⟩ := hcx.2.2.2.2.1 k0 hk2
            obtain ⟨y1, y2, -⟩ := hcx.2.2.2.2.1 g.1 v3
            obtain ⟨cc0, f1, f2⟩ := Cond.classLink_spec hown (hcx.1 _ v4 #[]) pl hpl
            cases y1.symm.trans f1
            rw [← z4]
            exact ⟨by simp [covers, v5.1, v5.2], v2, f2, x2, y2, x3 g.1 v3⟩
        · have hcode : mz_cok (mz_iok PG FK cl Ts ST M) h.2.2 (mz_sf M.2.2.2.2.2.2.1 h.2.2) := by
            have := mz_cok_sf _ 0 h.2.2 hcok
            rwa [Nat.zero_add] at this
          rcases w5 with ⟨a0, d1, d2, d3⟩ | ⟨a0, d1, d2, d3⟩
          · refine lv_astore_n (pc := h.2.1) hx F4 d1 rfl hl d2 rfl (fun ls' hl' => ?_)
            rw [← d3]
            exact hW' _ _ [] [] _ hq hcode _ _ _ _ ls' ⟨hl'.1, hl'.2.1, fun q hq => absurd hq List.not_mem_nil⟩ hIn
          · refine lv_astore (pc := h.2.1) hx F4 d1 hl d2 rfl (fun ls' hl' => ?_)
            rw [← d3]
            exact hW' _ _ [] [] _ hq hcode _ _ _ _ ls' ⟨hl'.1, hl'.2.1, fun q hq => absurd hq List.not_mem_nil⟩ hIn
      · obtain ⟨hnil, hq⟩ := hq
        obtain ⟨F1, F2, F3, F4, F5, F6, F7, F8, F9⟩ := F
        have h0 : M.2.2.2.2.2.1 = [] := List.length_eq_zero_iff.mp (by rw [hhok.1, hnil]; rfl)
        rw [h0] at F8
        have h1 : c.exceptionTable.toList = [] := List.map_eq_nil_iff.mp F8
        obtain ⟨⟨j1, j2, j3⟩, j4, j5, j6, j7, j8, j9, -⟩ := hIn
        exact mz_thru F7 (fun h hh => by rw [h1] at hh; exact absurd hh List.not_mem_nil) (fun q hq => j3.2.2 q hq) ⟨⟨j3.1, j3.2.1⟩, .inr k0, K', hq, ⟨hk2, cell, e1, e2, e3⟩, j1, j4, j5, j6, j7, j8, j9⟩
end Mz15
