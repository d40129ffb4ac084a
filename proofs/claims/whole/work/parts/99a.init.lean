/-! THE LAW'S ENTRY: what the Statement gives there is what the small machine stands on. -/
def mz_ad (b f1 f2 sc : Nat) (adK : Nat → Nat) (a : Nat) : Nat := if a < 1000 then b + a else if a = 1000 then f1 else if a = 1001 then f2 else if a = 1002 then sc else adK (a - 2000)
def mz_fl0 : List Jvm.Cond := flatC (Jvm.Cond.and given_1 narrow_1)
theorem mz_inR {c i : Nat} {w : Jvm.Cond} (h : (mz_ct c)[i]? = some w) : w ∈ lw_tbl := List.mem_append_right _ (mz_ct_in (List.mem_of_getElem? h))
theorem mz_jsin : ∀ w ∈ js_ws, w ∈ mz_Ts := List.forall_mem_cons.mpr ⟨mz_inT (c := 4) (i := 61) rfl rfl, List.forall_mem_cons.mpr ⟨mz_inT (c := 4) (i := 62) rfl rfl, List.forall_mem_cons.mpr ⟨mz_inT (c := 4) (i := 63) rfl rfl, List.forall_mem_cons.mpr ⟨mz_inT (c := 4) (i := 64) rfl rfl, List.forall_mem_cons.mpr ⟨mz_inT (c := 4) (i := 65) rfl rfl, List.forall_mem_cons.mpr ⟨mz_inT (c := 4) (i := 66) rfl rfl, List.forall_mem_cons.mpr ⟨mz_inT (c := 4) (i := 67) rfl rfl, List.forall_mem_cons.mpr ⟨mz_inT (c := 4) (i := 68) rfl rfl, List.forall_mem_cons.mpr ⟨mz_inT (c := 4) (i := 69) rfl rfl, List.forall_mem_cons.mpr ⟨mz_inT (c := 4) (i := 70) rfl rfl, List.forall_mem_cons.mpr ⟨mz_inT (c := 4) (i := 71) rfl rfl, List.forall_mem_cons.mpr ⟨mz_inT (c := 4) (i := 72) rfl rfl, List.forall_mem_cons.mpr ⟨mz_inT (c := 4) (i := 75) rfl rfl, List.forall_mem_cons.mpr ⟨mz_inT (c := 4) (i := 76) rfl rfl, List.forall_mem_cons.mpr ⟨mz_inT (c := 4) (i := 77) rfl rfl, List.forall_mem_cons.mpr ⟨mz_inT (c := 4) (i := 78) rfl rfl, List.forall_mem_cons.mpr ⟨mz_inT (c := 4) (i := 79) rfl rfl, List.forall_mem_cons.mpr ⟨mz_inT (c := 4) (i := 80) rfl rfl, List.forall_mem_cons.mpr ⟨mz_inT (c := 4) (i := 81) rfl rfl, List.forall_mem_cons.mpr ⟨mz_inT (c := 4) (i := 82) rfl rfl, List.forall_mem_cons.mpr ⟨mz_inT (c := 4) (i := 83) rfl rfl, List.forall_mem_cons.mpr ⟨mz_inT (c := 4) (i := 84) rfl rfl, List.forall_mem_cons.mpr ⟨mz_inT (c := 4) (i := 85) rfl rfl, List.forall_mem_cons.mpr ⟨mz_inT (c := 4) (i := 86) rfl rfl, List.forall_mem_cons.mpr ⟨mz_inT (c := 4) (i := 87) rfl rfl, List.forall_mem_cons.mpr ⟨mz_inT (c := 4) (i := 88) rfl rfl, List.forall_mem_cons.mpr ⟨mz_inT (c := 4) (i := 93) rfl rfl, List.forall_mem_cons.mpr ⟨mz_inT (c := 4) (i := 94) rfl rfl, List.forall_mem_cons.mpr ⟨mz_inT (c := 4) (i := 95) rfl rfl, List.forall_mem_cons.mpr ⟨mz_inT (c := 4) (i := 73) rfl rfl, List.forall_mem_cons.mpr ⟨mz_inT (c := 5) (i := 224) rfl rfl, List.forall_mem_cons.mpr ⟨mz_inT (c := 5) (i := 225) rfl rfl, List.forall_mem_cons.mpr ⟨mz_inT (c := 4) (i := 89) rfl rfl, List.forall_mem_cons.mpr ⟨mz_inT (c := 4) (i := 90) rfl rfl, List.forall_mem_cons.mpr ⟨mz_inT (c := 4) (i := 91) rfl rfl, List.forall_mem_cons.mpr ⟨mz_inT (c := 4) (i := 92) rfl rfl, List.forall_mem_cons.mpr ⟨mz_inT (c := 4) (i := 32) rfl rfl, List.forall_mem_cons.mpr ⟨mz_inT (c := 4) (i := 33) rfl rfl, List.forall_mem_cons.mpr ⟨mz_inT (c := 1) (i := 17) rfl rfl, List.forall_mem_cons.mpr ⟨mz_inT (c := 1) (i := 15) rfl rfl, (fun _ h => absurd h List.not_mem_nil)⟩⟩⟩⟩⟩⟩⟩⟩⟩⟩⟩⟩⟩⟩⟩⟩⟩⟩⟩⟩⟩⟩⟩⟩⟩⟩⟩⟩⟩⟩⟩⟩⟩⟩⟩⟩⟩⟩⟩⟩
section Ini
variable {args : Array Value} {s : State} {A : Nat → Prop}
theorem mz_fi (h : (Jvm.Cond.and given_1 narrow_1).before args s = true) {w : Jvm.Cond} (hi : w ∈ mz_fl0) : w.before args s = true := flat_of_before _ h _ hi
theorem mz_e1 : Jvm.Cond.arrayOf (.static "KeptHouse$Store" "SUMS" "[I") .int ∈ mz_fl0 ∧ Jvm.Cond.eq (.length (.static "KeptHouse$Store" "SUMS" "[I")) (.int (Int32.ofNat 16)) ∈ mz_fl0 ∧ Jvm.Cond.arrayOf (.static "KeptHouse$Store" "FIRST_KEY" "[I") .int ∈ mz_fl0 ∧ Jvm.Cond.eq (.length (.static "KeptHouse$Store" "FIRST_KEY" "[I")) (.int (Int32.ofNat 16)) ∈ mz_fl0 := by decide +kernel
theorem mz_e2 : ∀ j, j < 16 → Jvm.Cond.eq (.elem (.static "KeptHouse$Store" "SUMS" "[I") (.int (Int32.ofNat j))) (.int (mz_su1.getD j 0)) ∈ mz_fl0 := by decide +kernel
theorem mz_e3 : ∀ j, j < 16 → Jvm.Cond.eq (.elem (.static "KeptHouse$Store" "FIRST_KEY" "[I") (.int (Int32.ofNat j))) (.int (mz_fk1.getD j 0)) ∈ mz_fl0 := by decide +kernel
theorem mz_e4 : Jvm.Cond.eq (.static "java/lang/String" "COMPACT_STRINGS" "Z") (.int 1) ∈ mz_fl0 ∧ Jvm.Cond.isRef (.static Bundle.tN "UNASSIGNED_STACK" Bundle.steD) ∈ mz_fl0 ∧ Jvm.Cond.isRef (.static Bundle.tN "SUPPRESSED_SENTINEL" Bundle.listD) ∈ mz_fl0 := by decide +kernel
theorem mz_e5 : Jvm.Cond.not (.castable (mz_en 0) (mz_en 1)) ∈ mz_fl0 ∧ Jvm.Cond.not (.castable (mz_en 1) (mz_en 0)) ∈ mz_fl0 := by decide +kernel
theorem mz_e6 : ∀ i ∈ [85, 92, 95, 97], Jvm.Cond.exactly (.string "KeptHouse" i) "java/lang/String" ∈ mz_fl0 := by decide +kernel
def mz_tr (i : Nat) : Term := .string "KeptHouse$Reader" ([101, 122, 124].getD i 0)
theorem mz_e7 : ∀ i, i < 3 → Jvm.Cond.exactly (mz_tr i) "java/lang/String" ∈ mz_fl0 ∧ Jvm.Cond.eq (.field (mz_tr i) "java/lang/String" "coder" "B") (.int 0) ∈ mz_fl0 ∧ Jvm.Cond.arrayOf (.field (mz_tr i) "java/lang/String" "value" "[B") .byte ∈ mz_fl0 ∧ Jvm.Cond.eq (.length (.field (mz_tr i) "java/lang/String" "value" "[B")) (.int (Int32.ofNat (js_len.getD i 0))) ∈ mz_fl0 := by decide +kernel
theorem mz_e8 : ∀ i, i < 3 → ∀ j, j < js_len.getD i 0 → Jvm.Cond.eq (.elem (.field (mz_tr i) "java/lang/String" "value" "[B") (.int (Int32.ofNat j))) (.int ((js_byt.getD i []).getD j 0)) ∈ mz_fl0 := by decide +kernel
theorem mz_e9 : ∀ i, i < 3 → ∀ j, j < 3 → i ≠ j → Jvm.Cond.not (.eq (mz_tr i) (mz_tr j)) ∈ mz_fl0 ∨ Jvm.Cond.not (.eq (mz_tr j) (mz_tr i)) ∈ mz_fl0 := by decide +kernel
theorem mz_e10 : ∀ i, i < 3 → js_len.getD i 0 < 2 ^ 31 := by decide +kernel
theorem mz_ncast {a b : String} {ca cb : ClassId} (h : (Jvm.Cond.not (.castable a b)).before args s = true) (h1 : s.vm.findClass a = some ca) (h2 : s.vm.findClass b = some cb) : s.vm.assignable ca cb = false := by
  simpa [Cond.before, Cond.holds, Cond.value, h1, h2] using h
theorem mz_arrK {cA comp : ClassId} {kA : Class} {ty : FieldType} (h2 : s.vm.classes[cA]? = some kA) (h3 : kA.kind = .array comp ty) : ArrOfT s cA ty := fun n z => ⟨fun k h => (by cases h), kA, h2, comp, h3⟩
theorem mz_inst : ∀ ci, ci < 13 → Jvm.Cond.instantiable (mz_cn0 ci) (mz_Nc ci) ∈ lw_tbl := by
  intro ci h
  match ci, h with
  | 0, _ => exact mz_inR (c := 2) (i := 196) rfl
  | 1, _ => exact mz_inR (c := 3) (i := 51) rfl
  | 2, _ => exact mz_inR (c := 3) (i := 0) rfl
  | 3, _ => exact mz_inR (c := 2) (i := 85) rfl
  | 4, _ => exact mz_inR (c := 1) (i := 40) rfl
  | 5, _ => exact mz_inR (c := 1) (i := 46) rfl
  | 6, _ => exact mz_inR (c := 1) (i := 137) rfl
  | 7, _ => exact mz_inR (c := 1) (i := 143) rfl
  | 8, _ => exact mz_inR (c := 3) (i := 108) rfl
  | 9, _ => exact mz_inR (c := 2) (i := 9) rfl
  | 10, _ => exact mz_inR (c := 2) (i := 151) rfl
  | 11, _ => exact mz_inR (c := 1) (i := 32) rfl
  | 12, _ => exact mz_inR (c := 12) (i := 89) rfl
theorem mz_str2 (hts : ∀ w ∈ lw_tbl, w.before args s = true) (hgv : (Jvm.Cond.and given_1 narrow_1).before args s = true) : ∀ i ∈ [85, 92, 95, 97], ∃ tx q, vk_R "KeptHouse" i tx q s := by
  have key : ∀ (i : Nat) (tx : String), Jvm.Cond.stringRef "KeptHouse" i tx ∈ lw_tbl → Jvm.Cond.exactly (.string "KeptHouse" i) "java/lang/String" ∈ mz_fl0 → ∃ tx q, vk_R "KeptHouse" i tx q s := by
    intro i tx h1 h2
    obtain ⟨a, c, cA, kA, q1, -⟩ := Cond.exactly_spec (args := args) (first := s) (o := none) (s := s) (idx := []) (mz_fi hgv h2)
    exact ⟨tx, a, vk_R.of (hts _ h1) q1⟩
  intro i hi
  simp only [List.mem_cons, List.not_mem_nil, or_false] at hi
  rcases hi with rfl | rfl | rfl | rfl
  · exact key 85 _ (mz_inR (c := 7) (i := 41) rfl) (mz_e6 85 (by decide))
  · exact key 92 _ (mz_inR (c := 7) (i := 52) rfl) (mz_e6 92 (by decide))
  · exact key 95 _ (mz_inR (c := 7) (i := 207) rfl) (mz_e6 95 (by decide))
  · exact key 97 _ (mz_inR (c := 8) (i := 128) rfl) (mz_e6 97 (by decide))
set_option maxHeartbeats 4000000 in
theorem mz_entry {b L : Nat} {xs : Nat → Int32} (hL : L ≤ 449) (hts : ∀ w ∈ lw_tbl, w.before args s = true) (hX : va_X b L xs s s.heap) (hbl : b < s.heap.size) (hgv : (Jvm.Cond.and given_1 narrow_1).before args s = true) : ∃ (D : va_G) (ad : Nat → Nat) (cA : Nat → ClassId) (cid : Nat → ClassId) (adV : Nat → Nat), mz_cx mz_cl0 mz_Ts mz_ST0 D ad cA s.heap.size cid (mz_X0 L xs) adV s ∧ (∀ a, a < 1000 → ad a = s.heap.size + a) ∧ ad 1002 = b := by
  have hA : ∀ a : Nat, a < s.heap.size → ¬ s.heap.size ≤ a := fun a h => Nat.not_le.mpr h
  have hw : ∀ w ∈ mz_Ts, ∀ a, w.before a s = true := fun w h a => mz_per (mz_Ts_good w h) (State.WarmedH.refl s) (hts w (List.mem_filter.mp h).1)
  obtain ⟨f2, hf2, hT2⟩ := va_Tof (A := fun q => s.heap.size ≤ q) (f := fun j => .int (mz_su1.getD j 0)) (by decide) (mz_fi hgv mz_e1.1) (va_eqt (mz_fi hgv mz_e1.2.1)) (fun j hj => va_eqt (mz_fi hgv (mz_e2 j hj))) hA
  obtain ⟨f1, hf1, hT1⟩ := va_Tof (A := fun q => s.heap.size ≤ q) (f := fun j => .int (mz_fk1.getD j 0)) (by decide) (mz_fi hgv mz_e1.2.2.1) (va_eqt (mz_fi hgv mz_e1.2.2.2)) (fun j hj => va_eqt (mz_fi hgv (mz_e3 j hj))) hA
  obtain ⟨adK, adV, hS, hSe⟩ := vk_Sof (args := args) (s := s) (N := 3) (tm := mz_tr) (len := js_len) (byt := js_byt) (A := fun q => s.heap.size ≤ q) mz_e10 (fun i hi => mz_fi hgv (mz_e7 i hi).1) (fun i hi => mz_fi hgv (mz_e7 i hi).2.1) (fun i hi => mz_fi hgv (mz_e7 i hi).2.2.1) (fun i hi => mz_fi hgv (mz_e7 i hi).2.2.2) (fun i hi j hj => mz_fi hgv (mz_e8 i hi j hj)) (fun i j hi hj hij => (mz_e9 i hi j hj hij).imp (fun h => mz_fi hgv h) (fun h => mz_fi hgv h)) hA
  obtain ⟨c0, k0, b0, p0, q0, r0⟩ := Cond.arrayClass_spec (hts _ (mz_inR (c := 1) (i := 135) rfl))
  obtain ⟨c1, k1, b1, p1, q1, r1⟩ := Cond.arrayClass_spec (hts _ (mz_inR (c := 2) (i := 149) rfl))
  obtain ⟨c2, k2, b2, p2, q2, r2⟩ := Cond.arrayClass_spec (hts _ (mz_inR (c := 5) (i := 37) rfl))
  obtain ⟨c3, k3, b3, p3, q3, r3⟩ := Cond.arrayClass_spec (hts _ (mz_inR (c := 2) (i := 194) rfl))
  obtain ⟨d4, c4, k4, s4, -, q4, r4, p4⟩ := arrayOverA_spec (hts _ (mz_inR (c := 1) (i := 52) rfl))
  obtain ⟨d5, c5, k5, s5, -, q5, r5, p5⟩ := arrayOverA_spec (hts _ (mz_inR (c := 2) (i := 158) rfl))
  have e4 : d4 = c0 := Option.some.inj (s4.symm.trans p0)
  have e5 : d5 = c1 := Option.some.inj (s5.symm.trans p1)
  subst e4 e5
  obtain ⟨x0, y0, u0, v0, -⟩ := Cond.instantiable_spec (hts _ (mz_inR (c := 4) (i := 208) rfl))
  obtain ⟨x1, y1, u1, v1, -⟩ := Cond.instantiable_spec (hts _ (mz_inR (c := 7) (i := 33) rfl))
  have hkn : ∀ ci, ∃ q : ClassId × (Nat → Nat), ci < 13 → u_Kn s (mz_cn0 ci) (mz_Tc ci) (mz_Nc ci) q.1 q.2 := by
    intro ci
    by_cases hc : ci < 13
    · obtain ⟨cC, iS, h⟩ := u_known hts (mzCF ci hc).2.1.1 (hts _ (mz_inst ci hc))
      exact ⟨(cC, iS), fun _ => h⟩
    · exact ⟨(0, fun _ => 0), fun h => absurd h hc⟩
  obtain ⟨fD, hD⟩ := Classical.axiomOfChoice hkn
  have ead : (fun i => mz_ad s.heap.size f1 f2 b adK (2000 + i)) = adK := by
    funext i
    show (if 2000 + i < 1000 then s.heap.size + (2000 + i) else if 2000 + i = 1000 then f1 else if 2000 + i = 1001 then f2 else if 2000 + i = 1002 then b else adK (2000 + i - 2000)) = adK i
    rw [if_neg (by omega), if_neg (by omega), if_neg (by omega), if_neg (by omega), Nat.add_sub_cancel_left]
  have eadi : ∀ i, mz_ad s.heap.size f1 f2 b adK (2000 + i) = adK i := fun i => congrFun ead i
  refine ⟨(fun c => (fD c).1, fun c => (fD c).2), mz_ad s.heap.size f1 f2 b adK, fun t => match t with
    | 0 => d4
    | 1 => d5
    | 2 => c2
    | 3 => c3
    | 4 => c4
    | _ => c5, fun k => if k = 0 then x0 else x1, adV, ⟨hw, ⟨?_, ?_⟩, ?_, ?_, ?_, mz_str2 hts hgv, ?_, ?_, Nat.le_refl _, ⟨fun w h a => hw w (mz_jsin w h) a, ?_, ?_⟩, ⟨⟨k4, q4, r4⟩, ⟨k5, q5, r5⟩⟩, ?_, mz_ls.of (hts _ (mz_inR (c := 4) (i := 234) rfl)) hA, mz_ls.of (hts _ (mz_inR (c := 4) (i := 236) rfl)) hA⟩, fun a ha => if_pos ha, rfl⟩
  · intro c q hq
    have hc : c < 13 := (List.getElem?_eq_some_iff.mp hq).1
    rw [(mzCF c hc).1] at hq
    cases hq
    exact hD c hc
  · intro k q hq
    have hk : k < 6 := (List.getElem?_eq_some_iff.mp hq).1
    match k, hk, hq with
    | 0, _, hq => cases hq; exact ⟨mz_arrK q0 r0, p0⟩
    | 1, _, hq => cases hq; exact ⟨mz_arrK q1 r1, p1⟩
    | 2, _, hq => cases hq; exact ⟨mz_arrK q2 r2, p2⟩
    | 3, _, hq => cases hq; exact ⟨mz_arrK q3 r3, p3⟩
    | 4, _, hq => cases hq; exact ⟨mz_arrK q4 r4, p4⟩
    | 5, _, hq => cases hq; exact ⟨mz_arrK q5 r5, p5⟩
  · intro a n f hx
    unfold mz_X0 at hx
    split at hx
    · rename_i e; cases hx; rw [e]; exact hT1
    · split at hx
      · rename_i e; cases hx; rw [e]; exact hT2
      · split at hx
        · rename_i e
          cases hx
          rw [e]
          obtain ⟨scr, h1, h2, h3, h4, h5⟩ := hX
          exact ⟨scr, h1, h2, h3, Nat.le_of_eq h4.symm, by rw [h4], h5, hA b hbl⟩
        · cases hx
  · intro q hq
    simp only [mz_ST0, List.mem_cons, List.not_mem_nil, or_false] at hq
    rcases hq with rfl | rfl
    · exact va_Zref (hts _ (mz_inR (c := 6) (i := 38) rfl)) (hts _ (mz_inR (c := 1) (i := 12) rfl)) hf1 hA
    · exact va_Zref (hts _ (mz_inR (c := 3) (i := 135) rfl)) (hts _ (mz_inR (c := 1) (i := 12) rfl)) hf2 hA
  · intro k hk
    have hk' : k = 0 ∨ k = 1 := by omega
    rcases hk' with rfl | rfl
    · refine ⟨u0, ⟨y0, v0⟩, fun k' hk' => ?_⟩
      have hk'' : k' = 0 ∨ k' = 1 := by omega
      rcases hk'' with rfl | rfl
      · exact va_asg _ _
      · exact mz_ncast (mz_fi hgv mz_e5.1) u0 u1
    · refine ⟨u1, ⟨y1, v1⟩, fun k' hk' => ?_⟩
      have hk'' : k' = 0 ∨ k' = 1 := by omega
      rcases hk'' with rfl | rfl
      · exact mz_ncast (mz_fi hgv mz_e5.2) u1 u0
      · exact va_asg _ _
  · exact va_Zqof (hts _ (mz_inR (c := 4) (i := 234) rfl)) (hts _ (mz_inR (c := 1) (i := 21) rfl)) (mz_fi hgv mz_e4.2.1) hA
  · exact va_Zqof (hts _ (mz_inR (c := 4) (i := 236) rfl)) (hts _ (mz_inR (c := 1) (i := 21) rfl)) (mz_fi hgv mz_e4.2.2) hA
  · rw [ead]; exact hS
  · exact va_Zof (hts _ (mz_inR (c := 4) (i := 74) rfl)) (hts _ (mz_inR (c := 1) (i := 16) rfl)) (va_eqt (mz_fi hgv mz_e4.1)) hA
  · intro q hq
    rw [eadi]
    simp only [mz_tx, List.mem_cons, List.not_mem_nil, or_false] at hq
    rcases hq with rfl | rfl | rfl
    · exact ⟨_, vk_R.of (hts _ (mz_inR (c := 4) (i := 149) rfl)) (hSe 0 (by decide))⟩
    · exact ⟨_, vk_R.of (hts _ (mz_inR (c := 4) (i := 60) rfl)) (hSe 1 (by decide))⟩
    · exact ⟨_, vk_R.of (hts _ (mz_inR (c := 4) (i := 145) rfl)) (hSe 2 (by decide))⟩
end Ini
