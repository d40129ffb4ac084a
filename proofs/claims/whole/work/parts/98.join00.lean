/-! THE PROGRAM (9): written by program: every method's small code is its bytes' own. -/
def mz_Pm (N : mz_D) : Prop := N.2.2.2.1 ≤ 60 ∧ mz_cok (mz_iok mz_PG0 mz_FK0 mz_cl0 mz_Ts mz_ST0 N) 0 N.2.2.2.2.2.2.1 ∧ mz_hok mz_Ts N
theorem mz_ck {M : mz_D} (hcn : M.2.1.cls = mz_cn0 M.1) {ini : Bool} (hini : ini = true → M.2.1.name = "<init>") {b : Nat → Except DecodeError (Instr × Nat)} (hb : ∀ z i, b z = .ok i → decode M.2.2.1 z = .ok i) {pc : Nat} {code : List mz_i} (h : mz_ck0 M.1 b ini M.2.2.2.2.2.1 pc code = true) : mz_cok (mz_iok mz_PG0 mz_FK0 mz_cl0 mz_Ts mz_ST0 M) pc code :=
  mz_ckb_ok mz_FL0 mz_ML0 mz_KI0 mz_KL0 mz_BL0 mz_SL0 mz_NL0 mz_OL0 mz_TL0 mz_MU0 mz_tok0 hcn hini hb code pc h
theorem mz_hbw {c w : ByteArray} {sh : Nat} (h : mz_winb c.data.toList w.data.toList sh = true) : ∀ (z : Nat) (i : Instr × Nat), (if sh ≤ z then decode w (z - sh) else .error (.truncated 0)) = .ok i → decode c z = .ok i := by
  intro z i h2
  by_cases hz : sh ≤ z
  · rw [if_pos hz] at h2
    exact mz_dec_win (mz_winb_ok h) hz h2
  · rw [if_neg hz] at h2
    cases h2
theorem mz_piece {ok : Nat → mz_i → Prop} {l : List mz_i} {d t e pc pc' : Nat} (h1 : mz_cok ok pc ((l.drop d).take t)) (h2 : pc + (((l.drop d).take t).map fun q => q.2.2.1).sum = pc') (h0 : d + t = e) (h3 : mz_cok ok pc' (l.drop e)) : mz_cok ok pc (l.drop d) := mz_cok_cut (l.drop d) t pc pc' h1 h2 (by rw [List.drop_drop, h0]; exact h3)
theorem mz_none {ok : Nat → mz_i → Prop} {l : List mz_i} {d pc : Nat} (h : l.length ≤ d) : mz_cok ok pc (l.drop d) := by
  rw [List.drop_eq_nil_of_le h]
  trivial
theorem mz_hok0 {N : mz_D} (h1 : N.2.2.2.2.2.1 = []) (h2 : N.2.2.2.2.2.2.2 = []) : mz_hok mz_Ts N := ⟨by rw [h1, h2]; rfl, fun i h g hh => by rw [h1] at hh; simp at hh⟩
theorem mz_k13 : Jvm.Cond.classLink "KeptHouseLaw" 13 (mz_en 0) ∈ mz_Ts := mz_inT (c := 7) (i := 22) rfl rfl
theorem mz_k15 : Jvm.Cond.classLink "KeptHouseLaw" 15 (mz_en 1) ∈ mz_Ts := mz_inT (c := 7) (i := 23) rfl rfl
def mz_sto (M : mz_D) (g a : Nat) : Prop := (∃ x : Fin 4, decode M.2.2.1 g = .ok (.astore_n x, 1) ∧ (x : Nat) < M.2.2.2.1 ∧ a = g + 1) ∨ ∃ x : Nat, decode M.2.2.1 g = .ok (.astore x, 2) ∧ x < M.2.2.2.1 ∧ a = g + 2
theorem mz_hok2 {N : mz_D} {s1 e1 s2 e2 g1 a1 g2 a2 : Nat} (hc : N.2.1.cls = "KeptHouseLaw") (h1 : N.2.2.2.2.2.1 = [(s1, e1, g1, 13), (s2, e2, g2, 15)]) (h2 : N.2.2.2.2.2.2.2 = [(0, g1, a1), (1, g2, a2)]) (d1 : mz_sto N g1 a1) (d2 : mz_sto N g2 a2) : mz_hok mz_Ts N := by
  refine ⟨by rw [h1, h2]; rfl, fun i h g hh hg => ?_⟩
  rw [h1] at hh
  rw [h2] at hg
  rw [hc]
  match i, hh, hg with
  | 0, hh, hg => cases hh; cases hg; exact ⟨rfl, by decide, by decide, mz_k13, d1⟩
  | 1, hh, hg => cases hh; cases hg; exact ⟨rfl, by decide, by decide, mz_k15, d2⟩
  | _ + 2, hh, _ => cases hh
theorem mz_hok1 {N : mz_D} {s2 e2 g2 a2 : Nat} (hc : N.2.1.cls = "KeptHouseLaw") (h1 : N.2.2.2.2.2.1 = [(s2, e2, g2, 15)]) (h2 : N.2.2.2.2.2.2.2 = [(1, g2, a2)]) (d2 : mz_sto N g2 a2) : mz_hok mz_Ts N := by
  refine ⟨by rw [h1, h2]; rfl, fun i h g hh hg => ?_⟩
  rw [h1] at hh
  rw [h2] at hg
  rw [hc]
  match i, hh, hg with
  | 0, hh, hg => cases hh; cases hg; exact ⟨rfl, by decide, by decide, mz_k15, d2⟩
  | _ + 1, hh, _ => cases hh
theorem mz_tdk {P : mz_D → Prop} {l : List mz_D} {a n b : Nat} (h1 : ∀ x ∈ (l.drop a).take n, P x) (e : a + n = b) (h2 : ∀ x ∈ l.drop b, P x) : ∀ x ∈ l.drop a, P x := by
  intro x hx
  rw [← List.take_append_drop n (l.drop a), List.drop_drop, e] at hx
  exact (List.mem_append.mp hx).elim (h1 x) (h2 x)
theorem mzj_0 : mz_Pm (11, ⟨"KeptHouse", "<init>", "(J)V"⟩, prog_1_method_1_code, 3, none, [], mk_0, []) := ⟨Nat.le_of_ble_eq_true rfl, mz_ck (ini := true) rfl (fun _ => rfl) (fun _ _ h => h) mzk_0, mz_hok0 rfl rfl⟩
theorem mzj_1 : mz_Pm (4, ⟨"KeptHouse$Keeper", "<init>", "()V"⟩, prog_6_method_1_code, 1, none, [], mk_1, []) := ⟨Nat.le_of_ble_eq_true rfl, mz_ck (ini := true) rfl (fun _ => rfl) (fun _ _ h => h) mzk_1, mz_hok0 rfl rfl⟩
theorem mzj_2 : mz_Pm (5, ⟨"KeptHouse$Plan", "<init>", "()V"⟩, prog_7_method_1_code, 1, none, [], mk_2, []) := ⟨Nat.le_of_ble_eq_true rfl, mz_ck (ini := true) rfl (fun _ => rfl) (fun _ _ h => h) mzk_2, mz_hok0 rfl rfl⟩
theorem mzj_3 : mz_Pm (6, ⟨"KeptHouse$Program", "<init>", "()V"⟩, prog_8_method_1_code, 1, none, [], mk_3, []) := ⟨Nat.le_of_ble_eq_true rfl, mz_ck (ini := true) rfl (fun _ => rfl) (fun _ _ h => h) mzk_3, mz_hok0 rfl rfl⟩
theorem mzj_4 : mz_Pm (7, ⟨"KeptHouse$Reader", "<init>", "()V"⟩, prog_9_method_1_code, 1, none, [], mk_4, []) := ⟨Nat.le_of_ble_eq_true rfl, mz_ck (ini := true) rfl (fun _ => rfl) (fun _ _ h => h) mzk_4, mz_hok0 rfl rfl⟩
theorem mzj_5 : mz_Pm (9, ⟨"KeptHouse$Supply", "<init>", "()V"⟩, prog_11_method_1_code, 1, none, [], mk_5, []) := ⟨Nat.le_of_ble_eq_true rfl, mz_ck (ini := true) rfl (fun _ => rfl) (fun _ _ h => h) mzk_5, mz_hok0 rfl rfl⟩
theorem mzj_6 : mz_Pm (3, ⟨"KeptHouse$Climate", "<init>", "()V"⟩, prog_5_method_1_code, 1, none, [], mk_6, []) := ⟨Nat.le_of_ble_eq_true rfl, mz_ck (ini := true) rfl (fun _ => rfl) (fun _ _ h => h) mzk_6, mz_hok0 rfl rfl⟩
theorem mzj_7 : mz_Pm (10, ⟨"KeptHouse$Watch", "<init>", "()V"⟩, prog_12_method_1_code, 1, none, [], mk_7, []) := ⟨Nat.le_of_ble_eq_true rfl, mz_ck (ini := true) rfl (fun _ => rfl) (fun _ _ h => h) mzk_7, mz_hok0 rfl rfl⟩
theorem mzj_8 : mz_Pm (0, ⟨"KeptHouse$Access", "<init>", "()V"⟩, prog_2_method_1_code, 1, none, [], mk_8, []) := ⟨Nat.le_of_ble_eq_true rfl, mz_ck (ini := true) rfl (fun _ => rfl) (fun _ _ h => h) mzk_8, mz_hok0 rfl rfl⟩
theorem mzj_9 : mz_Pm (2, ⟨"KeptHouse$Care", "<init>", "()V"⟩, prog_4_method_1_code, 1, none, [], mk_9, []) := ⟨Nat.le_of_ble_eq_true rfl, mz_ck (ini := true) rfl (fun _ => rfl) (fun _ _ h => h) mzk_9, mz_hok0 rfl rfl⟩
theorem mzj_10 : mz_Pm (1, ⟨"KeptHouse$Books", "<init>", "()V"⟩, prog_3_method_1_code, 1, none, [], mk_10, []) := ⟨Nat.le_of_ble_eq_true rfl, mz_ck (ini := true) rfl (fun _ => rfl) (fun _ _ h => h) mzk_10, mz_hok0 rfl rfl⟩
theorem mzj_11 : mz_Pm (8, ⟨"KeptHouse$Store", "<init>", "()V"⟩, prog_10_method_1_code, 1, none, [], mk_11, []) := ⟨Nat.le_of_ble_eq_true rfl, mz_ck (ini := true) rfl (fun _ => rfl) (fun _ _ h => h) mzk_11, mz_hok0 rfl rfl⟩
theorem mzj_12 : mz_Pm (8, ⟨"KeptHouse$Store", "compose", "(IIZII)V"⟩, prog_10_method_11_code, 6, none, [], mk_12, []) := ⟨Nat.le_of_ble_eq_true rfl, mz_ck (ini := false) rfl (fun h => by cases h) (fun _ _ h => h) mzk_12, mz_hok0 rfl rfl⟩
theorem mzj_13 : mz_Pm (14, ⟨"java/util/Arrays", "fill", "([II)V"⟩, prog_30_method_103_code, 4, none, [], mk_13, []) := ⟨Nat.le_of_ble_eq_true rfl, mz_ck (ini := false) rfl (fun h => by cases h) (fun _ _ h => h) mzk_13, mz_hok0 rfl rfl⟩
theorem mzj_14 : mz_Pm (8, ⟨"KeptHouse$Store", "write", "([IIIJ)V"⟩, prog_10_method_2_code, 6, none, [], mk_14, []) := ⟨Nat.le_of_ble_eq_true rfl, mz_ck (ini := false) rfl (fun h => by cases h) (fun _ _ h => h) mzk_14, mz_hok0 rfl rfl⟩
theorem mzj_15 : mz_Pm (8, ⟨"KeptHouse$Store", "writeLine", "(II)Z"⟩, prog_10_method_12_code, 3, (some .boolean), [], mk_15, []) := ⟨Nat.le_of_ble_eq_true rfl, mz_ck (ini := false) rfl (fun h => by cases h) (fun _ _ h => h) mzk_15, mz_hok0 rfl rfl⟩
theorem mzj_16 : mz_Pm (8, ⟨"KeptHouse$Store", "checkSum", "([III)I"⟩, prog_10_method_6_code, 5, (some .int), [], mk_16, []) := ⟨Nat.le_of_ble_eq_true rfl, mz_ck (ini := false) rfl (fun h => by cases h) (fun _ _ h => h) mzk_16, mz_hok0 rfl rfl⟩
theorem mzj_17 : mz_Pm (4, ⟨"KeptHouse$Keeper", "beginAnew", "()V"⟩, prog_6_method_2_code, 2, none, [], mk_17, []) := ⟨Nat.le_of_ble_eq_true rfl, mz_ck (ini := false) rfl (fun h => by cases h) (fun _ _ h => h) mzk_17, mz_hok0 rfl rfl⟩
theorem mzj_18 : mz_Pm (5, ⟨"KeptHouse$Plan", "setFirst", "()V"⟩, prog_7_method_10_code, 1, none, [], mk_18, []) := ⟨Nat.le_of_ble_eq_true rfl, mz_ck (ini := false) rfl (fun h => by cases h) (fun _ _ h => h) mzk_18, mz_hok0 rfl rfl⟩
theorem mzj_19 : mz_Pm (5, ⟨"KeptHouse$Plan", "layFirst", "([I)V"⟩, prog_7_method_11_code, 2, none, [], mk_19, []) := ⟨Nat.le_of_ble_eq_true rfl, mz_ck (ini := false) rfl (fun h => by cases h) (fun _ _ h => h) mzk_19, mz_hok0 rfl rfl⟩
theorem mzj_20 : mz_Pm (5, ⟨"KeptHouse$Plan", "firstKind", "(I)I"⟩, prog_7_method_8_code, 1, (some .int), [], mk_20, []) := ⟨Nat.le_of_ble_eq_true rfl, mz_ck (ini := false) rfl (fun h => by cases h) (fun _ _ h => h) mzk_20, mz_hok0 rfl rfl⟩
theorem mzj_21 : mz_Pm (5, ⟨"KeptHouse$Plan", "sideOf", "(I)I"⟩, prog_7_method_3_code, 2, (some .int), [], mk_21, []) := ⟨Nat.le_of_ble_eq_true rfl, mz_ck (ini := false) rfl (fun h => by cases h) (fun _ _ h => h) mzk_21, mz_hok0 rfl rfl⟩
theorem mzj_22 : mz_Pm (6, ⟨"KeptHouse$Program", "setFirst", "()V"⟩, prog_8_method_2_code, 1, none, [], mk_22, []) := ⟨Nat.le_of_ble_eq_true rfl, mz_ck (ini := false) rfl (fun h => by cases h) (fun _ _ h => h) mzk_22, mz_hok0 rfl rfl⟩
theorem mzj_23 : mz_Pm (7, ⟨"KeptHouse$Reader", "read", "([II)Z"⟩, prog_9_method_2_code, 5, (some .boolean), [], mk_23, []) := ⟨Nat.le_of_ble_eq_true rfl, mz_ck (ini := false) rfl (fun h => by cases h) (fun _ _ h => h) mzk_23, mz_hok0 rfl rfl⟩
theorem mzj_24 : mz_Pm (7, ⟨"KeptHouse$Reader", "advance", "()Z"⟩, prog_9_method_6_code, 2, (some .boolean), [], mk_24, []) := ⟨Nat.le_of_ble_eq_true rfl, mz_ck (ini := false) rfl (fun h => by cases h) (fun _ _ h => h) mzk_24, mz_hok0 rfl rfl⟩
theorem mzj_25 : mz_Pm (7, ⟨"KeptHouse$Reader", "isDigit", "(I)Z"⟩, prog_9_method_4_code, 1, (some .boolean), [], mk_25, []) := ⟨Nat.le_of_ble_eq_true rfl, mz_ck (ini := false) rfl (fun h => by cases h) (fun _ _ h => h) mzk_25, mz_hok0 rfl rfl⟩
theorem mzj_26 : mz_Pm (7, ⟨"KeptHouse$Reader", "scanNumber", "()Z"⟩, prog_9_method_7_code, 1, (some .boolean), [], mk_26, []) := ⟨Nat.le_of_ble_eq_true rfl, mz_ck (ini := false) rfl (fun h => by cases h) (fun _ _ h => h) mzk_26, mz_hok0 rfl rfl⟩
theorem mzj_27 : mz_Pm (7, ⟨"KeptHouse$Reader", "fail", "(I)Z"⟩, prog_9_method_3_code, 2, (some .boolean), [], mk_27, []) := ⟨Nat.le_of_ble_eq_true rfl, mz_ck (ini := false) rfl (fun h => by cases h) (fun _ _ h => h) mzk_27, mz_hok0 rfl rfl⟩
theorem mzj_28 : mz_Pm (7, ⟨"KeptHouse$Reader", "isLetter", "(I)Z"⟩, prog_9_method_5_code, 1, (some .boolean), [], mk_28, []) := ⟨Nat.le_of_ble_eq_true rfl, mz_ck (ini := false) rfl (fun h => by cases h) (fun _ _ h => h) mzk_28, mz_hok0 rfl rfl⟩
theorem mzj_29 : mz_Pm (7, ⟨"KeptHouse$Reader", "scanWord", "()V"⟩, prog_9_method_8_code, 1, none, [], mk_29, []) := ⟨Nat.le_of_ble_eq_true rfl, mz_ck (ini := false) rfl (fun h => by cases h) (fun _ _ h => h) mzk_29, mz_hok0 rfl rfl⟩
theorem mzj_30 : mz_Pm (7, ⟨"KeptHouse$Reader", "loneName", "(C)I"⟩, prog_9_method_9_code, 3, (some .int), [], mk_30, []) := ⟨Nat.le_of_ble_eq_true rfl, mz_ck (ini := false) rfl (fun h => by cases h) (fun _ _ h => h) mzk_30, mz_hok0 rfl rfl⟩
theorem mzj_31 : mz_Pm (7, ⟨"KeptHouse$Reader", "numberedName", "(II)I"⟩, prog_9_method_10_code, 2, (some .int), [], mk_31, []) := ⟨Nat.le_of_ble_eq_true rfl, mz_ck (ini := false) rfl (fun h => by cases h) (fun _ _ h => h) mzk_31, mz_hok0 rfl rfl⟩
theorem mzj_32 : mz_Pm (7, ⟨"KeptHouse$Reader", "readTarget", "()Z"⟩, prog_9_method_12_code, 1, (some .boolean), [], mk_32, []) := ⟨Nat.le_of_ble_eq_true rfl, mz_ck (ini := false) rfl (fun h => by cases h) (fun _ _ h => h) mzk_32, mz_hok0 rfl rfl⟩
theorem mzj_33 : mz_Pm (7, ⟨"KeptHouse$Reader", "readEquals", "()Z"⟩, prog_9_method_13_code, 1, (some .boolean), [], mk_33, []) := ⟨Nat.le_of_ble_eq_true rfl, mz_ck (ini := false) rfl (fun h => by cases h) (fun _ _ h => h) mzk_33, mz_hok0 rfl rfl⟩
theorem mzj_34 : mz_Pm (7, ⟨"KeptHouse$Reader", "readOperand", "()Z"⟩, prog_9_method_14_code, 1, (some .boolean), [], mk_34, []) := ⟨Nat.le_of_ble_eq_true rfl, mz_ck (ini := false) rfl (fun h => by cases h) (fun _ _ h => h) mzk_34, mz_hok0 rfl rfl⟩
theorem mzj_35 : mz_Pm (7, ⟨"KeptHouse$Reader", "addStep", "(II)V"⟩, prog_9_method_11_code, 3, none, [], mk_35, []) := ⟨Nat.le_of_ble_eq_true rfl, mz_ck (ini := false) rfl (fun h => by cases h) (fun _ _ h => h) mzk_35, mz_hok0 rfl rfl⟩
theorem mzj_36 : mz_Pm (7, ⟨"KeptHouse$Reader", "endFactor", "()V"⟩, prog_9_method_18_code, 1, none, [], mk_36, []) := ⟨Nat.le_of_ble_eq_true rfl, mz_ck (ini := false) rfl (fun h => by cases h) (fun _ _ h => h) mzk_36, mz_hok0 rfl rfl⟩
theorem mzj_37 : mz_Pm (7, ⟨"KeptHouse$Reader", "latest", "()I"⟩, prog_9_method_17_code, 1, (some .int), [], mk_37, []) := ⟨Nat.le_of_ble_eq_true rfl, mz_ck (ini := false) rfl (fun h => by cases h) (fun _ _ h => h) mzk_37, mz_hok0 rfl rfl⟩
theorem mzj_38 : mz_Pm (7, ⟨"KeptHouse$Reader", "open", "(I)Z"⟩, prog_9_method_15_code, 2, (some .boolean), [], mk_38, []) := ⟨Nat.le_of_ble_eq_true rfl, mz_ck (ini := false) rfl (fun h => by cases h) (fun _ _ h => h) mzk_38, mz_hok0 rfl rfl⟩
theorem mzj_39 : mz_Pm (7, ⟨"KeptHouse$Reader", "await", "(I)V"⟩, prog_9_method_16_code, 2, none, [], mk_39, []) := ⟨Nat.le_of_ble_eq_true rfl, mz_ck (ini := false) rfl (fun h => by cases h) (fun _ _ h => h) mzk_39, mz_hok0 rfl rfl⟩
theorem mzj_40 : mz_Pm (7, ⟨"KeptHouse$Reader", "readOperator", "()Z"⟩, prog_9_method_19_code, 2, (some .boolean), [], mk_40, []) := ⟨Nat.le_of_ble_eq_true rfl, mz_ck (ini := false) rfl (fun h => by cases h) (fun _ _ h => h) mzk_40, mz_hok0 rfl rfl⟩
theorem mzj_41 : mz_Pm (7, ⟨"KeptHouse$Reader", "firmnessOf", "(I)I"⟩, prog_9_method_20_code, 1, (some .int), [], mk_41, []) := ⟨Nat.le_of_ble_eq_true rfl, mz_ck (ini := false) rfl (fun h => by cases h) (fun _ _ h => h) mzk_41, mz_hok0 rfl rfl⟩
theorem mzj_42 : mz_Pm (7, ⟨"KeptHouse$Reader", "reckonFrom", "(I)V"⟩, prog_9_method_21_code, 2, none, [], mk_42, []) := ⟨Nat.le_of_ble_eq_true rfl, mz_ck (ini := false) rfl (fun h => by cases h) (fun _ _ h => h) mzk_42, mz_hok0 rfl rfl⟩
theorem mzj_43 : mz_Pm (7, ⟨"KeptHouse$Reader", "endExpression", "()Z"⟩, prog_9_method_22_code, 1, (some .boolean), [], mk_43, []) := ⟨Nat.le_of_ble_eq_true rfl, mz_ck (ini := false) rfl (fun h => by cases h) (fun _ _ h => h) mzk_43, mz_hok0 rfl rfl⟩
theorem mzj_44 : mz_Pm (6, ⟨"KeptHouse$Program", "setTargets", "()V"⟩, prog_8_method_3_code, 1, none, [], mk_44, []) := ⟨Nat.le_of_ble_eq_true rfl, mz_ck (ini := false) rfl (fun h => by cases h) (fun _ _ h => h) mzk_44, mz_hok0 rfl rfl⟩
theorem mzj_45 : mz_Pm (14, ⟨"java/util/Arrays", "fill", "([IIII)V"⟩, prog_30_method_104_code, 5, none, [], mk_45, []) := ⟨Nat.le_of_ble_eq_true rfl, mz_ck (ini := false) rfl (fun h => by cases h) (fun _ _ h => h) mzk_45, mz_hok0 rfl rfl⟩
theorem mzj_46 : mz_Pm (14, ⟨"java/util/Arrays", "rangeCheck", "(III)V"⟩, prog_30_method_30_code, 3, none, [], mk_46, []) := ⟨Nat.le_of_ble_eq_true rfl, mz_ck (ini := false) rfl (fun h => by cases h) (fun _ _ h => h) mzk_46, mz_hok0 rfl rfl⟩
theorem mzj_47 : mz_Pm (9, ⟨"KeptHouse$Supply", "setFirst", "()V"⟩, prog_11_method_2_code, 2, none, [], mk_47, []) := ⟨Nat.le_of_ble_eq_true rfl, mz_ck (ini := false) rfl (fun h => by cases h) (fun _ _ h => h) mzk_47, mz_hok0 rfl rfl⟩
theorem mzj_48 : mz_Pm (3, ⟨"KeptHouse$Climate", "setFirst", "()V"⟩, prog_5_method_2_code, 1, none, [], mk_48, []) := ⟨Nat.le_of_ble_eq_true rfl, mz_ck (ini := false) rfl (fun h => by cases h) (fun _ _ h => h) mzk_48, mz_hok0 rfl rfl⟩
theorem mzj_49 : mz_Pm (14, ⟨"java/util/Arrays", "fill", "([JJ)V"⟩, prog_30_method_101_code, 5, none, [], mk_49, []) := ⟨Nat.le_of_ble_eq_true rfl, mz_ck (ini := false) rfl (fun h => by cases h) (fun _ _ h => h) mzk_49, mz_hok0 rfl rfl⟩
theorem mzj_50 : mz_Pm (10, ⟨"KeptHouse$Watch", "setFirst", "()V"⟩, prog_12_method_2_code, 2, none, [], mk_50, []) := ⟨Nat.le_of_ble_eq_true rfl, mz_ck (ini := false) rfl (fun h => by cases h) (fun _ _ h => h) mzk_50, mz_hok0 rfl rfl⟩
theorem mzj_51 : mz_Pm (0, ⟨"KeptHouse$Access", "setFirst", "()V"⟩, prog_2_method_2_code, 1, none, [], mk_51, []) := ⟨Nat.le_of_ble_eq_true rfl, mz_ck (ini := false) rfl (fun h => by cases h) (fun _ _ h => h) mzk_51, mz_hok0 rfl rfl⟩
theorem mzj_52 : mz_Pm (2, ⟨"KeptHouse$Care", "setFirst", "()V"⟩, prog_4_method_2_code, 1, none, [], mk_52, []) := ⟨Nat.le_of_ble_eq_true rfl, mz_ck (ini := false) rfl (fun h => by cases h) (fun _ _ h => h) mzk_52, mz_hok0 rfl rfl⟩
theorem mzj_53 : mz_Pm (1, ⟨"KeptHouse$Books", "setFirst", "()V"⟩, prog_3_method_3_code, 1, none, [], mk_53, []) := ⟨Nat.le_of_ble_eq_true rfl, mz_ck (ini := false) rfl (fun h => by cases h) (fun _ _ h => h) mzk_53, mz_hok0 rfl rfl⟩
theorem mzj_54 : mz_Pm (1, ⟨"KeptHouse$Books", "clearMonth", "()V"⟩, prog_3_method_4_code, 2, none, [], mk_54, []) := ⟨Nat.le_of_ble_eq_true rfl, mz_ck (ini := false) rfl (fun h => by cases h) (fun _ _ h => h) mzk_54, mz_hok0 rfl rfl⟩
theorem mzj_55 : mz_Pm (8, ⟨"KeptHouse$Store", "kindOf", "(I)I"⟩, prog_10_method_8_code, 2, (some .int), [], mk_55, []) := ⟨Nat.le_of_ble_eq_true rfl, mz_ck (ini := false) rfl (fun h => by cases h) (fun _ _ h => h) mzk_55, mz_hok0 rfl rfl⟩
theorem mzj_56 : mz_Pm (8, ⟨"KeptHouse$Store", "indexOf", "(I)I"⟩, prog_10_method_9_code, 1, (some .int), [], mk_56, []) := ⟨Nat.le_of_ble_eq_true rfl, mz_ck (ini := false) rfl (fun h => by cases h) (fun _ _ h => h) mzk_56, mz_hok0 rfl rfl⟩
theorem mzj_57 : mz_Pm (4, ⟨"KeptHouse$Keeper", "decode", "(II[II)V"⟩, prog_6_method_7_code, 5, none, [], mk_57, []) := by
  refine ⟨Nat.le_of_ble_eq_true rfl, ?_, mz_hok0 rfl rfl⟩
  show mz_cok _ 0 (mk_57.drop 0)
  refine mz_piece (e := 41) (pc' := 150) (mz_ck (ini := false) rfl (fun h => by cases h) (mz_hbw mzw_57_0) mzk_57_0) (by decide +kernel) rfl ?_
  refine mz_piece (e := 122) (pc' := 300) (mz_ck (ini := false) rfl (fun h => by cases h) (mz_hbw mzw_57_1) mzk_57_1) (by decide +kernel) rfl ?_
  exact mz_piece (e := 124) (mz_ck (ini := false) rfl (fun h => by cases h) (mz_hbw mzw_57_2) mzk_57_2) rfl rfl (mz_none (by decide +kernel))
theorem mzj_58 : mz_Pm (5, ⟨"KeptHouse$Plan", "readEdges", "(I[II[I)V"⟩, prog_7_method_38_code, 5, none, [], mk_58, []) := ⟨Nat.le_of_ble_eq_true rfl, mz_ck (ini := false) rfl (fun h => by cases h) (fun _ _ h => h) mzk_58, mz_hok0 rfl rfl⟩
theorem mzj_59 : mz_Pm (5, ⟨"KeptHouse$Plan", "readFlats", "(I[II)V"⟩, prog_7_method_41_code, 5, none, [], mk_59, []) := ⟨Nat.le_of_ble_eq_true rfl, mz_ck (ini := false) rfl (fun h => by cases h) (fun _ _ h => h) mzk_59, mz_hok0 rfl rfl⟩
theorem mzj_60 : mz_Pm (3, ⟨"KeptHouse$Climate", "readWeather", "(I[II)V"⟩, prog_5_method_30_code, 5, none, [], mk_60, []) := ⟨Nat.le_of_ble_eq_true rfl, mz_ck (ini := false) rfl (fun h => by cases h) (fun _ _ h => h) mzk_60, mz_hok0 rfl rfl⟩
theorem mzj_61 : mz_Pm (8, ⟨"KeptHouse$Store", "read", "([III)J"⟩, prog_10_method_3_code, 6, (some .long), [], mk_61, []) := ⟨Nat.le_of_ble_eq_true rfl, mz_ck (ini := false) rfl (fun h => by cases h) (fun _ _ h => h) mzk_61, mz_hok0 rfl rfl⟩
theorem mzj_62 : mz_Pm (9, ⟨"KeptHouse$Supply", "readRatings", "(I[II)V"⟩, prog_11_method_16_code, 5, none, [], mk_62, []) := ⟨Nat.le_of_ble_eq_true rfl, mz_ck (ini := false) rfl (fun h => by cases h) (fun _ _ h => h) mzk_62, mz_hok0 rfl rfl⟩
theorem mzj_63 : mz_Pm (1, ⟨"KeptHouse$Books", "readFlat", "(I[II)V"⟩, prog_3_method_14_code, 4, none, [], mk_63, []) := ⟨Nat.le_of_ble_eq_true rfl, mz_ck (ini := false) rfl (fun h => by cases h) (fun _ _ h => h) mzk_63, mz_hok0 rfl rfl⟩
theorem mzj_64 : mz_Pm (1, ⟨"KeptHouse$Books", "readCash", "([II)V"⟩, prog_3_method_19_code, 3, none, [], mk_64, []) := ⟨Nat.le_of_ble_eq_true rfl, mz_ck (ini := false) rfl (fun h => by cases h) (fun _ _ h => h) mzk_64, mz_hok0 rfl rfl⟩
theorem mzj_65 : mz_Pm (1, ⟨"KeptHouse$Books", "readPrices", "([II)V"⟩, prog_3_method_22_code, 4, none, [], mk_65, []) := ⟨Nat.le_of_ble_eq_true rfl, mz_ck (ini := false) rfl (fun h => by cases h) (fun _ _ h => h) mzk_65, mz_hok0 rfl rfl⟩
theorem mzj_66 : mz_Pm (2, ⟨"KeptHouse$Care", "readPart", "(I[II)V"⟩, prog_4_method_30_code, 4, none, [], mk_66, []) := ⟨Nat.le_of_ble_eq_true rfl, mz_ck (ini := false) rfl (fun h => by cases h) (fun _ _ h => h) mzk_66, mz_hok0 rfl rfl⟩
theorem mzj_67 : mz_Pm (2, ⟨"KeptHouse$Care", "readTicket", "(I[II)V"⟩, prog_4_method_33_code, 4, none, [], mk_67, []) := ⟨Nat.le_of_ble_eq_true rfl, mz_ck (ini := false) rfl (fun h => by cases h) (fun _ _ h => h) mzk_67, mz_hok0 rfl rfl⟩
theorem mzj_68 : mz_Pm (2, ⟨"KeptHouse$Care", "setTicket", "(IIII)V"⟩, prog_4_method_5_code, 5, none, [], mk_68, []) := ⟨Nat.le_of_ble_eq_true rfl, mz_ck (ini := false) rfl (fun h => by cases h) (fun _ _ h => h) mzk_68, mz_hok0 rfl rfl⟩
theorem mzj_69 : mz_Pm (0, ⟨"KeptHouse$Access", "hang", "(III)V"⟩, prog_2_method_5_code, 4, none, [], mk_69, []) := ⟨Nat.le_of_ble_eq_true rfl, mz_ck (ini := false) rfl (fun h => by cases h) (fun _ _ h => h) mzk_69, mz_hok0 rfl rfl⟩
theorem mzj_70 : mz_Pm (0, ⟨"KeptHouse$Access", "readCard", "(I[II)V"⟩, prog_2_method_20_code, 4, none, [], mk_70, []) := ⟨Nat.le_of_ble_eq_true rfl, mz_ck (ini := false) rfl (fun h => by cases h) (fun _ _ h => h) mzk_70, mz_hok0 rfl rfl⟩
theorem mzj_71 : mz_Pm (0, ⟨"KeptHouse$Access", "hand", "(IIIII)V"⟩, prog_2_method_6_code, 6, none, [], mk_71, []) := ⟨Nat.le_of_ble_eq_true rfl, mz_ck (ini := false) rfl (fun h => by cases h) (fun _ _ h => h) mzk_71, mz_hok0 rfl rfl⟩
theorem mzj_72 : mz_Pm (10, ⟨"KeptHouse$Watch", "setPoint", "(III)V"⟩, prog_12_method_6_code, 4, none, [], mk_72, []) := ⟨Nat.le_of_ble_eq_true rfl, mz_ck (ini := false) rfl (fun h => by cases h) (fun _ _ h => h) mzk_72, mz_hok0 rfl rfl⟩
theorem mzj_73 : mz_Pm (6, ⟨"KeptHouse$Program", "restore", "([II)V"⟩, prog_8_method_14_code, 3, none, [], mk_73, []) := ⟨Nat.le_of_ble_eq_true rfl, mz_ck (ini := false) rfl (fun h => by cases h) (fun _ _ h => h) mzk_73, mz_hok0 rfl rfl⟩
theorem mzj_74 : mz_Pm (6, ⟨"KeptHouse$Program", "findText", "([II)Z"⟩, prog_8_method_13_code, 6, (some .boolean), [], mk_74, []) := ⟨Nat.le_of_ble_eq_true rfl, mz_ck (ini := false) rfl (fun h => by cases h) (fun _ _ h => h) mzk_74, mz_hok0 rfl rfl⟩
theorem mzj_75 : mz_Pm (8, ⟨"KeptHouse$Store", "isBlank", "([III)Z"⟩, prog_10_method_5_code, 4, (some .boolean), [], mk_75, []) := ⟨Nat.le_of_ble_eq_true rfl, mz_ck (ini := false) rfl (fun h => by cases h) (fun _ _ h => h) mzk_75, mz_hok0 rfl rfl⟩
theorem mzj_76 : mz_Pm (6, ⟨"KeptHouse$Program", "exchange", "()V"⟩, prog_8_method_5_code, 2, none, [], mk_76, []) := ⟨Nat.le_of_ble_eq_true rfl, mz_ck (ini := false) rfl (fun h => by cases h) (fun _ _ h => h) mzk_76, mz_hok0 rfl rfl⟩
theorem mzj_77 : mz_Pm (5, ⟨"KeptHouse$Plan", "survey", "()V"⟩, prog_7_method_25_code, 3, none, [], mk_77, []) := ⟨Nat.le_of_ble_eq_true rfl, mz_ck (ini := false) rfl (fun h => by cases h) (fun _ _ h => h) mzk_77, mz_hok0 rfl rfl⟩
theorem mzj_78 : mz_Pm (5, ⟨"KeptHouse$Plan", "divide", "([I[I)I"⟩, prog_7_method_23_code, 5, (some .int), [], mk_78, []) := ⟨Nat.le_of_ble_eq_true rfl, mz_ck (ini := false) rfl (fun h => by cases h) (fun _ _ h => h) mzk_78, mz_hok0 rfl rfl⟩
theorem mzj_79 : mz_Pm (5, ⟨"KeptHouse$Plan", "flood", "([I[III)V"⟩, prog_7_method_24_code, 10, none, [], mk_79, []) := ⟨Nat.le_of_ble_eq_true rfl, mz_ck (ini := false) rfl (fun h => by cases h) (fun _ _ h => h) mzk_79, mz_hok0 rfl rfl⟩
theorem mzj_80 : mz_Pm (5, ⟨"KeptHouse$Plan", "neighbour", "(II)I"⟩, prog_7_method_7_code, 2, (some .int), [], mk_80, []) := ⟨Nat.le_of_ble_eq_true rfl, mz_ck (ini := false) rfl (fun h => by cases h) (fun _ _ h => h) mzk_80, mz_hok0 rfl rfl⟩
theorem mzj_81 : mz_Pm (5, ⟨"KeptHouse$Plan", "edgeAt", "(II)I"⟩, prog_7_method_6_code, 4, (some .int), [], mk_81, []) := ⟨Nat.le_of_ble_eq_true rfl, mz_ck (ini := false) rfl (fun h => by cases h) (fun _ _ h => h) mzk_81, mz_hok0 rfl rfl⟩
theorem mzj_82 : mz_Pm (5, ⟨"KeptHouse$Plan", "listCells", "()V"⟩, prog_7_method_26_code, 4, none, [], mk_82, []) := ⟨Nat.le_of_ble_eq_true rfl, mz_ck (ini := false) rfl (fun h => by cases h) (fun _ _ h => h) mzk_82, mz_hok0 rfl rfl⟩
theorem mzj_83 : mz_Pm (5, ⟨"KeptHouse$Plan", "weighInner", "(I)V"⟩, prog_7_method_27_code, 6, none, [], mk_83, []) := ⟨Nat.le_of_ble_eq_true rfl, mz_ck (ini := false) rfl (fun h => by cases h) (fun _ _ h => h) mzk_83, mz_hok0 rfl rfl⟩
theorem mzj_84 : mz_Pm (5, ⟨"KeptHouse$Plan", "cellBefore", "(I)I"⟩, prog_7_method_4_code, 1, (some .int), [], mk_84, []) := ⟨Nat.le_of_ble_eq_true rfl, mz_ck (ini := false) rfl (fun h => by cases h) (fun _ _ h => h) mzk_84, mz_hok0 rfl rfl⟩
theorem mzj_85 : mz_Pm (5, ⟨"KeptHouse$Plan", "cellBehind", "(I)I"⟩, prog_7_method_5_code, 1, (some .int), [], mk_85, []) := ⟨Nat.le_of_ble_eq_true rfl, mz_ck (ini := false) rfl (fun h => by cases h) (fun _ _ h => h) mzk_85, mz_hok0 rfl rfl⟩
theorem mzj_86 : mz_Pm (5, ⟨"KeptHouse$Plan", "weighBorder", "(II)V"⟩, prog_7_method_28_code, 6, none, [], mk_86, []) := ⟨Nat.le_of_ble_eq_true rfl, mz_ck (ini := false) rfl (fun h => by cases h) (fun _ _ h => h) mzk_86, mz_hok0 rfl rfl⟩
theorem mzj_87 : mz_Pm (5, ⟨"KeptHouse$Plan", "weighCeilings", "()V"⟩, prog_7_method_29_code, 2, none, [], mk_87, []) := ⟨Nat.le_of_ble_eq_true rfl, mz_ck (ini := false) rfl (fun h => by cases h) (fun _ _ h => h) mzk_87, mz_hok0 rfl rfl⟩
theorem mzj_88 : mz_Pm (5, ⟨"KeptHouse$Plan", "listPairs", "()V"⟩, prog_7_method_30_code, 4, none, [], mk_88, []) := ⟨Nat.le_of_ble_eq_true rfl, mz_ck (ini := false) rfl (fun h => by cases h) (fun _ _ h => h) mzk_88, mz_hok0 rfl rfl⟩
theorem mzj_89 : mz_Pm (5, ⟨"KeptHouse$Plan", "findHearts", "()V"⟩, prog_7_method_31_code, 3, none, [], mk_89, []) := ⟨Nat.le_of_ble_eq_true rfl, mz_ck (ini := false) rfl (fun h => by cases h) (fun _ _ h => h) mzk_89, mz_hok0 rfl rfl⟩
theorem mzj_90 : mz_Pm (5, ⟨"KeptHouse$Plan", "bring", "(I)V"⟩, prog_7_method_12_code, 2, none, [], mk_90, []) := ⟨Nat.le_of_ble_eq_true rfl, mz_ck (ini := false) rfl (fun h => by cases h) (fun _ _ h => h) mzk_90, mz_hok0 rfl rfl⟩
theorem mzj_91 : mz_Pm (11, ⟨"KeptHouse", "reopen", "()I"⟩, prog_1_method_62_code, 2, (some .int), [], mk_91, []) := ⟨Nat.le_of_ble_eq_true rfl, mz_ck (ini := false) rfl (fun h => by cases h) (fun _ _ h => h) mzk_91, mz_hok0 rfl rfl⟩
theorem mzj_92 : mz_Pm (8, ⟨"KeptHouse$Store", "open", "()I"⟩, prog_10_method_18_code, 8, (some .int), [], mk_92, []) := ⟨Nat.le_of_ble_eq_true rfl, mz_ck (ini := false) rfl (fun h => by cases h) (fun _ _ h => h) mzk_92, mz_hok0 rfl rfl⟩
theorem mzj_93 : mz_Pm (8, ⟨"KeptHouse$Store", "snapshotRows", "(I)I"⟩, prog_10_method_22_code, 4, (some .int), [], mk_93, []) := ⟨Nat.le_of_ble_eq_true rfl, mz_ck (ini := false) rfl (fun h => by cases h) (fun _ _ h => h) mzk_93, mz_hok0 rfl rfl⟩
theorem mzj_94 : mz_Pm (8, ⟨"KeptHouse$Store", "isWhole", "(II)Z"⟩, prog_10_method_19_code, 4, (some .boolean), [], mk_94, []) := ⟨Nat.le_of_ble_eq_true rfl, mz_ck (ini := false) rfl (fun h => by cases h) (fun _ _ h => h) mzk_94, mz_hok0 rfl rfl⟩
theorem mzj_95 : mz_Pm (8, ⟨"KeptHouse$Store", "isLast", "(II)Z"⟩, prog_10_method_21_code, 3, (some .boolean), [], mk_95, []) := ⟨Nat.le_of_ble_eq_true rfl, mz_ck (ini := false) rfl (fun h => by cases h) (fun _ _ h => h) mzk_95, mz_hok0 rfl rfl⟩
theorem mzj_96 : mz_Pm (8, ⟨"KeptHouse$Store", "ageOf", "(II)I"⟩, prog_10_method_13_code, 3, (some .int), [], mk_96, []) := ⟨Nat.le_of_ble_eq_true rfl, mz_ck (ini := false) rfl (fun h => by cases h) (fun _ _ h => h) mzk_96, mz_hok0 rfl rfl⟩
theorem mzj_97 : mz_Pm (8, ⟨"KeptHouse$Store", "isKeyRow", "(III)Z"⟩, prog_10_method_20_code, 5, (some .boolean), [], mk_97, []) := ⟨Nat.le_of_ble_eq_true rfl, mz_ck (ini := false) rfl (fun h => by cases h) (fun _ _ h => h) mzk_97, mz_hok0 rfl rfl⟩
theorem mzj_98 : mz_Pm (8, ⟨"KeptHouse$Store", "keyOf", "(II)I"⟩, prog_10_method_7_code, 3, (some .int), [], mk_98, []) := ⟨Nat.le_of_ble_eq_true rfl, mz_ck (ini := false) rfl (fun h => by cases h) (fun _ _ h => h) mzk_98, mz_hok0 rfl rfl⟩
theorem mzj_99 : mz_Pm (8, ⟨"KeptHouse$Store", "lastCounting", "(II)I"⟩, prog_10_method_23_code, 5, (some .int), [], mk_99, []) := ⟨Nat.le_of_ble_eq_true rfl, mz_ck (ini := false) rfl (fun h => by cases h) (fun _ _ h => h) mzk_99, mz_hok0 rfl rfl⟩
theorem mzj_100 : mz_Pm (11, ⟨"KeptHouse", "isDown", "()Z"⟩, prog_1_method_63_code, 1, (some .boolean), [], mk_100, []) := ⟨Nat.le_of_ble_eq_true rfl, mz_ck (ini := false) rfl (fun h => by cases h) (fun _ _ h => h) mzk_100, mz_hok0 rfl rfl⟩
theorem mzj_101 : mz_Pm (13, ⟨"KeptHouseLaw", "cell", "([II)I"⟩, method_2_code, 2, (some .int), [], mk_101, []) := ⟨Nat.le_of_ble_eq_true rfl, mz_ck (ini := false) rfl (fun h => by cases h) (fun _ _ h => h) mzk_101, mz_hok0 rfl rfl⟩
theorem mzj_102 : mz_Pm (13, ⟨"KeptHouseLaw", "take", "(LKeptHouse;I[J)I"⟩, method_3_code, 4, (some .int), [(0, 9, 12, 13), (0, 9, 15, 15)], mk_102, [(0, 12, 13), (1, 15, 16)]) := ⟨Nat.le_of_ble_eq_true rfl, mz_ck (ini := false) rfl (fun h => by cases h) (fun _ _ h => h) mzk_102, mz_hok2 rfl rfl rfl (Or.inl ⟨3, by decide +kernel, by decide, rfl⟩) (Or.inl ⟨3, by decide +kernel, by decide, rfl⟩)⟩
theorem mzj_103 : mz_Pm (11, ⟨"KeptHouse", "take", "(I)I"⟩, prog_1_method_7_code, 2, (some .int), [], mk_103, []) := ⟨Nat.le_of_ble_eq_true rfl, mz_ck (ini := false) rfl (fun h => by cases h) (fun _ _ h => h) mzk_103, mz_hok0 rfl rfl⟩
theorem mzj_104 : mz_Pm (11, ⟨"KeptHouse", "mustBeUp", "()V"⟩, prog_1_method_2_code, 1, none, [], mk_104, []) := ⟨Nat.le_of_ble_eq_true rfl, mz_ck (ini := false) rfl (fun h => by cases h) (fun _ _ h => h) mzk_104, mz_hok0 rfl rfl⟩
theorem mzj_105 : mz_Pm (11, ⟨"KeptHouse", "mustBeIn", "(III)V"⟩, prog_1_method_3_code, 3, none, [], mk_105, []) := ⟨Nat.le_of_ble_eq_true rfl, mz_ck (ini := false) rfl (fun h => by cases h) (fun _ _ h => h) mzk_105, mz_hok0 rfl rfl⟩
theorem mzj_106 : mz_Pm (13, ⟨"KeptHouseLaw", "edit", "(LKeptHouse;IIIIII[J)I"⟩, method_4_code, 9, (some .int), [(0, 18, 21, 13), (0, 18, 25, 15)], mk_106, [(0, 21, 23), (1, 25, 27)]) := ⟨Nat.le_of_ble_eq_true rfl, mz_ck (ini := false) rfl (fun h => by cases h) (fun _ _ h => h) mzk_106, mz_hok2 rfl rfl rfl (Or.inr ⟨8, by decide +kernel, by decide, rfl⟩) (Or.inr ⟨8, by decide +kernel, by decide, rfl⟩)⟩
theorem mzj_107 : mz_Pm (11, ⟨"KeptHouse", "edit", "(IIIIII)I"⟩, prog_1_method_8_code, 9, (some .int), [], mk_107, []) := ⟨Nat.le_of_ble_eq_true rfl, mz_ck (ini := false) rfl (fun h => by cases h) (fun _ _ h => h) mzk_107, mz_hok0 rfl rfl⟩
theorem mzj_108 : mz_Pm (5, ⟨"KeptHouse$Plan", "drawEdge", "(IIII)Z"⟩, prog_7_method_13_code, 6, (some .boolean), [], mk_108, []) := ⟨Nat.le_of_ble_eq_true rfl, mz_ck (ini := false) rfl (fun h => by cases h) (fun _ _ h => h) mzk_108, mz_hok0 rfl rfl⟩
theorem mzj_109 : mz_Pm (5, ⟨"KeptHouse$Plan", "mayBe", "(II)Z"⟩, prog_7_method_9_code, 2, (some .boolean), [], mk_109, []) := ⟨Nat.le_of_ble_eq_true rfl, mz_ck (ini := false) rfl (fun h => by cases h) (fun _ _ h => h) mzk_109, mz_hok0 rfl rfl⟩
