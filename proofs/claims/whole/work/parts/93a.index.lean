/-! THE SMALL MACHINE (8b): String.indexOf(int) over the three texts of the Reader. -/
def js_y1 : MethodName := ⟨"java/lang/String", "indexOf", "(I)I"⟩
def js_y2 : MethodName := ⟨"java/lang/String", "indexOf", "(II)I"⟩
def js_yL : MethodName := ⟨"java/lang/String", "isLatin1", "()Z"⟩
def js_yN : MethodName := ⟨"java/lang/String", "length", "()I"⟩
def js_yC : MethodName := ⟨"java/lang/String", "coder", "()B"⟩
def js_yI : MethodName := ⟨"java/lang/StringLatin1", "indexOf", "([BIII)I"⟩
def js_yE : MethodName := ⟨"java/lang/StringLatin1", "canEncode", "(I)Z"⟩
def js_yH : MethodName := ⟨"java/lang/StringLatin1", "indexOfChar", "([BIII)I"⟩
/-- the words that the call stands on -/
def js_ws : List Jvm.Cond := [.methodLink "KeptHouse$Reader" 103 js_y1, .instanceMethod js_y1, .selects "java/lang/String" js_y1 js_y1, .code js_y1 prog_24_method_79_code 2 (some .int), .methodLink "java/lang/String" 633 js_y2, .instanceMethod js_y2, .selects "java/lang/String" js_y2 js_y2, .code js_y2 prog_24_method_80_code 3 (some .int), .methodLink "java/lang/String" 492 js_yL, .instanceMethod js_yL, .selects "java/lang/String" js_yL js_yL, .code js_yL prog_24_method_154_code 1 (some .boolean), .methodLink "java/lang/String" 505 js_yN, .instanceMethod js_yN, .selects "java/lang/String" js_yN js_yN, .code js_yN prog_24_method_54_code 1 (some .int), .methodLink "java/lang/String" 335 js_yC, .instanceMethod js_yC, .selects "java/lang/String" js_yC js_yC, .code js_yC prog_24_method_152_code 1 (some .byte), .methodLink "java/lang/String" 637 js_yI, .static js_yI, .code js_yI prog_26_method_22_code 4 (some .int), .methodLink "java/lang/StringLatin1" 88 js_yE, .static js_yE, .code js_yE prog_26_method_4_code 1 (some .boolean), .methodLink "java/lang/StringLatin1" 95 js_yH, .static js_yH, .code js_yH prog_26_method_23_code 6 (some .int), .fieldLink "java/lang/String" 38 "java/lang/String" "COMPACT_STRINGS" "Z", .fieldLink "java/lang/String" 9 "java/lang/String" "value" "[B", .fieldLink "java/lang/String" 15 "java/lang/String" "coder" "B", .methodLink "java/lang/StringLatin1" 92 Lib.Math.max.name, .static Lib.Math.max.name, .code Lib.Math.max.name Lib.Math.max.code 2 (some .int), .methodLink "java/lang/StringLatin1" 38 Lib.Math.min.name, .static Lib.Math.min.name, .code Lib.Math.min.name Lib.Math.min.code 2 (some .int), .initialized "java/lang/StringLatin1", .initialized "java/lang/Math"]
theorem js_m {i : Nat} {w : Jvm.Cond} (h : js_ws[i]? = some w) : w ∈ js_ws := List.mem_of_getElem? h
theorem js_good : ∀ w ∈ js_ws, (w.onTables && w.keeps) = true := by decide +kernel
theorem jd_y1_0 : decode prog_24_method_79_code 0 = .ok (.aload_n 0, 1) := by decide +kernel
theorem jd_y1_1 : decode prog_24_method_79_code 1 = .ok (.iload_n 1, 1) := by decide +kernel
theorem jd_y1_2 : decode prog_24_method_79_code 2 = .ok (.iconst 0, 1) := by decide +kernel
theorem jd_y1_3 : decode prog_24_method_79_code 3 = .ok (.invokevirtual 633, 3) := by decide +kernel
theorem jd_y1_6 : decode prog_24_method_79_code 6 = .ok (.ireturn, 1) := by decide +kernel
theorem jd_y2_0 : decode prog_24_method_80_code 0 = .ok (.aload_n 0, 1) := by decide +kernel
theorem jd_y2_1 : decode prog_24_method_80_code 1 = .ok (.invokevirtual 492, 3) := by decide +kernel
theorem jd_y2_4 : decode prog_24_method_80_code 4 = .ok (.ifCond .eq 19, 3) := by decide +kernel
theorem jd_y2_7 : decode prog_24_method_80_code 7 = .ok (.aload_n 0, 1) := by decide +kernel
theorem jd_y2_8 : decode prog_24_method_80_code 8 = .ok (.getfield 9, 3) := by decide +kernel
theorem jd_y2_11 : decode prog_24_method_80_code 11 = .ok (.iload_n 1, 1) := by decide +kernel
theorem jd_y2_12 : decode prog_24_method_80_code 12 = .ok (.iload_n 2, 1) := by decide +kernel
theorem jd_y2_13 : decode prog_24_method_80_code 13 = .ok (.aload_n 0, 1) := by decide +kernel
theorem jd_y2_14 : decode prog_24_method_80_code 14 = .ok (.invokevirtual 505, 3) := by decide +kernel
theorem jd_y2_17 : decode prog_24_method_80_code 17 = .ok (.invokestatic 637, 3) := by decide +kernel
theorem jd_y2_20 : decode prog_24_method_80_code 20 = .ok (.goto 16, 3) := by decide +kernel
theorem jd_y2_36 : decode prog_24_method_80_code 36 = .ok (.ireturn, 1) := by decide +kernel
theorem jd_yL_0 : decode prog_24_method_154_code 0 = .ok (.getstatic 38, 3) := by decide +kernel
theorem jd_yL_3 : decode prog_24_method_154_code 3 = .ok (.ifCond .eq 14, 3) := by decide +kernel
theorem jd_yL_6 : decode prog_24_method_154_code 6 = .ok (.aload_n 0, 1) := by decide +kernel
theorem jd_yL_7 : decode prog_24_method_154_code 7 = .ok (.getfield 15, 3) := by decide +kernel
theorem jd_yL_10 : decode prog_24_method_154_code 10 = .ok (.ifCond .ne 7, 3) := by decide +kernel
theorem jd_yL_13 : decode prog_24_method_154_code 13 = .ok (.iconst 1, 1) := by decide +kernel
theorem jd_yL_14 : decode prog_24_method_154_code 14 = .ok (.goto 4, 3) := by decide +kernel
theorem jd_yL_18 : decode prog_24_method_154_code 18 = .ok (.ireturn, 1) := by decide +kernel
theorem jd_yC_0 : decode prog_24_method_152_code 0 = .ok (.getstatic 38, 3) := by decide +kernel
theorem jd_yC_3 : decode prog_24_method_152_code 3 = .ok (.ifCond .eq 10, 3) := by decide +kernel
theorem jd_yC_6 : decode prog_24_method_152_code 6 = .ok (.aload_n 0, 1) := by decide +kernel
theorem jd_yC_7 : decode prog_24_method_152_code 7 = .ok (.getfield 15, 3) := by decide +kernel
theorem jd_yC_10 : decode prog_24_method_152_code 10 = .ok (.goto 4, 3) := by decide +kernel
theorem jd_yC_14 : decode prog_24_method_152_code 14 = .ok (.ireturn, 1) := by decide +kernel
theorem jd_yN_0 : decode prog_24_method_54_code 0 = .ok (.aload_n 0, 1) := by decide +kernel
theorem jd_yN_1 : decode prog_24_method_54_code 1 = .ok (.getfield 9, 3) := by decide +kernel
theorem jd_yN_4 : decode prog_24_method_54_code 4 = .ok (.arraylength, 1) := by decide +kernel
theorem jd_yN_5 : decode prog_24_method_54_code 5 = .ok (.aload_n 0, 1) := by decide +kernel
theorem jd_yN_6 : decode prog_24_method_54_code 6 = .ok (.invokevirtual 335, 3) := by decide +kernel
theorem jd_yN_9 : decode prog_24_method_54_code 9 = .ok (.ishr, 1) := by decide +kernel
theorem jd_yN_10 : decode prog_24_method_54_code 10 = .ok (.ireturn, 1) := by decide +kernel
theorem jd_yI_0 : decode prog_26_method_22_code 0 = .ok (.iload_n 1, 1) := by decide +kernel
theorem jd_yI_1 : decode prog_26_method_22_code 1 = .ok (.invokestatic 88, 3) := by decide +kernel
theorem jd_yI_4 : decode prog_26_method_22_code 4 = .ok (.ifCond .ne 5, 3) := by decide +kernel
theorem jd_yI_7 : decode prog_26_method_22_code 7 = .ok (.iconst (-1), 1) := by decide +kernel
theorem jd_yI_8 : decode prog_26_method_22_code 8 = .ok (.ireturn, 1) := by decide +kernel
theorem jd_yI_9 : decode prog_26_method_22_code 9 = .ok (.iload_n 2, 1) := by decide +kernel
theorem jd_yI_10 : decode prog_26_method_22_code 10 = .ok (.iconst 0, 1) := by decide +kernel
theorem jd_yI_11 : decode prog_26_method_22_code 11 = .ok (.invokestatic 92, 3) := by decide +kernel
theorem jd_yI_14 : decode prog_26_method_22_code 14 = .ok (.istore_n 2, 1) := by decide +kernel
theorem jd_yI_15 : decode prog_26_method_22_code 15 = .ok (.iload_n 3, 1) := by decide +kernel
theorem jd_yI_16 : decode prog_26_method_22_code 16 = .ok (.aload_n 0, 1) := by decide +kernel
theorem jd_yI_17 : decode prog_26_method_22_code 17 = .ok (.arraylength, 1) := by decide +kernel
theorem jd_yI_18 : decode prog_26_method_22_code 18 = .ok (.invokestatic 38, 3) := by decide +kernel
theorem jd_yI_21 : decode prog_26_method_22_code 21 = .ok (.istore_n 3, 1) := by decide +kernel
theorem jd_yI_22 : decode prog_26_method_22_code 22 = .ok (.iload_n 2, 1) := by decide +kernel
theorem jd_yI_23 : decode prog_26_method_22_code 23 = .ok (.iload_n 3, 1) := by decide +kernel
theorem jd_yI_24 : decode prog_26_method_22_code 24 = .ok (.if_icmp .lt 5, 3) := by decide +kernel
theorem jd_yI_29 : decode prog_26_method_22_code 29 = .ok (.aload_n 0, 1) := by decide +kernel
theorem jd_yI_30 : decode prog_26_method_22_code 30 = .ok (.iload_n 1, 1) := by decide +kernel
theorem jd_yI_31 : decode prog_26_method_22_code 31 = .ok (.iload_n 2, 1) := by decide +kernel
theorem jd_yI_32 : decode prog_26_method_22_code 32 = .ok (.iload_n 3, 1) := by decide +kernel
theorem jd_yI_33 : decode prog_26_method_22_code 33 = .ok (.invokestatic 95, 3) := by decide +kernel
theorem jd_yI_36 : decode prog_26_method_22_code 36 = .ok (.ireturn, 1) := by decide +kernel
theorem jd_yE_0 : decode prog_26_method_4_code 0 = .ok (.iload_n 0, 1) := by decide +kernel
theorem jd_yE_1 : decode prog_26_method_4_code 1 = .ok (.ifCond .lt 14, 3) := by decide +kernel
theorem jd_yE_4 : decode prog_26_method_4_code 4 = .ok (.iload_n 0, 1) := by decide +kernel
theorem jd_yE_5 : decode prog_26_method_4_code 5 = .ok (.sipush 255, 3) := by decide +kernel
theorem jd_yE_8 : decode prog_26_method_4_code 8 = .ok (.if_icmp .gt 7, 3) := by decide +kernel
theorem jd_yE_11 : decode prog_26_method_4_code 11 = .ok (.iconst 1, 1) := by decide +kernel
theorem jd_yE_12 : decode prog_26_method_4_code 12 = .ok (.goto 4, 3) := by decide +kernel
theorem jd_yE_15 : decode prog_26_method_4_code 15 = .ok (.iconst 0, 1) := by decide +kernel
theorem jd_yE_16 : decode prog_26_method_4_code 16 = .ok (.ireturn, 1) := by decide +kernel
theorem jd_yH_0 : decode prog_26_method_23_code 0 = .ok (.iload_n 1, 1) := by decide +kernel
theorem jd_yH_1 : decode prog_26_method_23_code 1 = .ok (.i2b, 1) := by decide +kernel
theorem jd_yH_2 : decode prog_26_method_23_code 2 = .ok (.istore 4, 2) := by decide +kernel
theorem jd_yH_4 : decode prog_26_method_23_code 4 = .ok (.iload_n 2, 1) := by decide +kernel
theorem jd_yH_5 : decode prog_26_method_23_code 5 = .ok (.istore 5, 2) := by decide +kernel
theorem jd_yH_7 : decode prog_26_method_23_code 7 = .ok (.iload 5, 2) := by decide +kernel
theorem jd_yH_9 : decode prog_26_method_23_code 9 = .ok (.iload_n 3, 1) := by decide +kernel
theorem jd_yH_10 : decode prog_26_method_23_code 10 = .ok (.if_icmp .ge 21, 3) := by decide +kernel
theorem jd_yH_13 : decode prog_26_method_23_code 13 = .ok (.aload_n 0, 1) := by decide +kernel
theorem jd_yH_14 : decode prog_26_method_23_code 14 = .ok (.iload 5, 2) := by decide +kernel
theorem jd_yH_16 : decode prog_26_method_23_code 16 = .ok (.baload, 1) := by decide +kernel
theorem jd_yH_17 : decode prog_26_method_23_code 17 = .ok (.iload 4, 2) := by decide +kernel
theorem jd_yH_19 : decode prog_26_method_23_code 19 = .ok (.if_icmp .ne 6, 3) := by decide +kernel
theorem jd_yH_22 : decode prog_26_method_23_code 22 = .ok (.iload 5, 2) := by decide +kernel
theorem jd_yH_24 : decode prog_26_method_23_code 24 = .ok (.ireturn, 1) := by decide +kernel
theorem jd_yH_25 : decode prog_26_method_23_code 25 = .ok (.iinc 5 1, 3) := by decide +kernel
theorem jd_yH_28 : decode prog_26_method_23_code 28 = .ok (.goto (-21), 3) := by decide +kernel
theorem jd_yH_31 : decode prog_26_method_23_code 31 = .ok (.iconst (-1), 1) := by decide +kernel
theorem jd_yH_32 : decode prog_26_method_23_code 32 = .ok (.ireturn, 1) := by decide +kernel
def js_len : List Nat := [11, 6, 7]
def js_byt : List (List Int32) := [[61, 59, 40, 41, 43, 45, 42, 60, 62, 63, 58], [108, 98, 112, 118, 114, 120], [102, 111, 104, 116, 107, 101, 109]]
def js_nat : List (List Nat) := [[61, 59, 40, 41, 43, 45, 42, 60, 62, 63, 58], [108, 98, 112, 118, 114, 120], [102, 111, 104, 116, 107, 101, 109]]
/-- the first place of t -/
def js_fi (t : Int32) : List Int32 → Nat → Int32
  | [], _ => -1
  | x :: r, k => if x = t then Int32.ofNat k else js_fi t r (k + 1)
def js_can (c : Int32) : Int32 := if 0 ≤ c ∧ c ≤ 255 then 1 else 0
def js_an (i : Nat) (c : Int32) : Int32 := if js_can c = 0 then -1 else js_fi c.toInt8.toInt32 (js_byt.getD i []) 0
theorem js_shr : ∀ n, n < 128 → Int32.ofNat n >>> ((0 : Int32) &&& 31) = Int32.ofNat n := by decide +kernel
theorem js_nle : ∀ n, n < 12 → ∀ k, k < n → ¬ Int32.ofNat n ≤ Int32.ofNat k := by decide +kernel
theorem js_vin : ∀ n, n < 12 → ∀ k, k < n → ¬ (Int32.ofNat k < 0 ∨ n ≤ (Int32.ofNat k).toNatClampNeg) := by decide +kernel
theorem js_cl : ∀ k, k < 12 → (Int32.ofNat k).toNatClampNeg = k := by decide +kernel
theorem js_inc : ∀ k, k < 12 → Int32.ofNat k + Int32.ofInt 1 = Int32.ofNat (k + 1) := by decide +kernel
theorem js_lb : ∀ i, i < 3 → js_len.getD i 0 < 12 ∧ (0 : Int32) < Int32.ofNat (js_len.getD i 0) ∧ (js_byt.getD i []).length = js_len.getD i 0 := by decide +kernel
theorem js_ix0 {c : Int32} : ∀ (l : List Nat) (k : Int32), (∀ x ∈ l, c ≠ Int32.ofNat x) → mz_ix c l k = -1 := by
  intro l
  induction l with
  | nil => intro k _; rfl
  | cons x r ih =>
    intro k h
    rw [mz_ix, if_neg (h x List.mem_cons_self)]
    exact ih _ (fun y hy => h y (List.mem_cons_of_mem _ hy))
theorem js_eq1 : ∀ i, i < 3 → ∀ n, n < 256 → js_an i (Int32.ofNat n) = mz_ix (Int32.ofNat n) (js_nat.getD i []) 0 := by decide +kernel
theorem js_eq2 : ∀ i, i < 3 → ∀ x ∈ js_nat.getD i [], 0 ≤ Int32.ofNat x ∧ Int32.ofNat x ≤ 255 := by decide +kernel
theorem js_255 {c : Int32} (h : c ≤ 255) : ¬ nI 256 ≤ c := fun q => absurd (Int32.le_trans q h) (by decide)
theorem js_eq {i : Nat} (hi : i < 3) (c : Int32) : js_an i c = mz_ix c (js_nat.getD i []) 0 := by
  by_cases h : 0 ≤ c ∧ c ≤ 255
  · obtain ⟨n, h1, h2, -⟩ := pk_mu (L := 256) (Int32.not_lt.mpr h.1) (js_255 h.2) (by decide)
    rw [h2]
    exact js_eq1 i hi n h1
  · rw [js_ix0 _ _ (fun x hx e => h (by rw [e]; exact js_eq2 i hi x hx))]
    unfold js_an js_can
    rw [if_neg h]
    rfl
/-- the world of the three texts -/
def js_Z (b : Nat) (ad adV : Nat → Nat) (s : State) : Prop := (∀ w ∈ js_ws, ∀ a, w.before a s = true) ∧ vk_S 3 js_len js_byt (fun i => ad (2000 + i)) adV (fun q => b ≤ q) s s.heap ∧ va_Z "java/lang/String" "COMPACT_STRINGS" "Z" (.int 1) (fun q => b ≤ q) s s.heap
theorem js_Z_on {b : Nat} {ad adV : Nat → Nat} {s T : State} {g : JFrame} {mk : MethodId} {a : Array Value} (h : js_Z b ad adV s) (hW : s.WarmedH T.vm) (hold : ∀ q, q < s.heap.size → ¬ b ≤ q → T.heap[q]? = s.heap[q]?) : js_Z b ad adV (T.calling g mk a) := by
  have hW' : s.WarmedH (T.calling g mk a).vm := hW
  have hh : (T.calling g mk a).heap = T.heap := rfl
  refine ⟨fun w hw a' => word_at hW' (Or.inl (js_good w hw)) (h.1 w hw a'), ?_, ?_⟩
  · rw [hh]; exact (h.2.1.moved hW'.alike).kept hold
  · rw [hh]; exact (h.2.2.moved hW'.alike).kept hold
def js_Po (v : Int32) (H : Heap) (o : Option Value ⊕ Addr) (H' : Heap) (k n : Nat) : Prop := o = .inl (some (.int v)) ∧ H' = H ∧ k = 0 ∧ n = 0
/-- a method that changes nothing, and its answer -/
def js_ok (l : Launch) (b : Nat) (ad adV : Nat → Nat) (y : MethodName) (bytes : ByteArray) (maxL : Nat) (ret : Option FieldType) (fr lo : Nat) (xs : List Value) (v : Int32) : Prop :=
  ∀ (p : Program) (e : Env) (R : Room) (s : State) (m : MethodId) (below : List Frame) (meth : Method) (c : Code), p.tables.exec = Jvm.exec → mz_Mf s y bytes maxL ret [] m meth c → js_Z b ad adV s → fr ≤ R.frames → lo ≤ R.locals →
    W p l e R s m xs.toArray below meth c s.heap [] 0 0 (mz_End below s (fun _ => False) (js_Po v s.heap)) (entryFrame m xs.toArray maxL)
theorem js_S0 {A : Nat → Prop} {H : Heap} : va_S A H H [] := ⟨Nat.le_refl _, fun _ _ _ => rfl, fun q hq => absurd hq List.not_mem_nil⟩
section Js1
variable {p : Program} {l : Launch} {e : Env} {R : Room} {s : State} {m : MethodId} {args : Array Value} {below : List Frame} {meth : Method} {c : Code} {H : Heap} {locs : List Loc} {cells slots : Nat} {Q : State → Prop} {cc : ByteArray} {pc len : Nat} {ls : Array Slot} {y : MethodName} {bytes : ByteArray} {maxL : Nat} {ret : Option FieldType} {mk : MethodId} {methk : Method} {ck : Code} {rest : List Value} {b fr lo : Nat} {ad adV : Nat → Nat} {xs : List Value} {v : Int32}
theorem js_in {n : Nat} (hn : (lg_sl xs).length ≤ n) (k : ∀ ls, lv_has ls n (lv_args 0 xs) → W p l e R s m args below meth c H locs cells slots Q (F0 m 0 ls [])) : W p l e R s m args below meth c H locs cells slots Q (entryFrame m xs.toArray n) := by
  rw [lg_entry_eq]
  exact k _ (lv_entry xs hn)
theorem js_ret (hx : p.tables.exec = Jvm.exec) (hb : c.code = cc) {ty : FieldType} (hr : meth.sig.returnType = some ty) (hn : narrow ty (.int v) = .int v) (hlocks : meth.locks = false) (hdg : decode cc pc = .ok (.ireturn, 1)) : W p l e R s m args below meth c s.heap [] 0 0 (mz_End below s (fun _ => False) (js_Po v s.heap)) (F0 m pc ls [.int v]) :=
  mz_iret hx hb hr hn hlocks (fun q hq => absurd hq List.not_mem_nil) ⟨rfl, rfl, rfl, rfl⟩ hdg
theorem js_Cal (hZ : js_Z b ad adV s) (hj : js_ok l b ad adV y bytes maxL ret fr lo xs v) (hx : p.tables.exec = Jvm.exec) (hold : ∀ q, q < s.heap.size → ¬ b ≤ q → H[q]? = s.heap[q]?) (k : W p l e R s m args below meth c H locs cells slots Q (F0 m (pc + len) ls (.int v :: rest))) : mz_Cal p l e R { frames := fr, locals := lo, cells := 0, slots := 0 } s m args below meth c H locs cells slots Q y bytes maxL ret [] mk methk ck (fun _ => False) (js_Po v H) xs.toArray pc len ls rest := by
  refine ⟨fun T g hT hW FT => ?_, fun v' H' L k' n' hp hL => ?_, fun x H' L k' n' hp hL => ?_⟩
  · have hZ' : js_Z b ad adV (T.calling g mk xs.toArray) := js_Z_on hZ hW (by rw [hT]; exact hold)
    have h := hj p e { frames := fr, locals := lo, cells := 0, slots := 0 } (T.calling g mk xs.toArray) mk (.java g :: below) methk ck hx FT hZ' (Nat.le_refl _) (Nat.le_refl _)
    have h2 : (T.calling g mk xs.toArray).heap = H := hT
    rw [h2] at h
    rw [hT]
    exact h
  · obtain ⟨h1, h2, h3, h4⟩ := hp
    cases h1
    subst h2 h3 h4
    have hnil : L = [] := List.eq_nil_iff_forall_not_mem.mpr (fun q hq => hL q hq)
    subst hnil
    rw [List.append_nil]
    exact k
  · cases hp.1
theorem js_cV (hx : p.tables.exec = Jvm.exec) (hb : c.code = cc) {own : String} {idx i : Nat} (hown : s.vm.findClass own = some m.cls) (hZ : js_Z b ad adV s) (hi : i < 3) (hj : js_ok l b ad adV y bytes maxL ret fr lo (.ref (ad (2000 + i)) :: xs) v) (w1 : Jvm.Cond.methodLink own idx y ∈ js_ws) (w2 : Jvm.Cond.instanceMethod y ∈ js_ws) (w3 : Jvm.Cond.selects "java/lang/String" y y ∈ js_ws) (w4 : Jvm.Cond.code y bytes maxL ret ∈ js_ws) (hy : y.cls ≠ "java/lang/invoke/MethodHandle" ∧ y.cls ≠ "java/lang/invoke/VarHandle") (hpl : plainFor y = true) (hsize : ls.size = c.maxLocals) (hS : va_S (fun q => b ≤ q) s.heap H locs) (hlen : ∀ sig, parseMethodDescriptor y.desc = some sig → xs.length = sig.parameters.length) (hdg : decode cc pc = .ok (.invokevirtual idx, 3))
    (hR : fr + 1 ≤ R.frames ∧ (rest.map fun v => v.category).sum + (maxL + 11) + lo ≤ R.locals ∧ cells ≤ R.cells ∧ slots ≤ R.slots) (k : W p l e R s m args below meth c H locs cells slots Q (F0 m (pc + 3) ls (.int v :: rest))) : W p l e R s m args below meth c H locs cells slots Q (F0 m pc ls (xs.reverse ++ .ref (ad (2000 + i)) :: rest)) := by
  obtain ⟨mk, methk, ck, F⟩ := mz_Mf_code (hZ.1 _ w4 #[])
  obtain ⟨cell, g1, g2, g3⟩ := vk_recv hZ.2.1 hi hS
  exact mz_callV (R' := { frames := fr, locals := lo, cells := 0, slots := 0 }) (mk := mk) (methk := methk) (ck := ck) hx hb hown (hZ.1 _ w1 _) (hZ.1 _ w2 _) (hZ.1 _ w3 _) hy F hpl hsize g1 g2 g3 hlen hdg ⟨hR.1, hR.2.1, hR.2.2.1, hR.2.2.2⟩ (js_Cal hZ hj hx hS.2.1 k)
theorem js_cS (hx : p.tables.exec = Jvm.exec) (hb : c.code = cc) {own : String} {idx : Nat} (hown : s.vm.findClass own = some m.cls) (hZ : js_Z b ad adV s) (hj : js_ok l b ad adV y bytes maxL ret fr lo xs v) (w1 : Jvm.Cond.methodLink own idx y ∈ js_ws) (w2 : Jvm.Cond.static y ∈ js_ws) (w3 : Jvm.Cond.initialized y.cls ∈ js_ws) (w4 : Jvm.Cond.code y bytes maxL ret ∈ js_ws) (hy : y.cls ≠ "java/lang/invoke/MethodHandle" ∧ y.cls ≠ "java/lang/invoke/VarHandle") (hpl : plainFor y = true) (hsize : ls.size = c.maxLocals) (hS : va_S (fun q => b ≤ q) s.heap H locs) (hlen : ∀ sig, parseMethodDescriptor y.desc = some sig → xs.length = sig.parameters.length) (hdg : decode cc pc = .ok (.invokestatic idx, 3))
    (hR : fr + 1 ≤ R.frames ∧ (rest.map fun v => v.category).sum + (maxL + 11) + lo ≤ R.locals ∧ cells ≤ R.cells ∧ slots ≤ R.slots) (k : W p l e R s m args below meth c H locs cells slots Q (F0 m (pc + 3) ls (.int v :: rest))) : W p l e R s m args below meth c H locs cells slots Q (F0 m pc ls (xs.reverse ++ rest)) := by
  obtain ⟨mk, methk, ck, F⟩ := mz_Mf_code (hZ.1 _ w4 #[])
  exact mz_callS (R' := { frames := fr, locals := lo, cells := 0, slots := 0 }) (mk := mk) (methk := methk) (ck := ck) hx hb hown (hZ.1 _ w1 _) (hZ.1 _ w2 _) (hZ.1 _ w3 _) hy F hpl hsize hlen hdg ⟨hR.1, hR.2.1, hR.2.2.1, hR.2.2.2⟩ (js_Cal hZ hj hx hS.2.1 k)
end Js1
section Js2
variable {l : Launch} {b : Nat} {ad adV : Nat → Nat} {i : Nat}
theorem jk_E (x : Int32) : js_ok l b ad adV js_yE prog_26_method_4_code 1 (some .boolean) 0 0 [.int x] (js_can x) := by
  intro p e R s m below meth c hx F hZ hfr hlo
  obtain ⟨F1, F2, F3, F4, F5, F6, F7, F8, F9⟩ := F
  refine js_in (Nat.le_of_ble_eq_true rfl) (fun ls hl => ?_)
  have hl : lv_has ls 1 [(0, .int x)] := hl
  refine lv_iload_n hx F4 jd_yE_0 rfl (lv_at hl 0 rfl) ?_
  refine lv_if_lt hx F4 jd_yE_1 (tgt := 15) rfl (fun h => ?_) (fun h => ?_)
  · have e0 : js_can x = 0 := if_neg (fun q => absurd q.1 (Int32.not_le.mpr h))
    rw [e0]
    refine lv_iconst hx F4 jd_yE_15 (v := 0) rfl ?_
    exact js_ret hx F4 F6 (by decide +kernel) F7 jd_yE_16
  · refine lv_iload_n hx F4 jd_yE_4 rfl (lv_at hl 0 rfl) (lv_sipush hx F4 jd_yE_5 (v := 255) (by decide) ?_)
    refine lv_icmp_gt hx F4 jd_yE_8 (tgt := 15) rfl (fun h2 => ?_) (fun h2 => ?_)
    · have e0 : js_can x = 0 := if_neg (fun q => absurd q.2 (Int32.not_le.mpr h2))
      rw [e0]
      refine lv_iconst hx F4 jd_yE_15 (v := 0) rfl ?_
      exact js_ret hx F4 F6 (by decide +kernel) F7 jd_yE_16
    · have e0 : js_can x = 1 := if_pos ⟨Int32.not_lt.mp h, Int32.not_lt.mp h2⟩
      rw [e0]
      refine lv_iconst hx F4 jd_yE_11 (v := 1) rfl (lv_goto hx F4 jd_yE_12 (tgt := 16) rfl ?_)
      exact js_ret hx F4 F6 (by decide +kernel) F7 jd_yE_16
theorem jk_L (hi : i < 3) : js_ok l b ad adV js_yL prog_24_method_154_code 1 (some .boolean) 0 0 [.ref (ad (2000 + i))] 1 := by
  intro p e R s m below meth c hx F hZ hfr hlo
  obtain ⟨F1, F2, F3, F4, F5, F6, F7, F8, F9⟩ := F
  have hown : s.vm.findClass "java/lang/String" = some m.cls := findClass_of_methodNamed F1
  refine js_in (Nat.le_of_ble_eq_true rfl) (fun ls hl => ?_)
  have hl : lv_has ls 1 [(0, .ref (ad (2000 + i)))] := hl
  refine va_gets hx F4 hZ.2.2 js_S0 hown (hZ.1 _ (js_m (i := 29) rfl) _) (fun _ h9 => h9) jd_yL_0 ?_
  refine lv_if_eq hx F4 jd_yL_3 (tgt := 17) rfl (fun h => absurd h (by decide)) (fun _ => ?_)
  refine lv_aload_n hx F4 jd_yL_6 rfl (lv_at hl 0 rfl) ?_
  refine vk_getf hx F4 (hZ.2.1.1 i hi).2.1 js_S0 hown (hZ.1 _ (js_m (i := 31) rfl) _) (fun _ h9 => h9) jd_yL_7 ?_
  refine lv_if_ne hx F4 jd_yL_10 (tgt := 17) rfl (fun h => absurd rfl h) (fun _ => ?_)
  refine lv_iconst hx F4 jd_yL_13 (v := 1) rfl (lv_goto hx F4 jd_yL_14 (tgt := 18) rfl ?_)
  exact js_ret hx F4 F6 (by decide +kernel) F7 jd_yL_18
theorem jk_C (hi : i < 3) : js_ok l b ad adV js_yC prog_24_method_152_code 1 (some .byte) 0 0 [.ref (ad (2000 + i))] 0 := by
  intro p e R s m below meth c hx F hZ hfr hlo
  obtain ⟨F1, F2, F3, F4, F5, F6, F7, F8, F9⟩ := F
  have hown : s.vm.findClass "java/lang/String" = some m.cls := findClass_of_methodNamed F1
  refine js_in (Nat.le_of_ble_eq_true rfl) (fun ls hl => ?_)
  have hl : lv_has ls 1 [(0, .ref (ad (2000 + i)))] := hl
  refine va_gets hx F4 hZ.2.2 js_S0 hown (hZ.1 _ (js_m (i := 29) rfl) _) (fun _ h9 => h9) jd_yC_0 ?_
  refine lv_if_eq hx F4 jd_yC_3 (tgt := 13) rfl (fun h => absurd h (by decide)) (fun _ => ?_)
  refine lv_aload_n hx F4 jd_yC_6 rfl (lv_at hl 0 rfl) ?_
  refine vk_getf hx F4 (hZ.2.1.1 i hi).2.1 js_S0 hown (hZ.1 _ (js_m (i := 31) rfl) _) (fun _ h9 => h9) jd_yC_7 ?_
  refine lv_goto hx F4 jd_yC_10 (tgt := 14) rfl ?_
  exact js_ret hx F4 F6 (by decide +kernel) F7 jd_yC_14
theorem jk_N (hi : i < 3) : js_ok l b ad adV js_yN prog_24_method_54_code 1 (some .int) 1 13 [.ref (ad (2000 + i))] (Int32.ofNat (js_len.getD i 0)) := by
  intro p e R s m below meth c hx F hZ hfr hlo
  obtain ⟨F1, F2, F3, F4, F5, F6, F7, F8, F9⟩ := F
  have hown : s.vm.findClass "java/lang/String" = some m.cls := findClass_of_methodNamed F1
  refine js_in (Nat.le_of_ble_eq_true rfl) (fun ls hl => ?_)
  have hl : lv_has ls 1 [(0, .ref (ad (2000 + i)))] := hl
  refine lv_aload_n hx F4 jd_yN_0 rfl (lv_at hl 0 rfl) ?_
  refine vk_getf hx F4 (hZ.2.1.1 i hi).2.2.1 js_S0 hown (hZ.1 _ (js_m (i := 30) rfl) _) (fun _ h9 => h9) jd_yN_1 ?_
  refine va_tlen hx F4 (hZ.2.1.1 i hi).2.2.2 js_S0 rfl jd_yN_4 ?_
  refine lv_aload_n hx F4 jd_yN_5 rfl (lv_at hl 0 rfl) ?_
  refine js_cV (xs := []) (rest := [.int (Int32.ofNat (js_len.getD i 0))]) hx F4 hown hZ hi (jk_C hi) (js_m (i := 16) rfl) (js_m (i := 17) rfl) (js_m (i := 18) rfl) (js_m (i := 19) rfl) ⟨by decide, by decide⟩ (by decide +kernel) (hl.1.trans F5.symm) js_S0 (fun sig h => by rw [show parseMethodDescriptor js_yC.desc = some ⟨[], some .byte⟩ from by decide +kernel] at h; cases h; rfl) jd_yN_6 ⟨hfr, hlo, Nat.zero_le _, Nat.zero_le _⟩ ?_
  refine lv_ishr hx F4 jd_yN_9 ?_
  rw [js_shr _ (by have := (js_lb i hi).1; omega)]
  exact js_ret hx F4 F6 rfl F7 jd_yN_10
theorem jk_H (hi : i < 3) (x : Int32) : js_ok l b ad adV js_yH prog_26_method_23_code 6 (some .int) 0 0 [.ref (adV i), .int x, .int 0, .int (Int32.ofNat (js_len.getD i 0))] (js_fi x.toInt8.toInt32 (js_byt.getD i []) 0) := by
  intro p e R s m below meth c hx F hZ hfr hlo
  obtain ⟨F1, F2, F3, F4, F5, F6, F7, F8, F9⟩ := F
  obtain ⟨hn, -, hlen⟩ := js_lb i hi
  have hT := (hZ.2.1.1 i hi).2.2.2
  have loop : ∀ (r : List Int32) (k : Nat), k ≤ js_len.getD i 0 → (js_byt.getD i []).drop k = r → ∀ ls, lv_has ls 6 [(5, .int (Int32.ofNat k)), (4, .int x.toInt8.toInt32), (0, .ref (adV i)), (1, .int x), (2, .int 0), (3, .int (Int32.ofNat (js_len.getD i 0)))] →
      W p l e R s m [Value.ref (adV i), .int x, .int 0, .int (Int32.ofNat (js_len.getD i 0))].toArray below meth c s.heap [] 0 0 (mz_End below s (fun _ => False) (js_Po (js_fi x.toInt8.toInt32 r k) s.heap)) (F0 m 7 ls []) := by
    intro r
    induction r with
    | nil =>
      intro k hk hd ls hl
      have hk2 : k = js_len.getD i 0 := by
        have := congrArg List.length hd
        simp only [List.length_drop, List.length_nil] at this
        omega
      refine lv_iload hx F4 jd_yH_7 (lv_at hl 0 rfl) (lv_iload_n hx F4 jd_yH_9 rfl (lv_at hl 5 rfl) ?_)
      refine lv_icmp_ge hx F4 jd_yH_10 (tgt := 31) rfl (fun _ => ?_) (fun h => absurd (by rw [hk2]; exact Int32.le_refl _) h)
      refine lv_iconst hx F4 jd_yH_31 (v := -1) rfl ?_
      exact js_ret hx F4 F6 rfl F7 jd_yH_32
    | cons z r ih =>
      intro k hk hd ls hl
      have hk2 : k < js_len.getD i 0 := by
        have := congrArg List.length hd
        simp only [List.length_drop, List.length_cons] at this
        omega
      have hz : (js_byt.getD i []).getD k 0 = z := by
        have h1 : ((js_byt.getD i []).drop k)[0]? = some z := by rw [hd]; rfl
        rw [List.getElem?_drop, Nat.add_zero] at h1
        rw [List.getD_eq_getElem?_getD, h1]
        rfl
      have hr : (js_byt.getD i []).drop (k + 1) = r := by
        rw [← List.drop_drop, hd]
        rfl
      refine lv_iload hx F4 jd_yH_7 (lv_at hl 0 rfl) (lv_iload_n hx F4 jd_yH_9 rfl (lv_at hl 5 rfl) ?_)
      refine lv_icmp_ge hx F4 jd_yH_10 (tgt := 31) rfl (fun h => absurd h (js_nle _ hn k hk2)) (fun _ => ?_)
      refine lv_aload_n hx F4 jd_yH_13 rfl (lv_at hl 2 rfl) (lv_iload hx F4 jd_yH_14 (lv_at hl 0 rfl) ?_)
      refine va_tb hx F4 hT js_S0 (js_vin _ hn k hk2) (v := .int z) (by show Value.int ((js_byt.getD i []).getD ((Int32.ofNat k).toNatClampNeg) 0) = _; rw [js_cl k (by omega), hz]) jd_yH_16 ?_
      refine lv_iload hx F4 jd_yH_17 (lv_at hl 1 rfl) ?_
      refine lv_icmp_ne hx F4 jd_yH_19 (tgt := 25) rfl (fun h => ?_) (fun h => ?_)
      · refine lv_iinc hx F4 jd_yH_25 hl (k := 0) (x := Int32.ofNat k) rfl (js_inc k (by omega)) (by decide) (lv' := [(5, .int (Int32.ofNat (k + 1))), (4, .int x.toInt8.toInt32), (0, .ref (adV i)), (1, .int x), (2, .int 0), (3, .int (Int32.ofNat (js_len.getD i 0)))]) rfl (fun ls' hl' => ?_)
        refine lv_goto hx F4 jd_yH_28 (tgt := 7) rfl ?_
        have e0 : js_fi x.toInt8.toInt32 (z :: r) k = js_fi x.toInt8.toInt32 r (k + 1) := if_neg h
        rw [e0]
        exact ih (k + 1) hk2 hr ls' hl'
      · have e0 : js_fi x.toInt8.toInt32 (z :: r) k = Int32.ofNat k := if_pos h
        rw [e0]
        refine lv_iload hx F4 jd_yH_22 (lv_at hl 0 rfl) ?_
        exact js_ret hx F4 F6 rfl F7 jd_yH_24
  refine js_in (Nat.le_of_ble_eq_true rfl) (fun ls hl => ?_)
  have hl : lv_has ls 6 [(0, .ref (adV i)), (1, .int x), (2, .int 0), (3, .int (Int32.ofNat (js_len.getD i 0)))] := hl
  refine lv_iload_n hx F4 jd_yH_0 rfl (lv_at hl 1 rfl) (lv_i2b hx F4 jd_yH_1 rfl ?_)
  refine lv_istore hx F4 jd_yH_2 hl (by decide) (lv' := [(4, .int x.toInt8.toInt32), (0, .ref (adV i)), (1, .int x), (2, .int 0), (3, .int (Int32.ofNat (js_len.getD i 0)))]) rfl (fun ls hl => ?_)
  refine lv_iload_n hx F4 jd_yH_4 rfl (lv_at hl 3 rfl) ?_
  refine lv_istore hx F4 jd_yH_5 hl (by decide) (lv' := [(5, .int 0), (4, .int x.toInt8.toInt32), (0, .ref (adV i)), (1, .int x), (2, .int 0), (3, .int (Int32.ofNat (js_len.getD i 0)))]) rfl (fun ls hl => ?_)
  exact loop _ 0 (Nat.zero_le _) rfl ls hl
theorem jk_I (hi : i < 3) (x : Int32) : js_ok l b ad adV js_yI prog_26_method_22_code 4 (some .int) 1 17 [.ref (adV i), .int x, .int 0, .int (Int32.ofNat (js_len.getD i 0))] (js_an i x) := by
  intro p e R s m below meth c hx F hZ hfr hlo
  obtain ⟨F1, F2, F3, F4, F5, F6, F7, F8, F9⟩ := F
  have hown : s.vm.findClass "java/lang/StringLatin1" = some m.cls := findClass_of_methodNamed F1
  obtain ⟨hn, hpos, hlen⟩ := js_lb i hi
  have hT := (hZ.2.1.1 i hi).2.2.2
  have e2 : (if Int32.ofNat (js_len.getD i 0) < Int32.ofNat (js_len.getD i 0) then Int32.ofNat (js_len.getD i 0) else Int32.ofNat (js_len.getD i 0)) = Int32.ofNat (js_len.getD i 0) := by split <;> rfl
  have e1 : (if (0 : Int32) < 0 then (0 : Int32) else 0) = 0 := by split <;> rfl
  refine js_in (Nat.le_of_ble_eq_true rfl) (fun ls hl => ?_)
  have hl : lv_has ls 4 [(0, .ref (adV i)), (1, .int x), (2, .int 0), (3, .int (Int32.ofNat (js_len.getD i 0)))] := hl
  refine lv_iload_n hx F4 jd_yI_0 rfl (lv_at hl 1 rfl) ?_
  refine js_cS (xs := [.int x]) (rest := []) hx F4 hown hZ (jk_E x) (js_m (i := 23) rfl) (js_m (i := 24) rfl) (js_m (i := 38) rfl) (js_m (i := 25) rfl) ⟨by decide, by decide⟩ (by decide +kernel) (hl.1.trans F5.symm) js_S0 (fun sig h => by rw [show parseMethodDescriptor js_yE.desc = some ⟨[.int], some .boolean⟩ from by decide +kernel] at h; cases h; rfl) jd_yI_1 ⟨by omega, by show 0 + (1 + 11) + 0 ≤ R.locals; omega, Nat.zero_le _, Nat.zero_le _⟩ ?_
  refine lv_if_ne hx F4 jd_yI_4 (tgt := 9) rfl (fun h => ?_) (fun h => ?_)
  · have e0 : js_an i x = js_fi x.toInt8.toInt32 (js_byt.getD i []) 0 := if_neg h
    rw [e0]
    refine lv_iload_n hx F4 jd_yI_9 rfl (lv_at hl 2 rfl) (lv_iconst hx F4 jd_yI_10 (v := 0) rfl ?_)
    refine va_mmax (rest := []) hx F4 (F5.trans hl.1.symm) hown (hZ.1 _ (js_m (i := 32) rfl) _) (hZ.1 _ (js_m (i := 33) rfl) _) (hZ.1 _ (js_m (i := 39) rfl) _) (hZ.1 _ (js_m (i := 34) rfl) _) (by omega) (by show 0 + 13 ≤ R.locals; omega) (Nat.zero_le _) (Nat.zero_le _) jd_yI_11 ?_
    rw [e1]
    refine lv_istore_n hx F4 jd_yI_14 rfl hl (by decide) (lv' := [(2, .int 0), (0, .ref (adV i)), (1, .int x), (3, .int (Int32.ofNat (js_len.getD i 0)))]) rfl (fun ls hl => ?_)
    refine lv_iload_n hx F4 jd_yI_15 rfl (lv_at hl 3 rfl) (lv_aload_n hx F4 jd_yI_16 rfl (lv_at hl 1 rfl) ?_)
    refine va_tlen hx F4 hT js_S0 rfl jd_yI_17 ?_
    refine va_mmin (rest := []) hx F4 (F5.trans hl.1.symm) hown (hZ.1 _ (js_m (i := 35) rfl) _) (hZ.1 _ (js_m (i := 36) rfl) _) (hZ.1 _ (js_m (i := 39) rfl) _) (hZ.1 _ (js_m (i := 37) rfl) _) (by omega) (by show 0 + 13 ≤ R.locals; omega) (Nat.zero_le _) (Nat.zero_le _) jd_yI_18 ?_
    rw [e2]
    refine lv_istore_n hx F4 jd_yI_21 rfl hl (by decide) (lv' := [(3, .int (Int32.ofNat (js_len.getD i 0))), (2, .int 0), (0, .ref (adV i)), (1, .int x)]) rfl (fun ls hl => ?_)
    refine lv_iload_n hx F4 jd_yI_22 rfl (lv_at hl 1 rfl) (lv_iload_n hx F4 jd_yI_23 rfl (lv_at hl 0 rfl) ?_)
    refine lv_icmp_lt hx F4 jd_yI_24 (tgt := 29) rfl (fun _ => ?_) (fun h => absurd hpos h)
    refine lv_aload_n hx F4 jd_yI_29 rfl (lv_at hl 2 rfl) (lv_iload_n hx F4 jd_yI_30 rfl (lv_at hl 3 rfl) (lv_iload_n hx F4 jd_yI_31 rfl (lv_at hl 1 rfl) (lv_iload_n hx F4 jd_yI_32 rfl (lv_at hl 0 rfl) ?_)))
    refine js_cS (xs := [.ref (adV i), .int x, .int 0, .int (Int32.ofNat (js_len.getD i 0))]) (rest := []) hx F4 hown hZ (jk_H hi x) (js_m (i := 26) rfl) (js_m (i := 27) rfl) (js_m (i := 38) rfl) (js_m (i := 28) rfl) ⟨by decide, by decide⟩ (by decide +kernel) (hl.1.trans F5.symm) js_S0 (fun sig h => by rw [show parseMethodDescriptor js_yH.desc = some ⟨[.array .byte, .int, .int, .int], some .int⟩ from by decide +kernel] at h; cases h; rfl) jd_yI_33 ⟨by omega, by show 0 + (6 + 11) + 0 ≤ R.locals; omega, Nat.zero_le _, Nat.zero_le _⟩ ?_
    exact js_ret hx F4 F6 rfl F7 jd_yI_36
  · have e0 : js_an i x = -1 := if_pos h
    rw [e0]
    refine lv_iconst hx F4 jd_yI_7 (v := -1) rfl ?_
    exact js_ret hx F4 F6 rfl F7 jd_yI_8
theorem jk_2 (hi : i < 3) (x : Int32) : js_ok l b ad adV js_y2 prog_24_method_80_code 3 (some .int) 2 32 [.ref (ad (2000 + i)), .int x, .int 0] (js_an i x) := by
  intro p e R s m below meth c hx F hZ hfr hlo
  obtain ⟨F1, F2, F3, F4, F5, F6, F7, F8, F9⟩ := F
  have hown : s.vm.findClass "java/lang/String" = some m.cls := findClass_of_methodNamed F1
  refine js_in (Nat.le_of_ble_eq_true rfl) (fun ls hl => ?_)
  have hl : lv_has ls 3 [(0, .ref (ad (2000 + i))), (1, .int x), (2, .int 0)] := hl
  refine lv_aload_n hx F4 jd_y2_0 rfl (lv_at hl 0 rfl) ?_
  refine js_cV (xs := []) (rest := []) hx F4 hown hZ hi (jk_L hi) (js_m (i := 8) rfl) (js_m (i := 9) rfl) (js_m (i := 10) rfl) (js_m (i := 11) rfl) ⟨by decide, by decide⟩ (by decide +kernel) (hl.1.trans F5.symm) js_S0 (fun sig h => by rw [show parseMethodDescriptor js_yL.desc = some ⟨[], some .boolean⟩ from by decide +kernel] at h; cases h; rfl) jd_y2_1 ⟨by omega, by show 0 + (1 + 11) + 0 ≤ R.locals; omega, Nat.zero_le _, Nat.zero_le _⟩ ?_
  refine lv_if_eq hx F4 jd_y2_4 (tgt := 23) rfl (fun h => absurd h (by decide)) (fun _ => ?_)
  refine lv_aload_n hx F4 jd_y2_7 rfl (lv_at hl 0 rfl) ?_
  refine vk_getf hx F4 (hZ.2.1.1 i hi).2.2.1 js_S0 hown (hZ.1 _ (js_m (i := 30) rfl) _) (fun _ h9 => h9) jd_y2_8 ?_
  refine lv_iload_n hx F4 jd_y2_11 rfl (lv_at hl 1 rfl) (lv_iload_n hx F4 jd_y2_12 rfl (lv_at hl 2 rfl) (lv_aload_n hx F4 jd_y2_13 rfl (lv_at hl 0 rfl) ?_))
  refine js_cV (xs := []) (rest := [.int 0, .int x, .ref (adV i)]) hx F4 hown hZ hi (jk_N hi) (js_m (i := 12) rfl) (js_m (i := 13) rfl) (js_m (i := 14) rfl) (js_m (i := 15) rfl) ⟨by decide, by decide⟩ (by decide +kernel) (hl.1.trans F5.symm) js_S0 (fun sig h => by rw [show parseMethodDescriptor js_yN.desc = some ⟨[], some .int⟩ from by decide +kernel] at h; cases h; rfl) jd_y2_14 ⟨by omega, by show 3 + (1 + 11) + 13 ≤ R.locals; omega, Nat.zero_le _, Nat.zero_le _⟩ ?_
  refine js_cS (xs := [.ref (adV i), .int x, .int 0, .int (Int32.ofNat (js_len.getD i 0))]) (rest := []) hx F4 hown hZ (jk_I hi x) (js_m (i := 20) rfl) (js_m (i := 21) rfl) (js_m (i := 38) rfl) (js_m (i := 22) rfl) ⟨by decide, by decide⟩ (by decide +kernel) (hl.1.trans F5.symm) js_S0 (fun sig h => by rw [show parseMethodDescriptor js_yI.desc = some ⟨[.array .byte, .int, .int, .int], some .int⟩ from by decide +kernel] at h; cases h; rfl) jd_y2_17 ⟨by omega, by show 0 + (4 + 11) + 17 ≤ R.locals; omega, Nat.zero_le _, Nat.zero_le _⟩ ?_
  refine lv_goto hx F4 jd_y2_20 (tgt := 36) rfl ?_
  exact js_ret hx F4 F6 rfl F7 jd_y2_36
theorem jk_1 (hi : i < 3) (x : Int32) : js_ok l b ad adV js_y1 prog_24_method_79_code 2 (some .int) 3 46 [.ref (ad (2000 + i)), .int x] (js_an i x) := by
  intro p e R s m below meth c hx F hZ hfr hlo
  obtain ⟨F1, F2, F3, F4, F5, F6, F7, F8, F9⟩ := F
  have hown : s.vm.findClass "java/lang/String" = some m.cls := findClass_of_methodNamed F1
  refine js_in (Nat.le_of_ble_eq_true rfl) (fun ls hl => ?_)
  have hl : lv_has ls 2 [(0, .ref (ad (2000 + i))), (1, .int x)] := hl
  refine lv_aload_n hx F4 jd_y1_0 rfl (lv_at hl 0 rfl) (lv_iload_n hx F4 jd_y1_1 rfl (lv_at hl 1 rfl) (lv_iconst hx F4 jd_y1_2 (v := 0) rfl ?_))
  refine js_cV (xs := [.int x, .int 0]) (rest := []) hx F4 hown hZ hi (jk_2 hi x) (js_m (i := 4) rfl) (js_m (i := 5) rfl) (js_m (i := 6) rfl) (js_m (i := 7) rfl) ⟨by decide, by decide⟩ (by decide +kernel) (hl.1.trans F5.symm) js_S0 (fun sig h => by rw [show parseMethodDescriptor js_y2.desc = some ⟨[.int, .int], some .int⟩ from by decide +kernel] at h; cases h; rfl) jd_y1_3 ⟨by omega, by show 0 + (3 + 11) + 32 ≤ R.locals; omega, Nat.zero_le _, Nat.zero_le _⟩ ?_
  exact js_ret hx F4 F6 rfl F7 jd_y1_6
end Js2
