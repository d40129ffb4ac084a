/-! THE SMALL MACHINE (9): what a walk of a method comes to. A method: (class, name, bytes, locals, type of the answer, handlers, code, small handlers). -/
abbrev mz_D : Type := Nat × MethodName × ByteArray × Nat × Option FieldType × List (Nat × Nat × Nat × Nat) × List mz_i × List (Nat × Nat × Nat)
def mz_wt (st : List Value) : Nat := (st.map fun v => v.category).sum
/-- slots of cells -/
def mz_sl (S : mz_S) : Nat := (S.map fun q => if q.1 = 9 then q.2.2.length else q.2.1).sum
/-- behind a call -/
def mz_af (W : Nat → List mz_i → List (Nat × Value) → List Value → mz_K → Prop) (hs : List (Nat × Nat × Nat)) (code : List mz_i) (pc : Nat) (r : List mz_i) (lv : List (Nat × Value)) (rest : List Value) (Q : mz_Q) : mz_Q := fun o K => match o with
  | .inl none => W pc r lv rest K
  | .inl (some v) => W pc r lv (v :: rest) K
  | .inr k => match hs.find? (fun h => h.1 == k) with
    | some h => W h.2.2 (mz_sf code h.2.2) [] [] K
    | none => hs = [] ∧ Q (.inr k) K
/-- rows of a new int[n][k] or long[n][k]: the cells behind it -/
def mz_zz (M : mz_M) (a n : Nat) : mz_M := (fun b => if a ≤ b then (fun _ => 0) else M.1 b, fun b => if a ≤ b then (fun _ => 0) else M.2.1 b, fun b => if b = a then (fun j => if j < n then some (a + 1 + j) else none) else if a < b then (fun _ => none) else M.2.2 b)
/-- the strings outside: their cells, their codes -/
def mz_str (a : Nat) : Option (List Nat) := if a = 2000 then some [61, 59, 40, 41, 43, 45, 42, 60, 62, 63, 58] else if a = 2001 then some [108, 98, 112, 118, 114, 120] else if a = 2002 then some [102, 111, 104, 116, 107, 101, 109] else none
def mz_W (E : Nat → List Value → mz_K → mz_Q → Prop) (X : Nat → Option (Nat × (Nat → Int32))) (FK : Nat → List Nat) (ret : Option FieldType) (hs : List (Nat × Nat × Nat)) (code : List mz_i) (nL : Nat) (Q : mz_Q) : Nat → Nat → List mz_i → List (Nat × Value) → List Value → Bool → mz_K → Prop
  | 0, _, _, _, _, _, _ => False
  | _ + 1, _, [], _, _, _, _ => False
  | n + 1, pc, q :: r, lv, st, cl, K => match q.1 with
    | 0 => match mz_pu nL q.2.1 lv st with
      | some a => mz_W E X FK ret hs code nL Q n (pc + q.2.2.1) r a.1 a.2 cl K
      | none => False
    | 1 => match mz_rd X K.1 q.2.1 q.2.2.2.1 q.2.2.2.2.1 st K.2.1 with
      | some a => mz_W E X FK ret hs code nL Q n (pc + q.2.2.1) r lv a cl K
      | none => False
    | 2 => match mz_br q.2.1 pc st with
      | some a => mz_W E X FK ret hs code nL Q n a.1 (mz_sf code a.1) lv a.2 cl K
      | none => False
    | 3 => mz_W E X FK ret hs code nL Q n (pc + q.2.2.1) r lv (q.2.2.2.2.2 :: st) cl K
    | 4 => q.2.2.2.2.1 ≤ st.length ∧ mz_wt (st.drop q.2.2.2.2.1) ≤ 40 ∧ E q.2.2.2.1 (st.take q.2.2.2.2.1).reverse K (mz_af (fun pc r lv st K => mz_W E X FK ret hs code nL Q n pc r lv st false K) hs code (pc + q.2.2.1) r lv (st.drop q.2.2.2.2.1) Q)
    | 5 => mz_wt st ≤ 40 ∧ match mz_bi K.1 q.2.2.2.1 st K.2.1 with
      | some a => mz_W E X FK ret hs code nL Q n (pc + q.2.2.1) r lv a.1 false (K.1, a.2, K.2.2)
      | none => False
    | 6 => match q.2.1, st with
      | .ireturn, [.int v] => (ret = some .int ∨ (ret = some .boolean ∧ (v = 0 ∨ v = 1))) ∧ Q (.inl (some (.int v))) K
      | .lreturn, [.long v] => ret = some .long ∧ Q (.inl (some (.long v))) K
      | .return_, [] => ret = none ∧ Q (.inl none) K
      | _, _ => False
    | 7 => cl = true ∧ K.2.2 < 1000 ∧ st = [] ∧ Q (.inr q.2.2.2.1) (K.1, K.2.1, K.2.2 + 1)
    | 8 => match mz_wr K.1 q.2.1 q.2.2.2.1 q.2.2.2.2.1 st K.2.1 with
      | some a => mz_W E X FK ret hs code nL Q n (pc + q.2.2.1) r lv a.1 false (K.1, a.2, K.2.2)
      | none => False
    | 9 => mz_W E X FK ret hs code nL Q n (pc + q.2.2.1) r lv (.ref q.2.2.2.1 :: st) cl K
    | 10 => match st with
      | .int n0 :: st => ¬ n0 < 0 ∧ n0.toNatClampNeg ≤ 30000 ∧ K.2.2 = 0 ∧ K.1.length < 900 ∧ mz_sl K.1 + n0.toNatClampNeg ≤ 7000000 ∧ mz_W E X FK ret hs code nL Q n (pc + q.2.2.1) r lv (.ref K.1.length :: st) false (K.1 ++ [(q.2.2.2.1, n0.toNatClampNeg, [])], mz_z K.2.1 K.1.length, K.2.2)
      | _ => False
    | 11 => K.2.2 = 0 ∧ K.1.length < 900 ∧ mz_sl K.1 + (FK q.2.2.2.1).length ≤ 7000000 ∧ mz_W E X FK ret hs code nL Q n (pc + q.2.2.1) r lv (.ref K.1.length :: st) false (K.1 ++ [(9, q.2.2.2.1, FK q.2.2.2.1)], mz_z K.2.1 K.1.length, K.2.2)
    | 12 => match st with
      | .int n1 :: .int n0 :: st => ¬ n0 < 0 ∧ ¬ n1 < 0 ∧ n0.toNatClampNeg ≤ 1000 ∧ n1.toNatClampNeg ≤ 30000 ∧ K.2.2 = 0 ∧ K.1.length + n0.toNatClampNeg < 900 ∧ mz_sl K.1 + (n0.toNatClampNeg + n0.toNatClampNeg * n1.toNatClampNeg) ≤ 7000000 ∧ mz_W E X FK ret hs code nL Q n (pc + q.2.2.1) r lv (.ref K.1.length :: st) false (K.1 ++ (q.2.2.2.1, n0.toNatClampNeg, []) :: List.replicate n0.toNatClampNeg (q.2.2.2.1 - 4, n1.toNatClampNeg, []), mz_zz K.2.1 K.1.length n0.toNatClampNeg, K.2.2)
      | _ => False
    | 13 => match st with
      | .ref _ :: st => mz_wt st ≤ 40 ∧ mz_W E X FK ret hs code nL Q n (pc + q.2.2.1) r lv st cl K
      | _ => False
    | 14 => q.2.2.2.2.1 ≤ st.length ∧ mz_wt (st.drop q.2.2.2.2.1) ≤ 40 ∧ (∃ a t ci fk, (st.take q.2.2.2.2.1).reverse = .ref a :: t ∧ q.2.2.2.2.2 = .ref ci ∧ K.1[a]? = some (9, ci, fk)) ∧ E q.2.2.2.1 (st.take q.2.2.2.2.1).reverse K (mz_af (fun pc r lv st K => mz_W E X FK ret hs code nL Q n pc r lv st false K) hs code (pc + q.2.2.1) r lv (st.drop q.2.2.2.2.1) Q)
    | 15 => q.2.2.2.2.1 ≤ st.length ∧ mz_wt (st.drop q.2.2.2.2.1) ≤ 40 ∧ (∃ a t, (st.take q.2.2.2.2.1).reverse = .ref a :: t) ∧ E q.2.2.2.1 (st.take q.2.2.2.2.1).reverse K (mz_af (fun pc r lv st K => mz_W E X FK ret hs code nL Q n pc r lv st false K) hs code (pc + q.2.2.1) r lv (st.drop q.2.2.2.2.1) Q)
    | 16 => mz_W E X FK ret hs code nL Q n (pc + q.2.2.1) r lv (.ref q.2.2.2.1 :: st) cl K
    | 17 => match st with
      | .int c :: .ref a :: st => mz_wt st ≤ 40 ∧ match mz_str a with
        | some l => mz_W E X FK ret hs code nL Q n (pc + q.2.2.1) r lv (.int (mz_ix c l 0) :: st) false K
        | none => False
      | _ => False
    | _ => False
def mz_E (PG : Nat → Option mz_D) (X : Nat → Option (Nat × (Nat → Int32))) (FK : Nat → List Nat) : Nat → Nat → List Value → mz_K → mz_Q → Prop
  | 0, _, _, _, _ => False
  | d + 1, j, args, K, Q => ∃ (D : mz_D) (n : Nat), PG j = some D ∧ (lg_sl args).length ≤ D.2.2.2.1 ∧ D.2.2.2.1 ≤ 60 ∧ mz_W (mz_E PG X FK d) X FK D.2.2.2.2.1 D.2.2.2.2.2.2.2 D.2.2.2.2.2.2.1 D.2.2.2.1 Q n 0 D.2.2.2.2.2.2.1 (lv_args 0 args) [] true K
