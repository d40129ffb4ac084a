/-! PURE (2): written by program: what each method comes to: its value, what it needs. -/
/-! 13 java/util/Arrays.fill ([II)V -/
noncomputable def cq_13_5 (a0 : Nat) (n0 : Nat) (v1 : Int32) (v3 : Int32) (s : Int32 × mz_N) : ((Int32 × mz_N) ⊕ (mz_N)) := if s.1 < v3 then (.inl ((s.1 + 1), mz_wI s.2 a0 s.1 v1)) else (.inr s.2)
def cd_13_5 (a0 : Nat) (n0 : Nat) (v1 : Int32) (v3 : Int32) (s : Int32 × mz_N) : Prop := (s.1 < v3 → (mz_ib s.1 n0)) ∧ (¬ (s.1 < v3) → True)
noncomputable def cf_13_5 (a0 : Nat) (n0 : Nat) (v1 : Int32) (v2 : Int32) (v3 : Int32) (N : mz_N) : (mz_N) := mz_run (cq_13_5 a0 n0 v1 v3) (v2, N)
def cp_13_5 (a0 : Nat) (n0 : Nat) (v1 : Int32) (v2 : Int32) (v3 : Int32) (N : mz_N) : Prop := ∃ n, mz_ok (cq_13_5 a0 n0 v1 v3) (cd_13_5 a0 n0 v1 v3) n (v2, N)
noncomputable def cf_13_0 (a0 : Nat) (n0 : Nat) (v1 : Int32) (N : mz_N) : (mz_N) := (cf_13_5 a0 n0 v1 0 (Int32.ofNat n0) N)
def cp_13_0 (a0 : Nat) (n0 : Nat) (v1 : Int32) (N : mz_N) : Prop := cp_13_5 a0 n0 v1 0 (Int32.ofNat n0) N
/-! 14 KeptHouse$Store.write ([IIIJ)V -/
noncomputable def cq_14_3 (a0 : Nat) (n0 : Nat) (v1 : Int32) (v2 : Int32) (v3 : Int64) (s : Int32 × mz_N) : ((Int32 × mz_N) ⊕ (mz_N)) := if s.1 < v2 then (.inl ((s.1 + 1), mz_wI s.2 a0 (v1 + s.1) (((mz_lushr v3 (8 * s.1)).toInt32) &&& 255))) else (.inr s.2)
def cd_14_3 (a0 : Nat) (n0 : Nat) (v1 : Int32) (v2 : Int32) (v3 : Int64) (s : Int32 × mz_N) : Prop := (s.1 < v2 → (mz_ib (v1 + s.1) n0)) ∧ (¬ (s.1 < v2) → True)
noncomputable def cf_14_3 (a0 : Nat) (n0 : Nat) (v1 : Int32) (v2 : Int32) (v3 : Int64) (v5 : Int32) (N : mz_N) : (mz_N) := mz_run (cq_14_3 a0 n0 v1 v2 v3) (v5, N)
def cp_14_3 (a0 : Nat) (n0 : Nat) (v1 : Int32) (v2 : Int32) (v3 : Int64) (v5 : Int32) (N : mz_N) : Prop := ∃ n, mz_ok (cq_14_3 a0 n0 v1 v2 v3) (cd_14_3 a0 n0 v1 v2 v3) n (v5, N)
noncomputable def cf_14_0 (a0 : Nat) (n0 : Nat) (v1 : Int32) (v2 : Int32) (v3 : Int64) (N : mz_N) : (mz_N) := (cf_14_3 a0 n0 v1 v2 v3 0 N)
def cp_14_0 (a0 : Nat) (n0 : Nat) (v1 : Int32) (v2 : Int32) (v3 : Int64) (N : mz_N) : Prop := cp_14_3 a0 n0 v1 v2 v3 0 N
/-! 12 KeptHouse$Store.compose (IIZII)V -/
noncomputable def cf_12_62 (N : mz_N) : (mz_N) := N
def cp_12_62 (N : mz_N) : Prop := True
noncomputable def cf_12_36 (s1 : Int32) (s2 : Bool) (v4 : Int32) (v5 : Int32) (N : mz_N) : (mz_N) := (cf_12_62 (cf_14_0 225 48 8 4 v5.toInt64 (cf_14_0 225 48 4 4 v4.toInt64 (mz_wI N 225 s1 (mz_b01 s2)))))
def cp_12_36 (s1 : Int32) (s2 : Bool) (v4 : Int32) (v5 : Int32) (N : mz_N) : Prop := (mz_ib s1 48) ∧ ((cp_14_0 225 48 4 4 v4.toInt64 (mz_wI N 225 s1 (mz_b01 s2))) ∧ ((cp_14_0 225 48 8 4 v5.toInt64 (cf_14_0 225 48 4 4 v4.toInt64 (mz_wI N 225 s1 (mz_b01 s2)))) ∧ (cp_12_62 (cf_14_0 225 48 8 4 v5.toInt64 (cf_14_0 225 48 4 4 v4.toInt64 (mz_wI N 225 s1 (mz_b01 s2)))))))
noncomputable def cf_12_0 (v1 : Int32) (v2 : Int32) (v3 : Bool) (v4 : Int32) (v5 : Int32) (N : mz_N) : (mz_N) := if v3 = true then (cf_12_36 2 true v4 v5 (mz_wI (mz_wI (cf_13_0 225 48 0 N) 225 0 v1) 225 1 v2)) else (cf_12_36 2 false v4 v5 (mz_wI (mz_wI (cf_13_0 225 48 0 N) 225 0 v1) 225 1 v2))
def cp_12_0 (v1 : Int32) (v2 : Int32) (v3 : Bool) (v4 : Int32) (v5 : Int32) (N : mz_N) : Prop := (cp_13_0 225 48 0 N) ∧ ((v3 = true → (cp_12_36 2 true v4 v5 (mz_wI (mz_wI (cf_13_0 225 48 0 N) 225 0 v1) 225 1 v2))) ∧ (¬ (v3 = true) → (cp_12_36 2 false v4 v5 (mz_wI (mz_wI (cf_13_0 225 48 0 N) 225 0 v1) 225 1 v2))))
/-! 16 KeptHouse$Store.checkSum ([III)I -/
noncomputable def cq_16_5 (a0 : Nat) (n0 : Nat) (v1 : Int32) (v2 : Int32) (N : mz_N) (s : Int32 × Int32) : ((Int32 × Int32) ⊕ (Int32)) := if s.2 < v2 then (.inl (((mz_iushr ((mz_iushr (s.1 ^^^ (mz_gI N a0 (v1 + s.2))) 4) ^^^ (mz_xs ((s.1 ^^^ (mz_gI N a0 (v1 + s.2))) &&& 15))) 4) ^^^ (mz_xs (((mz_iushr (s.1 ^^^ (mz_gI N a0 (v1 + s.2))) 4) ^^^ (mz_xs ((s.1 ^^^ (mz_gI N a0 (v1 + s.2))) &&& 15))) &&& 15))), (s.2 + 1))) else (.inr (s.1 ^^^ (-1)))
def cd_16_5 (a0 : Nat) (n0 : Nat) (v1 : Int32) (v2 : Int32) (N : mz_N) (s : Int32 × Int32) : Prop := (s.2 < v2 → ((mz_ib (v1 + s.2) n0) ∧ ((mz_ib ((s.1 ^^^ (mz_gI N a0 (v1 + s.2))) &&& 15) 16) ∧ (mz_ib (((mz_iushr (s.1 ^^^ (mz_gI N a0 (v1 + s.2))) 4) ^^^ (mz_xs ((s.1 ^^^ (mz_gI N a0 (v1 + s.2))) &&& 15))) &&& 15) 16)))) ∧ (¬ (s.2 < v2) → True)
noncomputable def cf_16_5 (a0 : Nat) (n0 : Nat) (v1 : Int32) (v2 : Int32) (v3 : Int32) (v4 : Int32) (N : mz_N) : (Int32) := mz_run (cq_16_5 a0 n0 v1 v2 N) (v3, v4)
def cp_16_5 (a0 : Nat) (n0 : Nat) (v1 : Int32) (v2 : Int32) (v3 : Int32) (v4 : Int32) (N : mz_N) : Prop := ∃ n, mz_ok (cq_16_5 a0 n0 v1 v2 N) (cd_16_5 a0 n0 v1 v2 N) n (v3, v4)
noncomputable def cf_16_0 (a0 : Nat) (n0 : Nat) (v1 : Int32) (v2 : Int32) (N : mz_N) : (Int32) := (cf_16_5 a0 n0 v1 v2 (-1) 0 N)
def cp_16_0 (a0 : Nat) (n0 : Nat) (v1 : Int32) (v2 : Int32) (N : mz_N) : Prop := cp_16_5 a0 n0 v1 v2 (-1) 0 N
/-! 15 KeptHouse$Store.writeLine (II)Z -/
noncomputable def cf_15_99 (N : mz_N) : (Bool × mz_N) := (true, N)
def cp_15_99 (N : mz_N) : Prop := True
noncomputable def cf_15_58 (v1 : Int32) (v2 : Int32) (N : mz_N) : (Bool × mz_N) := (cf_15_99 (mz_yI (cf_14_0 225 48 44 4 ((cf_16_0 225 48 0 44 N).toInt64) N) 225 0 (221 + v1.toNatClampNeg) (v2 * 48) 48))
def cp_15_58 (v1 : Int32) (v2 : Int32) (N : mz_N) : Prop := (cp_16_0 225 48 0 44 N) ∧ ((cp_14_0 225 48 44 4 ((cf_16_0 225 48 0 44 N).toInt64) N) ∧ ((mz_ib v1 2) ∧ ((mz_cpk 0 (v2 * 48) 48 48 9600) ∧ (cp_15_99 (mz_yI (cf_14_0 225 48 44 4 ((cf_16_0 225 48 0 44 N).toInt64) N) 225 0 (221 + v1.toNatClampNeg) (v2 * 48) 48)))))
noncomputable def cf_15_0 (v1 : Int32) (v2 : Int32) (N : mz_N) : (Bool × mz_N) := if (N.1 219 8) = 0 then (false, mz_pI (mz_yI (mz_wI N 225 3 1) 225 0 (221 + v1.toNatClampNeg) (v2 * 48) 24) 219 7 (mz_b01 true)) else (if 0 < (N.1 219 8) then (cf_15_58 v1 v2 (mz_pI N 219 8 ((N.1 219 8) - 1))) else (cf_15_58 v1 v2 N))
def cp_15_0 (v1 : Int32) (v2 : Int32) (N : mz_N) : Prop := ((N.1 219 8) = 0 → ((mz_ib v1 2) ∧ (mz_cpk 0 (v2 * 48) 24 48 9600))) ∧ (¬ ((N.1 219 8) = 0) → ((0 < (N.1 219 8) → (cp_15_58 v1 v2 (mz_pI N 219 8 ((N.1 219 8) - 1)))) ∧ (¬ (0 < (N.1 219 8)) → (cp_15_58 v1 v2 N))))
/-! 21 KeptHouse$Plan.sideOf (I)I -/
noncomputable def cf_21_0 (v0 : Int32) : (Int32) := if v0 < 54 then (if (mz_irem v0 9) = 0 then 0 else (if (mz_irem v0 9) = 8 then 1 else (-1))) else (if ((v0 - 54) / 8) = 0 then 2 else (if ((v0 - 54) / 8) = 6 then 3 else (-1)))
def cp_21_0 (v0 : Int32) : Prop := True
/-! 20 KeptHouse$Plan.firstKind (I)I -/
noncomputable def cf_20_0 (v0 : Int32) : (Int32) := if (cf_21_0 v0) = (-1) then 0 else 2
def cp_20_0 (v0 : Int32) : Prop := True
/-! 19 KeptHouse$Plan.layFirst ([I)V -/
noncomputable def cq_19_2 (a0 : Nat) (s : Int32 × mz_N) : ((Int32 × mz_N) ⊕ (mz_N)) := if s.1 < 550 then (if s.1 < 550 then (.inl ((s.1 + 1), mz_wI s.2 a0 s.1 (cf_20_0 (mz_irem s.1 110)))) else (.inr s.2)) else (.inr s.2)
def cd_19_2 (a0 : Nat) (s : Int32 × mz_N) : Prop := (s.1 < 550 → ((s.1 < 550 → (mz_ib s.1 550)) ∧ (¬ (s.1 < 550) → True))) ∧ (¬ (s.1 < 550) → True)
noncomputable def cf_19_2 (a0 : Nat) (v1 : Int32) (N : mz_N) : (mz_N) := mz_run (cq_19_2 a0) (v1, N)
def cp_19_2 (a0 : Nat) (v1 : Int32) (N : mz_N) : Prop := ∃ n, mz_ok (cq_19_2 a0) (cd_19_2 a0) n (v1, N)
noncomputable def cf_19_0 (a0 : Nat) (N : mz_N) : (mz_N) := (cf_19_2 a0 0 N)
def cp_19_0 (a0 : Nat) (N : mz_N) : Prop := cp_19_2 a0 0 N
/-! 18 KeptHouse$Plan.setFirst ()V -/
noncomputable def cf_18_0 (N : mz_N) : (mz_N) := mz_pI (cf_13_0 40 240 0 (cf_13_0 37 240 15 (cf_19_0 3 N))) 2 3 0
def cp_18_0 (N : mz_N) : Prop := (cp_19_0 3 N) ∧ ((cp_13_0 37 240 15 (cf_19_0 3 N)) ∧ (cp_13_0 40 240 0 (cf_13_0 37 240 15 (cf_19_0 3 N))))
/-! 25 KeptHouse$Reader.isDigit (I)Z -/
noncomputable def cf_25_0 (v0 : Int32) : (Bool) := if v0 < 48 then false else (if 57 < v0 then false else true)
def cp_25_0 (v0 : Int32) : Prop := True
/-! 27 KeptHouse$Reader.fail (I)Z -/
noncomputable def cf_27_0 (o : Nat) (v1 : Int32) (N : mz_N) : (Bool × mz_N) := (false, mz_pI (mz_pI N o 6 v1) o 7 ((mz_pI N o 6 v1).1 o 9))
def cp_27_0 (o : Nat) (v1 : Int32) (N : mz_N) : Prop := True
/-! 26 KeptHouse$Reader.scanNumber ()Z -/
noncomputable def cf_26_74 (o : Nat) (N : mz_N) : ((mz_N) ⊕ (Bool × mz_N)) := (.inl (mz_pI N o 8 ((N.1 o 8) + 1)))
def cp_26_74 (o : Nat) (N : mz_N) : Prop := True
noncomputable def cf_26_87 (o : Nat) (N : mz_N) : (Bool × mz_N) := if 6 < ((N.1 o 8) - (N.1 o 9)) then (if ((cf_27_0 o 4 N).1) = true then (true, (cf_27_0 o 4 N).2) else (false, (cf_27_0 o 4 N).2)) else (true, N)
def cp_26_87 (o : Nat) (N : mz_N) : Prop := True
noncomputable def cq_26_10 (o : Nat) (s : mz_N) : ((mz_N) ⊕ (Bool × mz_N)) := if (s.1 o 8) < (s.1 o 1) then (if (cf_25_0 (mz_gI s (o + 1) (s.1 o 8))) = true then (if ((s.1 o 8) - (s.1 o 9)) < 6 then (cf_26_74 o (mz_pI s o 11 ((((s.1 o 11) * 10) + (mz_gI s (o + 1) (s.1 o 8))) - 48))) else (cf_26_74 o s)) else (.inr (cf_26_87 o s))) else (.inr (cf_26_87 o s))
def cd_26_10 (o : Nat) (s : mz_N) : Prop := ((s.1 o 8) < (s.1 o 1) → ((mz_ib (s.1 o 8) 196) ∧ (((cf_25_0 (mz_gI s (o + 1) (s.1 o 8))) = true → ((((s.1 o 8) - (s.1 o 9)) < 6 → ((mz_ib (s.1 o 8) 196) ∧ (cp_26_74 o (mz_pI s o 11 ((((s.1 o 11) * 10) + (mz_gI s (o + 1) (s.1 o 8))) - 48))))) ∧ (¬ (((s.1 o 8) - (s.1 o 9)) < 6) → (cp_26_74 o s)))) ∧ (¬ ((cf_25_0 (mz_gI s (o + 1) (s.1 o 8))) = true) → (cp_26_87 o s))))) ∧ (¬ ((s.1 o 8) < (s.1 o 1)) → (cp_26_87 o s))
noncomputable def cf_26_10 (o : Nat) (N : mz_N) : (Bool × mz_N) := mz_run (cq_26_10 o) (N)
def cp_26_10 (o : Nat) (N : mz_N) : Prop := ∃ n, mz_ok (cq_26_10 o) (cd_26_10 o) n (N)
noncomputable def cf_26_0 (o : Nat) (N : mz_N) : (Bool × mz_N) := (cf_26_10 o (mz_pI (mz_pI N o 10 1) o 11 0))
def cp_26_0 (o : Nat) (N : mz_N) : Prop := cp_26_10 o (mz_pI (mz_pI N o 10 1) o 11 0)
/-! 28 KeptHouse$Reader.isLetter (I)Z -/
noncomputable def cf_28_12 (v0 : Int32) : (Bool) := if v0 < 65 then false else (if 90 < v0 then false else true)
def cp_28_12 (v0 : Int32) : Prop := True
noncomputable def cf_28_0 (v0 : Int32) : (Bool) := if v0 < 97 then (cf_28_12 v0) else (if 122 < v0 then (cf_28_12 v0) else true)
def cp_28_0 (v0 : Int32) : Prop := (v0 < 97 → (cp_28_12 v0)) ∧ (¬ (v0 < 97) → ((122 < v0 → (cp_28_12 v0)) ∧ (¬ (122 < v0) → True)))
/-! 30 KeptHouse$Reader.loneName (C)I -/
noncomputable def cf_30_0 (v0 : Int32) : (Int32) := if (mz_ix v0 ([108, 98, 112, 118, 114, 120]) 0) < 0 then (if (mz_ix v0 ([102, 111, 104, 116, 107, 101, 109]) 0) < 0 then (-1) else (46 + (mz_ix v0 ([102, 111, 104, 116, 107, 101, 109]) 0))) else (10 + (mz_ix v0 ([108, 98, 112, 118, 114, 120]) 0))
def cp_30_0 (v0 : Int32) : Prop := True
/-! 31 KeptHouse$Reader.numberedName (II)I -/
noncomputable def cf_31_0 (v0 : Int32) (v1 : Int32) : (Int32) := if v0 = 99 then (26 + v1) else (if v0 = 100 then (36 + v1) else (if v0 = 115 then v1 else (if v0 = 119 then (16 + v1) else (-1))))
def cp_31_0 (v0 : Int32) (v1 : Int32) : Prop := True
/-! 29 KeptHouse$Reader.scanWord ()V -/
noncomputable def cf_29_157 (o : Nat) (N : mz_N) : (mz_N) := N
def cp_29_157 (o : Nat) (N : mz_N) : Prop := True
noncomputable def cf_29_94 (o : Nat) (N : mz_N) : (mz_N) := (cf_29_157 o N)
def cp_29_94 (o : Nat) (N : mz_N) : Prop := cp_29_157 o N
noncomputable def cf_29_59 (o : Nat) (N : mz_N) : (mz_N) := if (((mz_pI N o 11 (-1)).1 o 8) - ((mz_pI N o 11 (-1)).1 o 9)) = 1 then (cf_29_94 o (mz_pI (mz_pI N o 11 (-1)) o 11 (cf_30_0 (mz_i2c (mz_gI (mz_pI N o 11 (-1)) (o + 1) ((mz_pI N o 11 (-1)).1 o 9)))))) else (if (((mz_pI N o 11 (-1)).1 o 8) - ((mz_pI N o 11 (-1)).1 o 9)) = 2 then (if (cf_25_0 (mz_gI (mz_pI N o 11 (-1)) (o + 1) (((mz_pI N o 11 (-1)).1 o 9) + 1))) = true then (cf_29_157 o (mz_pI (mz_pI N o 11 (-1)) o 11 (cf_31_0 (mz_gI (mz_pI N o 11 (-1)) (o + 1) ((mz_pI N o 11 (-1)).1 o 9)) ((mz_gI (mz_pI N o 11 (-1)) (o + 1) (((mz_pI N o 11 (-1)).1 o 9) + 1)) - 48)))) else (cf_29_157 o (mz_pI N o 11 (-1)))) else (cf_29_157 o (mz_pI N o 11 (-1))))
def cp_29_59 (o : Nat) (N : mz_N) : Prop := ((((mz_pI N o 11 (-1)).1 o 8) - ((mz_pI N o 11 (-1)).1 o 9)) = 1 → ((mz_ib ((mz_pI N o 11 (-1)).1 o 9) 196) ∧ (cp_29_94 o (mz_pI (mz_pI N o 11 (-1)) o 11 (cf_30_0 (mz_i2c (mz_gI (mz_pI N o 11 (-1)) (o + 1) ((mz_pI N o 11 (-1)).1 o 9)))))))) ∧ (¬ ((((mz_pI N o 11 (-1)).1 o 8) - ((mz_pI N o 11 (-1)).1 o 9)) = 1) → (((((mz_pI N o 11 (-1)).1 o 8) - ((mz_pI N o 11 (-1)).1 o 9)) = 2 → ((mz_ib (((mz_pI N o 11 (-1)).1 o 9) + 1) 196) ∧ (((cf_25_0 (mz_gI (mz_pI N o 11 (-1)) (o + 1) (((mz_pI N o 11 (-1)).1 o 9) + 1))) = true → ((mz_ib ((mz_pI N o 11 (-1)).1 o 9) 196) ∧ ((mz_ib (((mz_pI N o 11 (-1)).1 o 9) + 1) 196) ∧ (cp_29_157 o (mz_pI (mz_pI N o 11 (-1)) o 11 (cf_31_0 (mz_gI (mz_pI N o 11 (-1)) (o + 1) ((mz_pI N o 11 (-1)).1 o 9)) ((mz_gI (mz_pI N o 11 (-1)) (o + 1) (((mz_pI N o 11 (-1)).1 o 9) + 1)) - 48))))))) ∧ (¬ ((cf_25_0 (mz_gI (mz_pI N o 11 (-1)) (o + 1) (((mz_pI N o 11 (-1)).1 o 9) + 1))) = true) → (cp_29_157 o (mz_pI N o 11 (-1))))))) ∧ (¬ ((((mz_pI N o 11 (-1)).1 o 8) - ((mz_pI N o 11 (-1)).1 o 9)) = 2) → (cp_29_157 o (mz_pI N o 11 (-1))))))
noncomputable def cf_29_46 (o : Nat) (N : mz_N) : ((mz_N) ⊕ (mz_N)) := (.inl (mz_pI N o 8 ((N.1 o 8) + 1)))
def cp_29_46 (o : Nat) (N : mz_N) : Prop := True
noncomputable def cq_29_5 (o : Nat) (s : mz_N) : ((mz_N) ⊕ (mz_N)) := if (s.1 o 8) < (s.1 o 1) then (if (cf_28_0 (mz_gI s (o + 1) (s.1 o 8))) = true then (cf_29_46 o s) else (if (cf_25_0 (mz_gI s (o + 1) (s.1 o 8))) = true then (cf_29_46 o s) else (.inr (cf_29_59 o s)))) else (.inr (cf_29_59 o s))
def cd_29_5 (o : Nat) (s : mz_N) : Prop := ((s.1 o 8) < (s.1 o 1) → ((mz_ib (s.1 o 8) 196) ∧ ((cp_28_0 (mz_gI s (o + 1) (s.1 o 8))) ∧ (((cf_28_0 (mz_gI s (o + 1) (s.1 o 8))) = true → (cp_29_46 o s)) ∧ (¬ ((cf_28_0 (mz_gI s (o + 1) (s.1 o 8))) = true) → ((mz_ib (s.1 o 8) 196) ∧ (((cf_25_0 (mz_gI s (o + 1) (s.1 o 8))) = true → (cp_29_46 o s)) ∧ (¬ ((cf_25_0 (mz_gI s (o + 1) (s.1 o 8))) = true) → (cp_29_59 o s))))))))) ∧ (¬ ((s.1 o 8) < (s.1 o 1)) → (cp_29_59 o s))
noncomputable def cf_29_5 (o : Nat) (N : mz_N) : (mz_N) := mz_run (cq_29_5 o) (N)
def cp_29_5 (o : Nat) (N : mz_N) : Prop := ∃ n, mz_ok (cq_29_5 o) (cd_29_5 o) n (N)
noncomputable def cf_29_0 (o : Nat) (N : mz_N) : (mz_N) := (cf_29_5 o (mz_pI N o 10 2))
def cp_29_0 (o : Nat) (N : mz_N) : Prop := cp_29_5 o (mz_pI N o 10 2)
/-! 24 KeptHouse$Reader.advance ()Z -/
noncomputable def cf_24_38 (o : Nat) (N : mz_N) : (Bool × mz_N) := if ((mz_pI N o 9 (N.1 o 8)).1 o 8) < ((mz_pI N o 9 (N.1 o 8)).1 o 1) then (if (cf_25_0 (mz_gI (mz_pI N o 9 (N.1 o 8)) (o + 1) ((mz_pI N o 9 (N.1 o 8)).1 o 8))) = true then (((cf_26_0 o (mz_pI N o 9 (N.1 o 8))).1), (cf_26_0 o (mz_pI N o 9 (N.1 o 8))).2) else (if (cf_28_0 (mz_gI (mz_pI N o 9 (N.1 o 8)) (o + 1) ((mz_pI N o 9 (N.1 o 8)).1 o 8))) = true then (true, (cf_29_0 o (mz_pI N o 9 (N.1 o 8)))) else (if (mz_ix (mz_i2c (mz_gI (mz_pI N o 9 (N.1 o 8)) (o + 1) ((mz_pI N o 9 (N.1 o 8)).1 o 8))) ([61, 59, 40, 41, 43, 45, 42, 60, 62, 63, 58]) 0) < 0 then (((cf_27_0 o 1 (mz_pI N o 9 (N.1 o 8))).1), (cf_27_0 o 1 (mz_pI N o 9 (N.1 o 8))).2) else (true, mz_pI (mz_pI (mz_pI N o 9 (N.1 o 8)) o 10 (mz_gI (mz_pI N o 9 (N.1 o 8)) (o + 1) ((mz_pI N o 9 (N.1 o 8)).1 o 8))) o 8 (((mz_pI (mz_pI N o 9 (N.1 o 8)) o 10 (mz_gI (mz_pI N o 9 (N.1 o 8)) (o + 1) ((mz_pI N o 9 (N.1 o 8)).1 o 8))).1 o 8) + 1))))) else (true, mz_pI (mz_pI N o 9 (N.1 o 8)) o 10 0)
def cp_24_38 (o : Nat) (N : mz_N) : Prop := (((mz_pI N o 9 (N.1 o 8)).1 o 8) < ((mz_pI N o 9 (N.1 o 8)).1 o 1) → ((mz_ib ((mz_pI N o 9 (N.1 o 8)).1 o 8) 196) ∧ (((cf_25_0 (mz_gI (mz_pI N o 9 (N.1 o 8)) (o + 1) ((mz_pI N o 9 (N.1 o 8)).1 o 8))) = true → (cp_26_0 o (mz_pI N o 9 (N.1 o 8)))) ∧ (¬ ((cf_25_0 (mz_gI (mz_pI N o 9 (N.1 o 8)) (o + 1) ((mz_pI N o 9 (N.1 o 8)).1 o 8))) = true) → ((cp_28_0 (mz_gI (mz_pI N o 9 (N.1 o 8)) (o + 1) ((mz_pI N o 9 (N.1 o 8)).1 o 8))) ∧ (((cf_28_0 (mz_gI (mz_pI N o 9 (N.1 o 8)) (o + 1) ((mz_pI N o 9 (N.1 o 8)).1 o 8))) = true → (cp_29_0 o (mz_pI N o 9 (N.1 o 8)))) ∧ (¬ ((cf_28_0 (mz_gI (mz_pI N o 9 (N.1 o 8)) (o + 1) ((mz_pI N o 9 (N.1 o 8)).1 o 8))) = true) → True))))))) ∧ (¬ (((mz_pI N o 9 (N.1 o 8)).1 o 8) < ((mz_pI N o 9 (N.1 o 8)).1 o 1)) → True)
noncomputable def cq_24_0 (o : Nat) (s : mz_N) : ((mz_N) ⊕ (Bool × mz_N)) := if (s.1 o 8) < (s.1 o 1) then (if (mz_gI s (o + 1) (s.1 o 8)) = 32 then (.inl (mz_pI s o 8 ((s.1 o 8) + 1))) else (.inr (cf_24_38 o s))) else (.inr (cf_24_38 o s))
def cd_24_0 (o : Nat) (s : mz_N) : Prop := ((s.1 o 8) < (s.1 o 1) → ((mz_ib (s.1 o 8) 196) ∧ (((mz_gI s (o + 1) (s.1 o 8)) = 32 → True) ∧ (¬ ((mz_gI s (o + 1) (s.1 o 8)) = 32) → (cp_24_38 o s))))) ∧ (¬ ((s.1 o 8) < (s.1 o 1)) → (cp_24_38 o s))
noncomputable def cf_24_0 (o : Nat) (N : mz_N) : (Bool × mz_N) := mz_run (cq_24_0 o) (N)
def cp_24_0 (o : Nat) (N : mz_N) : Prop := ∃ n, mz_ok (cq_24_0 o) (cd_24_0 o) n (N)
/-! 32 KeptHouse$Reader.readTarget ()Z -/
noncomputable def cf_32_76 (o : Nat) (N : mz_N) : (Bool × mz_N) := (true, N)
def cp_32_76 (o : Nat) (N : mz_N) : Prop := True
noncomputable def cf_32_47 (o : Nat) (N : mz_N) : (Bool × mz_N) := (((cf_27_0 o 3 N).1), (cf_27_0 o 3 N).2)
def cp_32_47 (o : Nat) (N : mz_N) : Prop := True
noncomputable def cf_32_0 (o : Nat) (N : mz_N) : (Bool × mz_N) := if (N.1 o 5) < 12 then (if (N.1 o 10) = 2 then (if (N.1 o 11) = (-1) then (cf_32_47 o N) else (if (N.1 o 11) < 16 then (cf_32_76 o (mz_pI (mz_pI (mz_pI N o 13 (N.1 o 11)) o 5 (((mz_pI N o 13 (N.1 o 11)).1 o 5) + 1)) o 12 1)) else (cf_32_47 o N))) else (((cf_27_0 o 2 N).1), (cf_27_0 o 2 N).2)) else (((cf_27_0 o 6 N).1), (cf_27_0 o 6 N).2)
def cp_32_0 (o : Nat) (N : mz_N) : Prop := ((N.1 o 5) < 12 → (((N.1 o 10) = 2 → (((N.1 o 11) = (-1) → (cp_32_47 o N)) ∧ (¬ ((N.1 o 11) = (-1)) → (((N.1 o 11) < 16 → (cp_32_76 o (mz_pI (mz_pI (mz_pI N o 13 (N.1 o 11)) o 5 (((mz_pI N o 13 (N.1 o 11)).1 o 5) + 1)) o 12 1))) ∧ (¬ ((N.1 o 11) < 16) → (cp_32_47 o N)))))) ∧ (¬ ((N.1 o 10) = 2) → True))) ∧ (¬ ((N.1 o 5) < 12) → True)
/-! 33 KeptHouse$Reader.readEquals ()Z -/
noncomputable def cf_33_0 (o : Nat) (N : mz_N) : (Bool × mz_N) := if ((mz_pI N o 12 2).1 o 10) = 61 then (true, mz_pI N o 12 2) else (if ((cf_27_0 o 2 (mz_pI N o 12 2)).1) = true then (true, (cf_27_0 o 2 (mz_pI N o 12 2)).2) else (false, (cf_27_0 o 2 (mz_pI N o 12 2)).2))
def cp_33_0 (o : Nat) (N : mz_N) : Prop := True
/-! 35 KeptHouse$Reader.addStep (II)V -/
noncomputable def cf_35_30 (o : Nat) (N : mz_N) : (mz_N) := mz_pI N o 4 ((N.1 o 4) + 1)
def cp_35_30 (o : Nat) (N : mz_N) : Prop := True
noncomputable def cf_35_0 (o : Nat) (v1 : Int32) (v2 : Int32) (N : mz_N) : (mz_N) := if (N.1 o 4) < 196 then (cf_35_30 o (mz_wI (mz_wI N (o + 2) (N.1 o 4) v1) (o + 3) ((mz_wI N (o + 2) (N.1 o 4) v1).1 o 4) v2)) else N
def cp_35_0 (o : Nat) (v1 : Int32) (v2 : Int32) (N : mz_N) : Prop := ((N.1 o 4) < 196 → ((mz_ib (N.1 o 4) 196) ∧ ((mz_ib ((mz_wI N (o + 2) (N.1 o 4) v1).1 o 4) 196) ∧ (cp_35_30 o (mz_wI (mz_wI N (o + 2) (N.1 o 4) v1) (o + 3) ((mz_wI N (o + 2) (N.1 o 4) v1).1 o 4) v2))))) ∧ (¬ ((N.1 o 4) < 196) → True)
/-! 37 KeptHouse$Reader.latest ()I -/
noncomputable def cf_37_0 (o : Nat) (N : mz_N) : (Int32) := if 0 < (N.1 o 15) then (mz_gI N (o + 4) ((N.1 o 15) - 1)) else (-1)
def cp_37_0 (o : Nat) (N : mz_N) : Prop := (0 < (N.1 o 15) → (mz_ib ((N.1 o 15) - 1) 196)) ∧ (¬ (0 < (N.1 o 15)) → True)
/-! 36 KeptHouse$Reader.endFactor ()V -/
noncomputable def cf_36_44 (o : Nat) (N : mz_N) : (mz_N) := mz_pI N o 12 3
def cp_36_44 (o : Nat) (N : mz_N) : Prop := True
noncomputable def cq_36_0 (o : Nat) (s : mz_N) : ((mz_N) ⊕ (mz_N)) := if 0 < (s.1 o 15) then (if (cf_37_0 o s) = 3 then (.inl (mz_pI (mz_pI (cf_35_0 o 3 0 s) o 16 (((cf_35_0 o 3 0 s).1 o 16) - 1)) o 15 (((mz_pI (cf_35_0 o 3 0 s) o 16 (((cf_35_0 o 3 0 s).1 o 16) - 1)).1 o 15) - 1))) else (.inr (cf_36_44 o s))) else (.inr (cf_36_44 o s))
def cd_36_0 (o : Nat) (s : mz_N) : Prop := (0 < (s.1 o 15) → ((cp_37_0 o s) ∧ (((cf_37_0 o s) = 3 → (cp_35_0 o 3 0 s)) ∧ (¬ ((cf_37_0 o s) = 3) → (cp_36_44 o s))))) ∧ (¬ (0 < (s.1 o 15)) → (cp_36_44 o s))
noncomputable def cf_36_0 (o : Nat) (N : mz_N) : (mz_N) := mz_run (cq_36_0 o) (N)
def cp_36_0 (o : Nat) (N : mz_N) : Prop := ∃ n, mz_ok (cq_36_0 o) (cd_36_0 o) n (N)
/-! 39 KeptHouse$Reader.await (I)V -/
noncomputable def cf_39_30 (o : Nat) (N : mz_N) : (mz_N) := mz_pI N o 12 2
def cp_39_30 (o : Nat) (N : mz_N) : Prop := True
noncomputable def cf_39_0 (o : Nat) (v1 : Int32) (N : mz_N) : (mz_N) := if (N.1 o 15) < 196 then (cf_39_30 o (mz_pI (mz_wI N (o + 4) (N.1 o 15) v1) o 15 (((mz_wI N (o + 4) (N.1 o 15) v1).1 o 15) + 1))) else (cf_39_30 o N)
def cp_39_0 (o : Nat) (v1 : Int32) (N : mz_N) : Prop := ((N.1 o 15) < 196 → ((mz_ib (N.1 o 15) 196) ∧ (cp_39_30 o (mz_pI (mz_wI N (o + 4) (N.1 o 15) v1) o 15 (((mz_wI N (o + 4) (N.1 o 15) v1).1 o 15) + 1))))) ∧ (¬ ((N.1 o 15) < 196) → (cp_39_30 o N))
/-! 38 KeptHouse$Reader.open (I)Z -/
noncomputable def cf_38_0 (o : Nat) (v1 : Int32) (N : mz_N) : (Bool × mz_N) := if (N.1 o 16) < 10 then (true, (cf_39_0 o v1 (mz_pI N o 16 ((N.1 o 16) + 1)))) else (((cf_27_0 o 5 N).1), (cf_27_0 o 5 N).2)
def cp_38_0 (o : Nat) (v1 : Int32) (N : mz_N) : Prop := ((N.1 o 16) < 10 → (cp_39_0 o v1 (mz_pI N o 16 ((N.1 o 16) + 1)))) ∧ (¬ ((N.1 o 16) < 10) → True)
/-! 34 KeptHouse$Reader.readOperand ()Z -/
noncomputable def cf_34_105 (o : Nat) (s1 : Int32) (N : mz_N) : (Bool × mz_N) := (((cf_38_0 o s1 N).1), (cf_38_0 o s1 N).2)
def cp_34_105 (o : Nat) (s1 : Int32) (N : mz_N) : Prop := cp_38_0 o s1 N
noncomputable def cf_34_89 (o : Nat) (N : mz_N) : (Bool × mz_N) := if (N.1 o 10) = 45 then (cf_34_105 o 3 N) else (cf_34_105 o 40 N)
def cp_34_89 (o : Nat) (N : mz_N) : Prop := ((N.1 o 10) = 45 → (cp_34_105 o 3 N)) ∧ (¬ ((N.1 o 10) = 45) → (cp_34_105 o 40 N))
noncomputable def cf_34_52 (o : Nat) (s1 : Bool) (N : mz_N) : (Bool × mz_N) := (true, (cf_36_0 o (cf_35_0 o (mz_b01 s1) (N.1 o 11) N)))
def cp_34_52 (o : Nat) (s1 : Bool) (N : mz_N) : Prop := (cp_35_0 o (mz_b01 s1) (N.1 o 11) N) ∧ (cp_36_0 o (cf_35_0 o (mz_b01 s1) (N.1 o 11) N))
noncomputable def cf_34_38 (o : Nat) (N : mz_N) : (Bool × mz_N) := if (N.1 o 10) = 1 then (cf_34_52 o false N) else (cf_34_52 o true N)
def cp_34_38 (o : Nat) (N : mz_N) : Prop := ((N.1 o 10) = 1 → (cp_34_52 o false N)) ∧ (¬ ((N.1 o 10) = 1) → (cp_34_52 o true N))
noncomputable def cf_34_22 (o : Nat) (N : mz_N) : (Bool × mz_N) := if (N.1 o 10) = 1 then (cf_34_38 o N) else (if (N.1 o 10) = 2 then (cf_34_38 o N) else (if (N.1 o 10) = 45 then (cf_34_89 o N) else (if (N.1 o 10) = 40 then (cf_34_89 o N) else (((cf_27_0 o 2 N).1), (cf_27_0 o 2 N).2))))
def cp_34_22 (o : Nat) (N : mz_N) : Prop := ((N.1 o 10) = 1 → (cp_34_38 o N)) ∧ (¬ ((N.1 o 10) = 1) → (((N.1 o 10) = 2 → (cp_34_38 o N)) ∧ (¬ ((N.1 o 10) = 2) → (((N.1 o 10) = 45 → (cp_34_89 o N)) ∧ (¬ ((N.1 o 10) = 45) → (((N.1 o 10) = 40 → (cp_34_89 o N)) ∧ (¬ ((N.1 o 10) = 40) → True)))))))
noncomputable def cf_34_0 (o : Nat) (N : mz_N) : (Bool × mz_N) := if (N.1 o 10) = 2 then (if (N.1 o 11) = (-1) then (((cf_27_0 o 3 N).1), (cf_27_0 o 3 N).2) else (cf_34_22 o N)) else (cf_34_22 o N)
def cp_34_0 (o : Nat) (N : mz_N) : Prop := ((N.1 o 10) = 2 → (((N.1 o 11) = (-1) → True) ∧ (¬ ((N.1 o 11) = (-1)) → (cp_34_22 o N)))) ∧ (¬ ((N.1 o 10) = 2) → (cp_34_22 o N))
/-! 41 KeptHouse$Reader.firmnessOf (I)I -/
noncomputable def cf_41_0 (v0 : Int32) : (Int32) := if v0 = 42 then 3 else (if v0 = 43 then 2 else (if v0 = 45 then 2 else (if v0 = 60 then 1 else (if v0 = 62 then 1 else 0))))
def cp_41_0 (v0 : Int32) : Prop := True
/-! 42 KeptHouse$Reader.reckonFrom (I)V -/
noncomputable def cq_42_0 (o : Nat) (v1 : Int32) (s : mz_N) : ((mz_N) ⊕ (mz_N)) := if 0 < (s.1 o 15) then (if (cf_41_0 (cf_37_0 o s)) < v1 then (.inr s) else (.inl (mz_pI (cf_35_0 o (cf_37_0 o s) 0 s) o 15 (((cf_35_0 o (cf_37_0 o s) 0 s).1 o 15) - 1)))) else (.inr s)
def cd_42_0 (o : Nat) (v1 : Int32) (s : mz_N) : Prop := (0 < (s.1 o 15) → ((cp_37_0 o s) ∧ (((cf_41_0 (cf_37_0 o s)) < v1 → True) ∧ (¬ ((cf_41_0 (cf_37_0 o s)) < v1) → ((cp_37_0 o s) ∧ (cp_35_0 o (cf_37_0 o s) 0 s)))))) ∧ (¬ (0 < (s.1 o 15)) → True)
noncomputable def cf_42_0 (o : Nat) (v1 : Int32) (N : mz_N) : (mz_N) := mz_run (cq_42_0 o v1) (N)
def cp_42_0 (o : Nat) (v1 : Int32) (N : mz_N) : Prop := ∃ n, mz_ok (cq_42_0 o v1) (cd_42_0 o v1) n (N)
/-! 43 KeptHouse$Reader.endExpression ()Z -/
noncomputable def cf_43_160 (o : Nat) (N : mz_N) : (Bool × mz_N) := (((cf_27_0 o 2 N).1), (cf_27_0 o 2 N).2)
def cp_43_160 (o : Nat) (N : mz_N) : Prop := True
noncomputable def cf_43_128 (o : Nat) (N : mz_N) : (Bool × mz_N) := if (N.1 o 10) = 59 then (if (N.1 o 15) = 0 then (true, mz_pI (cf_35_0 o 2 (N.1 o 13) N) o 12 0) else (cf_43_160 o N)) else (cf_43_160 o N)
def cp_43_128 (o : Nat) (N : mz_N) : Prop := ((N.1 o 10) = 59 → (((N.1 o 15) = 0 → (cp_35_0 o 2 (N.1 o 13) N)) ∧ (¬ ((N.1 o 15) = 0) → (cp_43_160 o N)))) ∧ (¬ ((N.1 o 10) = 59) → (cp_43_160 o N))
noncomputable def cf_43_84 (o : Nat) (N : mz_N) : (Bool × mz_N) := if (N.1 o 10) = 41 then (if (cf_37_0 o N) = 40 then (true, (cf_36_0 o (mz_pI (mz_pI N o 15 ((N.1 o 15) - 1)) o 16 (((mz_pI N o 15 ((N.1 o 15) - 1)).1 o 16) - 1)))) else (cf_43_128 o N)) else (cf_43_128 o N)
def cp_43_84 (o : Nat) (N : mz_N) : Prop := ((N.1 o 10) = 41 → ((cp_37_0 o N) ∧ (((cf_37_0 o N) = 40 → (cp_36_0 o (mz_pI (mz_pI N o 15 ((N.1 o 15) - 1)) o 16 (((mz_pI N o 15 ((N.1 o 15) - 1)).1 o 16) - 1)))) ∧ (¬ ((cf_37_0 o N) = 40) → (cp_43_128 o N))))) ∧ (¬ ((N.1 o 10) = 41) → (cp_43_128 o N))
noncomputable def cf_43_46 (o : Nat) (N : mz_N) : (Bool × mz_N) := if (N.1 o 10) = 58 then (if (cf_37_0 o N) = 63 then (true, mz_pI (mz_wI N (o + 4) ((N.1 o 15) - 1) 58) o 12 2) else (cf_43_84 o N)) else (cf_43_84 o N)
def cp_43_46 (o : Nat) (N : mz_N) : Prop := ((N.1 o 10) = 58 → ((cp_37_0 o N) ∧ (((cf_37_0 o N) = 63 → (mz_ib ((N.1 o 15) - 1) 196)) ∧ (¬ ((cf_37_0 o N) = 63) → (cp_43_84 o N))))) ∧ (¬ ((N.1 o 10) = 58) → (cp_43_84 o N))
noncomputable def cq_43_0 (o : Nat) (s : mz_N) : ((mz_N) ⊕ (Bool × mz_N)) := if 0 < (s.1 o 15) then (if (cf_37_0 o s) = 58 then (.inl (mz_pI (mz_pI (cf_35_0 o 63 0 s) o 16 (((cf_35_0 o 63 0 s).1 o 16) - 1)) o 15 (((mz_pI (cf_35_0 o 63 0 s) o 16 (((cf_35_0 o 63 0 s).1 o 16) - 1)).1 o 15) - 1))) else (.inr (cf_43_46 o s))) else (.inr (cf_43_46 o s))
def cd_43_0 (o : Nat) (s : mz_N) : Prop := (0 < (s.1 o 15) → ((cp_37_0 o s) ∧ (((cf_37_0 o s) = 58 → (cp_35_0 o 63 0 s)) ∧ (¬ ((cf_37_0 o s) = 58) → (cp_43_46 o s))))) ∧ (¬ (0 < (s.1 o 15)) → (cp_43_46 o s))
noncomputable def cf_43_0 (o : Nat) (N : mz_N) : (Bool × mz_N) := mz_run (cq_43_0 o) (N)
def cp_43_0 (o : Nat) (N : mz_N) : Prop := ∃ n, mz_ok (cq_43_0 o) (cd_43_0 o) n (N)
/-! 40 KeptHouse$Reader.readOperator ()Z -/
noncomputable def cf_40_26 (o : Nat) (N : mz_N) : (Bool × mz_N) := (true, N)
def cp_40_26 (o : Nat) (N : mz_N) : Prop := True
noncomputable def cf_40_0 (o : Nat) (N : mz_N) : (Bool × mz_N) := if 1 < (cf_41_0 (N.1 o 10)) then (cf_40_26 o (cf_39_0 o ((cf_42_0 o (cf_41_0 (N.1 o 10)) N).1 o 10) (cf_42_0 o (cf_41_0 (N.1 o 10)) N))) else (if (cf_41_0 (N.1 o 10)) = 1 then (if (cf_41_0 (cf_37_0 o (cf_42_0 o 2 N))) = 1 then (((cf_27_0 o 2 (cf_42_0 o 2 N)).1), (cf_27_0 o 2 (cf_42_0 o 2 N)).2) else (true, (cf_39_0 o ((cf_42_0 o 2 N).1 o 10) (cf_42_0 o 2 N)))) else (if ((cf_42_0 o 1 N).1 o 10) = 63 then (((cf_38_0 o 63 (cf_42_0 o 1 N)).1), (cf_38_0 o 63 (cf_42_0 o 1 N)).2) else (((cf_43_0 o (cf_42_0 o 1 N)).1), (cf_43_0 o (cf_42_0 o 1 N)).2)))
def cp_40_0 (o : Nat) (N : mz_N) : Prop := (1 < (cf_41_0 (N.1 o 10)) → ((cp_42_0 o (cf_41_0 (N.1 o 10)) N) ∧ ((cp_39_0 o ((cf_42_0 o (cf_41_0 (N.1 o 10)) N).1 o 10) (cf_42_0 o (cf_41_0 (N.1 o 10)) N)) ∧ (cp_40_26 o (cf_39_0 o ((cf_42_0 o (cf_41_0 (N.1 o 10)) N).1 o 10) (cf_42_0 o (cf_41_0 (N.1 o 10)) N)))))) ∧ (¬ (1 < (cf_41_0 (N.1 o 10))) → (((cf_41_0 (N.1 o 10)) = 1 → ((cp_42_0 o 2 N) ∧ ((cp_37_0 o (cf_42_0 o 2 N)) ∧ (((cf_41_0 (cf_37_0 o (cf_42_0 o 2 N))) = 1 → True) ∧ (¬ ((cf_41_0 (cf_37_0 o (cf_42_0 o 2 N))) = 1) → (cp_39_0 o ((cf_42_0 o 2 N).1 o 10) (cf_42_0 o 2 N))))))) ∧ (¬ ((cf_41_0 (N.1 o 10)) = 1) → ((cp_42_0 o 1 N) ∧ ((((cf_42_0 o 1 N).1 o 10) = 63 → (cp_38_0 o 63 (cf_42_0 o 1 N))) ∧ (¬ (((cf_42_0 o 1 N).1 o 10) = 63) → (cp_43_0 o (cf_42_0 o 1 N))))))))
/-! 23 KeptHouse$Reader.read ([II)Z -/
noncomputable def cf_23_172 (o : Nat) (a1 : Nat) (s0 : Bool) (v4 : Int32) (N : mz_N) : ((Bool × Int32 × mz_N) ⊕ (Bool × mz_N)) := (.inl (s0, (v4 + 1), N))
def cp_23_172 (o : Nat) (a1 : Nat) (s0 : Bool) (v4 : Int32) (N : mz_N) : Prop := True
noncomputable def cf_23_171 (o : Nat) (a1 : Nat) (v4 : Int32) (N : mz_N) : ((Bool × Int32 × mz_N) ⊕ (Bool × mz_N)) := (cf_23_172 o a1 false v4 N)
def cp_23_171 (o : Nat) (a1 : Nat) (v4 : Int32) (N : mz_N) : Prop := cp_23_172 o a1 false v4 N
noncomputable def cf_23_156 (o : Nat) (a1 : Nat) (v3 : Bool) (v4 : Int32) (N : mz_N) : ((Bool × Int32 × mz_N) ⊕ (Bool × mz_N)) := if v3 = true then (if ((cf_24_0 o N).1) = true then (cf_23_172 o a1 true v4 ((cf_24_0 o N).2)) else (cf_23_171 o a1 v4 ((cf_24_0 o N).2))) else (cf_23_171 o a1 v4 N)
def cp_23_156 (o : Nat) (a1 : Nat) (v3 : Bool) (v4 : Int32) (N : mz_N) : Prop := (v3 = true → ((cp_24_0 o N) ∧ ((((cf_24_0 o N).1) = true → (cp_23_172 o a1 true v4 ((cf_24_0 o N).2))) ∧ (¬ (((cf_24_0 o N).1) = true) → (cp_23_171 o a1 v4 ((cf_24_0 o N).2)))))) ∧ (¬ (v3 = true) → (cp_23_171 o a1 v4 N))
noncomputable def cf_23_104 (o : Nat) (a1 : Nat) (v4 : Int32) (N : mz_N) : ((Bool × Int32 × mz_N) ⊕ (Bool × mz_N)) := if (N.1 o 12) = 0 then (cf_23_156 o a1 ((cf_32_0 o N).1) v4 ((cf_32_0 o N).2)) else (if (N.1 o 12) = 1 then (cf_23_156 o a1 ((cf_33_0 o N).1) v4 ((cf_33_0 o N).2)) else (if (N.1 o 12) = 2 then (cf_23_156 o a1 ((cf_34_0 o N).1) v4 ((cf_34_0 o N).2)) else (cf_23_156 o a1 ((cf_40_0 o N).1) v4 ((cf_40_0 o N).2))))
def cp_23_104 (o : Nat) (a1 : Nat) (v4 : Int32) (N : mz_N) : Prop := ((N.1 o 12) = 0 → ((cp_32_0 o N) ∧ (cp_23_156 o a1 ((cf_32_0 o N).1) v4 ((cf_32_0 o N).2)))) ∧ (¬ ((N.1 o 12) = 0) → (((N.1 o 12) = 1 → (cp_23_156 o a1 ((cf_33_0 o N).1) v4 ((cf_33_0 o N).2))) ∧ (¬ ((N.1 o 12) = 1) → (((N.1 o 12) = 2 → ((cp_34_0 o N) ∧ (cp_23_156 o a1 ((cf_34_0 o N).1) v4 ((cf_34_0 o N).2)))) ∧ (¬ ((N.1 o 12) = 2) → ((cp_40_0 o N) ∧ (cp_23_156 o a1 ((cf_40_0 o N).1) v4 ((cf_40_0 o N).2))))))))
noncomputable def cq_23_78 (o : Nat) (a1 : Nat) (s : Bool × Int32 × mz_N) : ((Bool × Int32 × mz_N) ⊕ (Bool × mz_N)) := if 196 < s.2.1 then (.inr (s.1, s.2.2)) else (if s.1 = true then (if (s.2.2.1 o 10) = 0 then (if (s.2.2.1 o 12) = 0 then (.inr (s.1, s.2.2)) else (cf_23_104 o a1 s.2.1 s.2.2)) else (cf_23_104 o a1 s.2.1 s.2.2)) else (.inr (s.1, s.2.2)))
def cd_23_78 (o : Nat) (a1 : Nat) (s : Bool × Int32 × mz_N) : Prop := (196 < s.2.1 → True) ∧ (¬ (196 < s.2.1) → ((s.1 = true → (((s.2.2.1 o 10) = 0 → (((s.2.2.1 o 12) = 0 → True) ∧ (¬ ((s.2.2.1 o 12) = 0) → (cp_23_104 o a1 s.2.1 s.2.2)))) ∧ (¬ ((s.2.2.1 o 10) = 0) → (cp_23_104 o a1 s.2.1 s.2.2)))) ∧ (¬ (s.1 = true) → True)))
noncomputable def cf_23_78 (o : Nat) (a1 : Nat) (v3 : Bool) (v4 : Int32) (N : mz_N) : (Bool × mz_N) := mz_run (cq_23_78 o a1) (v3, v4, N)
def cp_23_78 (o : Nat) (a1 : Nat) (v3 : Bool) (v4 : Int32) (N : mz_N) : Prop := ∃ n, mz_ok (cq_23_78 o a1) (cd_23_78 o a1) n (v3, v4, N)
noncomputable def cf_23_70 (o : Nat) (a1 : Nat) (N : mz_N) : (Bool × mz_N) := (cf_23_78 o a1 ((cf_24_0 o N).1) 0 ((cf_24_0 o N).2))
def cp_23_70 (o : Nat) (a1 : Nat) (N : mz_N) : Prop := (cp_24_0 o N) ∧ (cp_23_78 o a1 ((cf_24_0 o N).1) 0 ((cf_24_0 o N).2))
noncomputable def cf_23_30 (o : Nat) (a1 : Nat) (N : mz_N) : (Bool × mz_N) := (cf_23_70 o a1 (mz_pI (mz_pI (mz_pI (mz_pI (mz_pI (mz_pI (mz_pI (mz_pI N o 4 0) o 5 0) o 6 0) o 7 0) o 8 0) o 12 0) o 15 0) o 16 0))
def cp_23_30 (o : Nat) (a1 : Nat) (N : mz_N) : Prop := cp_23_70 o a1 (mz_pI (mz_pI (mz_pI (mz_pI (mz_pI (mz_pI (mz_pI (mz_pI N o 4 0) o 5 0) o 6 0) o 7 0) o 8 0) o 12 0) o 15 0) o 16 0)
noncomputable def cf_23_0 (o : Nat) (a1 : Nat) (v2 : Int32) (N : mz_N) : (Bool × mz_N) := (cf_23_30 o a1 (mz_yI (mz_pI N o 1 (mz_imin (mz_imin v2 196) 196)) a1 0 (o + 1) 0 ((mz_pI N o 1 (mz_imin (mz_imin v2 196) 196)).1 o 1)))
def cp_23_0 (o : Nat) (a1 : Nat) (v2 : Int32) (N : mz_N) : Prop := (mz_cpk 0 0 ((mz_pI N o 1 (mz_imin (mz_imin v2 196) 196)).1 o 1) 196 196) ∧ (cp_23_30 o a1 (mz_yI (mz_pI N o 1 (mz_imin (mz_imin v2 196) 196)) a1 0 (o + 1) 0 ((mz_pI N o 1 (mz_imin (mz_imin v2 196) 196)).1 o 1)))
/-! 46 java/util/Arrays.rangeCheck (III)V -/
noncomputable def cf_46_0 (v0 : Int32) (v1 : Int32) (v2 : Int32) : (Unit) := if v2 < v1 then default else (if v1 < 0 then default else (if v0 < v2 then default else ()))
def cp_46_0 (v0 : Int32) (v1 : Int32) (v2 : Int32) : Prop := (v2 < v1 → False) ∧ (¬ (v2 < v1) → ((v1 < 0 → False) ∧ (¬ (v1 < 0) → ((v0 < v2 → False) ∧ (¬ (v0 < v2) → True)))))
/-! 45 java/util/Arrays.fill ([IIII)V -/
noncomputable def cq_45_10 (a0 : Nat) (n0 : Nat) (v2 : Int32) (v3 : Int32) (s : Int32 × mz_N) : ((Int32 × mz_N) ⊕ (mz_N)) := if s.1 < v2 then (.inl ((s.1 + 1), mz_wI s.2 a0 s.1 v3)) else (.inr s.2)
def cd_45_10 (a0 : Nat) (n0 : Nat) (v2 : Int32) (v3 : Int32) (s : Int32 × mz_N) : Prop := (s.1 < v2 → (mz_ib s.1 n0)) ∧ (¬ (s.1 < v2) → True)
noncomputable def cf_45_10 (a0 : Nat) (n0 : Nat) (v2 : Int32) (v3 : Int32) (v4 : Int32) (N : mz_N) : (mz_N) := mz_run (cq_45_10 a0 n0 v2 v3) (v4, N)
def cp_45_10 (a0 : Nat) (n0 : Nat) (v2 : Int32) (v3 : Int32) (v4 : Int32) (N : mz_N) : Prop := ∃ n, mz_ok (cq_45_10 a0 n0 v2 v3) (cd_45_10 a0 n0 v2 v3) n (v4, N)
noncomputable def cf_45_0 (a0 : Nat) (n0 : Nat) (v1 : Int32) (v2 : Int32) (v3 : Int32) (N : mz_N) : (mz_N) := (cf_45_10 a0 n0 v2 v3 v1 N)
def cp_45_0 (a0 : Nat) (n0 : Nat) (v1 : Int32) (v2 : Int32) (v3 : Int32) (N : mz_N) : Prop := (cp_46_0 (Int32.ofNat n0) v1 v2) ∧ (cp_45_10 a0 n0 v2 v3 v1 N)
/-! 44 KeptHouse$Program.setTargets ()V -/
noncomputable def cf_44_0 (N : mz_N) : (mz_N) := mz_wI (cf_45_0 53 53 10 16 1 (cf_45_0 53 53 0 10 200 N)) 53 14 0
def cp_44_0 (N : mz_N) : Prop := (cp_45_0 53 53 0 10 200 N) ∧ (cp_45_0 53 53 10 16 1 (cf_45_0 53 53 0 10 200 N))
/-! 22 KeptHouse$Program.setFirst ()V -/
noncomputable def cf_22_28 (N : mz_N) (b : Bool) : (mz_N) := (cf_44_0 N)
def cp_22_28 (N : mz_N) (b : Bool) : Prop := cp_44_0 N
noncomputable def cf_22_0 (N : mz_N) (b : Bool) : (mz_N) := (cf_22_28 ((cf_23_0 (mz_lv b) 42 0 (mz_pI (mz_pI (mz_pI N 41 1 0) 41 4 (-1)) 41 5 (-1))).2) b)
def cp_22_0 (N : mz_N) (b : Bool) : Prop := (cp_23_0 (mz_lv b) 42 0 (mz_pI (mz_pI (mz_pI N 41 1 0) 41 4 (-1)) 41 5 (-1))) ∧ (cp_22_28 ((cf_23_0 (mz_lv b) 42 0 (mz_pI (mz_pI (mz_pI N 41 1 0) 41 4 (-1)) 41 5 (-1))).2) b)
/-! 47 KeptHouse$Supply.setFirst ()V -/
noncomputable def cf_47_25 (s0 : Nat) (s1 : Int32) (v1 : Int32) (N : mz_N) : ((Int32 × mz_N) ⊕ (mz_N)) := (.inl ((v1 + 1), (cf_13_0 s0 11 s1 N)))
def cp_47_25 (s0 : Nat) (s1 : Int32) (v1 : Int32) (N : mz_N) : Prop := cp_13_0 s0 11 s1 N
noncomputable def cf_47_101 (N : mz_N) : (mz_N) := (cf_13_0 64 10 0 (mz_pI N 56 13 0))
def cp_47_101 (N : mz_N) : Prop := cp_13_0 64 10 0 (mz_pI N 56 13 0)
noncomputable def cf_47_79 (N : mz_N) : (mz_N) := (cf_47_101 (mz_pI (mz_pI (mz_pI (mz_pI N 56 9 (mz_b01 false)) 56 10 (mz_b01 false)) 56 11 20000) 56 12 0))
def cp_47_79 (N : mz_N) : Prop := cp_47_101 (mz_pI (mz_pI (mz_pI (mz_pI N 56 9 (mz_b01 false)) 56 10 (mz_b01 false)) 56 11 20000) 56 12 0)
noncomputable def cf_47_57 (N : mz_N) : (mz_N) := (cf_47_79 (mz_pI (mz_pI (mz_pI (mz_pI N 56 5 (mz_b01 false)) 56 6 (mz_b01 true)) 56 7 2000) 56 8 (mz_b01 false)))
def cp_47_57 (N : mz_N) : Prop := cp_47_79 (mz_pI (mz_pI (mz_pI (mz_pI N 56 5 (mz_b01 false)) 56 6 (mz_b01 true)) 56 7 2000) 56 8 (mz_b01 false))
noncomputable def cq_47_2  (s : Int32 × mz_N) : ((Int32 × mz_N) ⊕ (mz_N)) := if s.1 < 6 then (if s.1 = 4 then (cf_47_25 (58 + s.1.toNatClampNeg) 100 s.1 s.2) else (cf_47_25 (58 + s.1.toNatClampNeg) 0 s.1 s.2)) else (.inr (cf_47_57 (mz_pI (mz_pI (mz_pI (mz_pI s.2 56 1 1500) 56 2 100) 56 3 0) 56 4 (mz_b01 true))))
def cd_47_2  (s : Int32 × mz_N) : Prop := (s.1 < 6 → ((mz_ib s.1 6) ∧ ((s.1 = 4 → (cp_47_25 (58 + s.1.toNatClampNeg) 100 s.1 s.2)) ∧ (¬ (s.1 = 4) → (cp_47_25 (58 + s.1.toNatClampNeg) 0 s.1 s.2))))) ∧ (¬ (s.1 < 6) → (cp_47_57 (mz_pI (mz_pI (mz_pI (mz_pI s.2 56 1 1500) 56 2 100) 56 3 0) 56 4 (mz_b01 true))))
noncomputable def cf_47_2 (v1 : Int32) (N : mz_N) : (mz_N) := mz_run (cq_47_2 ) (v1, N)
def cp_47_2 (v1 : Int32) (N : mz_N) : Prop := ∃ n, mz_ok (cq_47_2 ) (cd_47_2 ) n (v1, N)
noncomputable def cf_47_0 (N : mz_N) : (mz_N) := (cf_47_2 0 N)
def cp_47_0 (N : mz_N) : Prop := cp_47_2 0 N
/-! 49 java/util/Arrays.fill ([JJ)V -/
noncomputable def cq_49_6 (a0 : Nat) (n0 : Nat) (v1 : Int64) (v4 : Int32) (s : Int32 × mz_N) : ((Int32 × mz_N) ⊕ (mz_N)) := if s.1 < v4 then (.inl ((s.1 + 1), mz_wL s.2 a0 s.1 v1)) else (.inr s.2)
def cd_49_6 (a0 : Nat) (n0 : Nat) (v1 : Int64) (v4 : Int32) (s : Int32 × mz_N) : Prop := (s.1 < v4 → (mz_ib s.1 n0)) ∧ (¬ (s.1 < v4) → True)
noncomputable def cf_49_6 (a0 : Nat) (n0 : Nat) (v1 : Int64) (v3 : Int32) (v4 : Int32) (N : mz_N) : (mz_N) := mz_run (cq_49_6 a0 n0 v1 v4) (v3, N)
def cp_49_6 (a0 : Nat) (n0 : Nat) (v1 : Int64) (v3 : Int32) (v4 : Int32) (N : mz_N) : Prop := ∃ n, mz_ok (cq_49_6 a0 n0 v1 v4) (cd_49_6 a0 n0 v1 v4) n (v3, N)
noncomputable def cf_49_0 (a0 : Nat) (n0 : Nat) (v1 : Int64) (N : mz_N) : (mz_N) := (cf_49_6 a0 n0 v1 0 (Int32.ofNat n0) N)
def cp_49_0 (a0 : Nat) (n0 : Nat) (v1 : Int64) (N : mz_N) : Prop := cp_49_6 a0 n0 v1 0 (Int32.ofNat n0) N
/-! 48 KeptHouse$Climate.setFirst ()V -/
noncomputable def cf_48_50 (N : mz_N) : (mz_N) := mz_pI (cf_13_0 73 240 0 (cf_13_0 72 240 0 N)) 65 8 (mz_b01 false)
def cp_48_50 (N : mz_N) : Prop := (cp_13_0 72 240 0 N) ∧ (cp_13_0 73 240 0 (cf_13_0 72 240 0 N))
noncomputable def cf_48_0 (N : mz_N) : (mz_N) := (cf_48_50 (cf_49_0 71 240 0 (cf_49_0 70 240 0 (cf_49_0 69 240 0 (cf_49_0 68 240 18000 (cf_13_0 67 96 0 (cf_13_0 66 24 0 N)))))))
def cp_48_0 (N : mz_N) : Prop := (cp_13_0 66 24 0 N) ∧ ((cp_13_0 67 96 0 (cf_13_0 66 24 0 N)) ∧ ((cp_49_0 68 240 18000 (cf_13_0 67 96 0 (cf_13_0 66 24 0 N))) ∧ ((cp_49_0 69 240 0 (cf_49_0 68 240 18000 (cf_13_0 67 96 0 (cf_13_0 66 24 0 N)))) ∧ ((cp_49_0 70 240 0 (cf_49_0 69 240 0 (cf_49_0 68 240 18000 (cf_13_0 67 96 0 (cf_13_0 66 24 0 N))))) ∧ ((cp_49_0 71 240 0 (cf_49_0 70 240 0 (cf_49_0 69 240 0 (cf_49_0 68 240 18000 (cf_13_0 67 96 0 (cf_13_0 66 24 0 N)))))) ∧ (cp_48_50 (cf_49_0 71 240 0 (cf_49_0 70 240 0 (cf_49_0 69 240 0 (cf_49_0 68 240 18000 (cf_13_0 67 96 0 (cf_13_0 66 24 0 N))))))))))))
/-! 50 KeptHouse$Watch.setFirst ()V -/
noncomputable def cq_50_10  (s : Int32 × mz_N) : ((Int32 × mz_N) ⊕ (mz_N)) := if s.1 < 18 then (.inl ((s.1 + 1), mz_wI s.2 83 s.1 (mz_b01 false))) else (.inr (cf_13_0 99 8 0 (cf_13_0 87 8 0 (mz_pI s.2 81 3 0))))
def cd_50_10  (s : Int32 × mz_N) : Prop := (s.1 < 18 → (mz_ib s.1 18)) ∧ (¬ (s.1 < 18) → ((cp_13_0 87 8 0 (mz_pI s.2 81 3 0)) ∧ (cp_13_0 99 8 0 (cf_13_0 87 8 0 (mz_pI s.2 81 3 0)))))
noncomputable def cf_50_10 (v1 : Int32) (N : mz_N) : (mz_N) := mz_run (cq_50_10 ) (v1, N)
def cp_50_10 (v1 : Int32) (N : mz_N) : Prop := ∃ n, mz_ok (cq_50_10 ) (cd_50_10 ) n (v1, N)
noncomputable def cf_50_0 (N : mz_N) : (mz_N) := (cf_50_10 0 (cf_13_0 82 10 0 N))
def cp_50_0 (N : mz_N) : Prop := (cp_13_0 82 10 0 N) ∧ (cp_50_10 0 (cf_13_0 82 10 0 N))
/-! 51 KeptHouse$Access.setFirst ()V -/
noncomputable def cf_51_0 (N : mz_N) : (mz_N) := mz_pI (cf_13_0 109 40 (-1) (cf_13_0 104 40 0 (cf_13_0 101 20 0 N))) 100 10 0
def cp_51_0 (N : mz_N) : Prop := (cp_13_0 101 20 0 N) ∧ ((cp_13_0 104 40 0 (cf_13_0 101 20 0 N)) ∧ (cp_13_0 109 40 (-1) (cf_13_0 104 40 0 (cf_13_0 101 20 0 N))))
/-! 52 KeptHouse$Care.setFirst ()V -/
noncomputable def cf_52_45 (N : mz_N) : (mz_N) := (cf_13_0 133 2 0 (mz_pI (cf_13_0 128 3 0 N) 115 5 0))
def cp_52_45 (N : mz_N) : Prop := (cp_13_0 128 3 0 N) ∧ (cp_13_0 133 2 0 (mz_pI (cf_13_0 128 3 0 N) 115 5 0))
noncomputable def cf_52_0 (N : mz_N) : (mz_N) := (cf_52_45 (cf_13_0 127 3 0 (cf_13_0 126 3 0 (cf_13_0 125 3 5000 (mz_pI (cf_13_0 123 16 0 N) 115 2 0)))))
def cp_52_0 (N : mz_N) : Prop := (cp_13_0 123 16 0 N) ∧ ((cp_13_0 125 3 5000 (mz_pI (cf_13_0 123 16 0 N) 115 2 0)) ∧ ((cp_13_0 126 3 0 (cf_13_0 125 3 5000 (mz_pI (cf_13_0 123 16 0 N) 115 2 0))) ∧ ((cp_13_0 127 3 0 (cf_13_0 126 3 0 (cf_13_0 125 3 5000 (mz_pI (cf_13_0 123 16 0 N) 115 2 0)))) ∧ (cp_52_45 (cf_13_0 127 3 0 (cf_13_0 126 3 0 (cf_13_0 125 3 5000 (mz_pI (cf_13_0 123 16 0 N) 115 2 0))))))))
/-! 54 KeptHouse$Books.clearMonth ()V -/
noncomputable def cq_54_2  (s : Int32 × mz_N) : ((Int32 × mz_N) ⊕ (mz_N)) := if s.1 < 3 then (.inl ((s.1 + 1), (cf_13_0 (210 + s.1.toNatClampNeg) 11 0 s.2))) else (.inr (mz_pI (mz_pI s.2 208 3 0) 208 4 0))
def cd_54_2  (s : Int32 × mz_N) : Prop := (s.1 < 3 → ((mz_ib s.1 3) ∧ (cp_13_0 (210 + s.1.toNatClampNeg) 11 0 s.2))) ∧ (¬ (s.1 < 3) → True)
noncomputable def cf_54_2 (v1 : Int32) (N : mz_N) : (mz_N) := mz_run (cq_54_2 ) (v1, N)
def cp_54_2 (v1 : Int32) (N : mz_N) : Prop := ∃ n, mz_ok (cq_54_2 ) (cd_54_2 ) n (v1, N)
noncomputable def cf_54_0 (N : mz_N) : (mz_N) := (cf_54_2 0 N)
def cp_54_0 (N : mz_N) : Prop := cp_54_2 0 N
/-! 53 KeptHouse$Books.setFirst ()V -/
noncomputable def cf_53_48 (N : mz_N) : (mz_N) := (cf_54_0 N)
def cp_53_48 (N : mz_N) : Prop := cp_54_0 N
noncomputable def cf_53_0 (N : mz_N) : (mz_N) := (cf_53_48 (mz_wI (cf_13_0 215 4 0 (cf_49_0 214 10 0 (cf_49_0 213 10 0 (mz_pL (mz_pL (mz_pI N 208 0 0) 208 1 0) 208 2 0)))) 215 0 5000))
def cp_53_0 (N : mz_N) : Prop := (cp_49_0 213 10 0 (mz_pL (mz_pL (mz_pI N 208 0 0) 208 1 0) 208 2 0)) ∧ ((cp_49_0 214 10 0 (cf_49_0 213 10 0 (mz_pL (mz_pL (mz_pI N 208 0 0) 208 1 0) 208 2 0))) ∧ ((cp_13_0 215 4 0 (cf_49_0 214 10 0 (cf_49_0 213 10 0 (mz_pL (mz_pL (mz_pI N 208 0 0) 208 1 0) 208 2 0)))) ∧ (cp_53_48 (mz_wI (cf_13_0 215 4 0 (cf_49_0 214 10 0 (cf_49_0 213 10 0 (mz_pL (mz_pL (mz_pI N 208 0 0) 208 1 0) 208 2 0)))) 215 0 5000))))
/-! 55 KeptHouse$Store.kindOf (I)I -/
noncomputable def cq_55_2 (v0 : Int32) (s : Int32) : ((Int32) ⊕ (Int32)) := if s < 15 then (if v0 < (mz_xk s) then (.inr s) else (.inl ((s + 1)))) else (.inr 15)
def cd_55_2 (v0 : Int32) (s : Int32) : Prop := (s < 15 → (mz_ib s 16)) ∧ (¬ (s < 15) → True)
noncomputable def cf_55_2 (v0 : Int32) (v1 : Int32) : (Int32) := mz_run (cq_55_2 v0) (v1)
def cp_55_2 (v0 : Int32) (v1 : Int32) : Prop := ∃ n, mz_ok (cq_55_2 v0) (cd_55_2 v0) n (v1)
noncomputable def cf_55_0 (v0 : Int32) : (Int32) := (cf_55_2 v0 1)
def cp_55_0 (v0 : Int32) : Prop := cp_55_2 v0 1
/-! 56 KeptHouse$Store.indexOf (I)I -/
noncomputable def cf_56_0 (v0 : Int32) : (Int32) := (v0 - (mz_xk ((cf_55_0 v0) - 1)))
def cp_56_0 (v0 : Int32) : Prop := (cp_55_0 v0) ∧ (mz_ib ((cf_55_0 v0) - 1) 16)
/-! 58 KeptHouse$Plan.readEdges (I[II[I)V -/
noncomputable def cf_58_36 (a1 : Nat) (a3 : Nat) (v0 : Int32) (v2 : Int32) (v4 : Int32) (N : mz_N) : ((Int32 × mz_N) ⊕ (mz_N)) := (.inl ((v4 + 1), N))
def cp_58_36 (a1 : Nat) (a3 : Nat) (v0 : Int32) (v2 : Int32) (v4 : Int32) (N : mz_N) : Prop := True
noncomputable def cq_58_3 (a1 : Nat) (a3 : Nat) (v0 : Int32) (v2 : Int32) (s : Int32 × mz_N) : ((Int32 × mz_N) ⊕ (mz_N)) := if s.1 < 110 then (cf_58_36 a1 a3 v0 v2 s.1 (mz_wI s.2 a3 ((v0 * 110) + s.1) ((mz_ishr (mz_gI s.2 a1 (v2 + (s.1 / 4))) (2 * (mz_irem s.1 4))) &&& 3))) else (.inr s.2)
def cd_58_3 (a1 : Nat) (a3 : Nat) (v0 : Int32) (v2 : Int32) (s : Int32 × mz_N) : Prop := (s.1 < 110 → ((mz_ib (v2 + (s.1 / 4)) 3780) ∧ ((mz_ib ((v0 * 110) + s.1) 550) ∧ (cp_58_36 a1 a3 v0 v2 s.1 (mz_wI s.2 a3 ((v0 * 110) + s.1) ((mz_ishr (mz_gI s.2 a1 (v2 + (s.1 / 4))) (2 * (mz_irem s.1 4))) &&& 3)))))) ∧ (¬ (s.1 < 110) → True)
noncomputable def cf_58_3 (a1 : Nat) (a3 : Nat) (v0 : Int32) (v2 : Int32) (v4 : Int32) (N : mz_N) : (mz_N) := mz_run (cq_58_3 a1 a3 v0 v2) (v4, N)
def cp_58_3 (a1 : Nat) (a3 : Nat) (v0 : Int32) (v2 : Int32) (v4 : Int32) (N : mz_N) : Prop := ∃ n, mz_ok (cq_58_3 a1 a3 v0 v2) (cd_58_3 a1 a3 v0 v2) n (v4, N)
noncomputable def cf_58_0 (a1 : Nat) (a3 : Nat) (v0 : Int32) (v2 : Int32) (N : mz_N) : (mz_N) := (cf_58_3 a1 a3 v0 v2 0 N)
def cp_58_0 (a1 : Nat) (a3 : Nat) (v0 : Int32) (v2 : Int32) (N : mz_N) : Prop := cp_58_3 a1 a3 v0 v2 0 N
/-! 59 KeptHouse$Plan.readFlats (I[II)V -/
noncomputable def cf_59_40 (v1 : Int32) (v3 : Int32) (v4 : Int32) (N : mz_N) : ((Int32 × mz_N) ⊕ (mz_N)) := (.inl ((v4 + 1), N))
def cp_59_40 (v1 : Int32) (v3 : Int32) (v4 : Int32) (N : mz_N) : Prop := True
noncomputable def cq_59_3 (v1 : Int32) (v3 : Int32) (s : Int32 × mz_N) : ((Int32 × mz_N) ⊕ (mz_N)) := if s.1 < 48 then (cf_59_40 v1 v3 s.1 (mz_wI s.2 37 ((v1 * 48) + s.1) ((mz_ishr (mz_gI s.2 223 (v3 + (s.1 / 2))) (4 * (mz_irem s.1 2))) &&& 15))) else (.inr s.2)
def cd_59_3 (v1 : Int32) (v3 : Int32) (s : Int32 × mz_N) : Prop := (s.1 < 48 → ((mz_ib (v3 + (s.1 / 2)) 3780) ∧ ((mz_ib ((v1 * 48) + s.1) 240) ∧ (cp_59_40 v1 v3 s.1 (mz_wI s.2 37 ((v1 * 48) + s.1) ((mz_ishr (mz_gI s.2 223 (v3 + (s.1 / 2))) (4 * (mz_irem s.1 2))) &&& 15)))))) ∧ (¬ (s.1 < 48) → True)
noncomputable def cf_59_3 (v1 : Int32) (v3 : Int32) (v4 : Int32) (N : mz_N) : (mz_N) := mz_run (cq_59_3 v1 v3) (v4, N)
def cp_59_3 (v1 : Int32) (v3 : Int32) (v4 : Int32) (N : mz_N) : Prop := ∃ n, mz_ok (cq_59_3 v1 v3) (cd_59_3 v1 v3) n (v4, N)
noncomputable def cf_59_0 (v1 : Int32) (v3 : Int32) (N : mz_N) : (mz_N) := (cf_59_3 v1 v3 0 N)
def cp_59_0 (v1 : Int32) (v3 : Int32) (N : mz_N) : Prop := cp_59_3 v1 v3 0 N
/-! 61 KeptHouse$Store.read ([III)J -/
noncomputable def cq_61_5 (a0 : Nat) (n0 : Nat) (v1 : Int32) (v2 : Int32) (N : mz_N) (s : Int64 × Int32) : ((Int64 × Int32) ⊕ (Int64)) := if s.2 < v2 then (.inl ((s.1 ||| (mz_lshl ((mz_gI N a0 (v1 + s.2)).toInt64) (8 * s.2))), (s.2 + 1))) else (.inr (mz_lshr (mz_lshl s.1 (64 - (8 * v2))) (64 - (8 * v2))))
def cd_61_5 (a0 : Nat) (n0 : Nat) (v1 : Int32) (v2 : Int32) (N : mz_N) (s : Int64 × Int32) : Prop := (s.2 < v2 → (mz_ib (v1 + s.2) n0)) ∧ (¬ (s.2 < v2) → True)
noncomputable def cf_61_5 (a0 : Nat) (n0 : Nat) (v1 : Int32) (v2 : Int32) (v3 : Int64) (v5 : Int32) (N : mz_N) : (Int64) := mz_run (cq_61_5 a0 n0 v1 v2 N) (v3, v5)
def cp_61_5 (a0 : Nat) (n0 : Nat) (v1 : Int32) (v2 : Int32) (v3 : Int64) (v5 : Int32) (N : mz_N) : Prop := ∃ n, mz_ok (cq_61_5 a0 n0 v1 v2 N) (cd_61_5 a0 n0 v1 v2 N) n (v3, v5)
noncomputable def cf_61_0 (a0 : Nat) (n0 : Nat) (v1 : Int32) (v2 : Int32) (N : mz_N) : (Int64) := (cf_61_5 a0 n0 v1 v2 0 0 N)
def cp_61_0 (a0 : Nat) (n0 : Nat) (v1 : Int32) (v2 : Int32) (N : mz_N) : Prop := cp_61_5 a0 n0 v1 v2 0 0 N
/-! 60 KeptHouse$Climate.readWeather (I[II)V -/
noncomputable def cf_60_34 (v1 : Int32) (v3 : Int32) (v4 : Int32) (N : mz_N) : ((Int32 × mz_N) ⊕ (mz_N)) := (.inl ((v4 + 1), N))
def cp_60_34 (v1 : Int32) (v3 : Int32) (v4 : Int32) (N : mz_N) : Prop := True
noncomputable def cq_60_3 (v1 : Int32) (v3 : Int32) (s : Int32 × mz_N) : ((Int32 × mz_N) ⊕ (mz_N)) := if s.1 < 12 then (cf_60_34 v1 v3 s.1 (mz_wI s.2 66 ((12 * v1) + s.1) ((cf_61_0 223 3780 (v3 + (2 * s.1)) 2 s.2).toInt32))) else (.inr s.2)
def cd_60_3 (v1 : Int32) (v3 : Int32) (s : Int32 × mz_N) : Prop := (s.1 < 12 → ((cp_61_0 223 3780 (v3 + (2 * s.1)) 2 s.2) ∧ ((mz_ib ((12 * v1) + s.1) 24) ∧ (cp_60_34 v1 v3 s.1 (mz_wI s.2 66 ((12 * v1) + s.1) ((cf_61_0 223 3780 (v3 + (2 * s.1)) 2 s.2).toInt32)))))) ∧ (¬ (s.1 < 12) → True)
noncomputable def cf_60_3 (v1 : Int32) (v3 : Int32) (v4 : Int32) (N : mz_N) : (mz_N) := mz_run (cq_60_3 v1 v3) (v4, N)
def cp_60_3 (v1 : Int32) (v3 : Int32) (v4 : Int32) (N : mz_N) : Prop := ∃ n, mz_ok (cq_60_3 v1 v3) (cd_60_3 v1 v3) n (v4, N)
noncomputable def cf_60_0 (v1 : Int32) (v3 : Int32) (N : mz_N) : (mz_N) := (cf_60_3 v1 v3 0 N)
def cp_60_0 (v1 : Int32) (v3 : Int32) (N : mz_N) : Prop := cp_60_3 v1 v3 0 N
/-! 62 KeptHouse$Supply.readRatings (I[II)V -/
noncomputable def cf_62_53 (v1 : Int32) (v3 : Int32) (v4 : Int32) (N : mz_N) : ((Int32 × mz_N) ⊕ (mz_N)) := (.inl ((v4 + 1), N))
def cp_62_53 (v1 : Int32) (v3 : Int32) (v4 : Int32) (N : mz_N) : Prop := True
noncomputable def cq_62_3 (v1 : Int32) (v3 : Int32) (s : Int32 × mz_N) : ((Int32 × mz_N) ⊕ (mz_N)) := if s.1 < 11 then (if v1 = 0 then (cf_62_53 v1 v3 s.1 (mz_wI s.2 62 s.1 ((cf_61_0 223 3780 (v3 + (2 * s.1)) 2 s.2).toInt32))) else (cf_62_53 v1 v3 s.1 (mz_wI s.2 63 s.1 (mz_gI s.2 223 (v3 + s.1))))) else (.inr s.2)
def cd_62_3 (v1 : Int32) (v3 : Int32) (s : Int32 × mz_N) : Prop := (s.1 < 11 → ((v1 = 0 → ((cp_61_0 223 3780 (v3 + (2 * s.1)) 2 s.2) ∧ ((mz_ib s.1 11) ∧ (cp_62_53 v1 v3 s.1 (mz_wI s.2 62 s.1 ((cf_61_0 223 3780 (v3 + (2 * s.1)) 2 s.2).toInt32)))))) ∧ (¬ (v1 = 0) → ((mz_ib (v3 + s.1) 3780) ∧ ((mz_ib s.1 11) ∧ (cp_62_53 v1 v3 s.1 (mz_wI s.2 63 s.1 (mz_gI s.2 223 (v3 + s.1))))))))) ∧ (¬ (s.1 < 11) → True)
noncomputable def cf_62_3 (v1 : Int32) (v3 : Int32) (v4 : Int32) (N : mz_N) : (mz_N) := mz_run (cq_62_3 v1 v3) (v4, N)
def cp_62_3 (v1 : Int32) (v3 : Int32) (v4 : Int32) (N : mz_N) : Prop := ∃ n, mz_ok (cq_62_3 v1 v3) (cd_62_3 v1 v3) n (v4, N)
noncomputable def cf_62_0 (v1 : Int32) (v3 : Int32) (N : mz_N) : (mz_N) := (cf_62_3 v1 v3 0 N)
def cp_62_0 (v1 : Int32) (v3 : Int32) (N : mz_N) : Prop := cp_62_3 v1 v3 0 N
/-! 63 KeptHouse$Books.readFlat (I[II)V -/
noncomputable def cf_63_65 (v1 : Int32) (v3 : Int32) (N : mz_N) : (mz_N) := mz_wI N 212 v1 ((cf_61_0 223 3780 (v3 + 24) 4 N).toInt32)
def cp_63_65 (v1 : Int32) (v3 : Int32) (N : mz_N) : Prop := (cp_61_0 223 3780 (v3 + 24) 4 N) ∧ (mz_ib v1 11)
noncomputable def cf_63_29 (v1 : Int32) (v3 : Int32) (N : mz_N) : (mz_N) := (cf_63_65 v1 v3 (mz_wI (mz_wI N 210 v1 ((cf_61_0 223 3780 (v3 + 16) 4 N).toInt32)) 211 v1 ((cf_61_0 223 3780 (v3 + 20) 4 (mz_wI N 210 v1 ((cf_61_0 223 3780 (v3 + 16) 4 N).toInt32))).toInt32)))
def cp_63_29 (v1 : Int32) (v3 : Int32) (N : mz_N) : Prop := (cp_61_0 223 3780 (v3 + 16) 4 N) ∧ ((mz_ib v1 11) ∧ ((cp_61_0 223 3780 (v3 + 20) 4 (mz_wI N 210 v1 ((cf_61_0 223 3780 (v3 + 16) 4 N).toInt32))) ∧ ((mz_ib v1 11) ∧ (cp_63_65 v1 v3 (mz_wI (mz_wI N 210 v1 ((cf_61_0 223 3780 (v3 + 16) 4 N).toInt32)) 211 v1 ((cf_61_0 223 3780 (v3 + 20) 4 (mz_wI N 210 v1 ((cf_61_0 223 3780 (v3 + 16) 4 N).toInt32))).toInt32))))))
noncomputable def cf_63_0 (v1 : Int32) (v3 : Int32) (N : mz_N) : (mz_N) := (cf_63_29 v1 v3 (mz_wL (mz_wL N 213 v1 (cf_61_0 223 3780 v3 8 N)) 214 v1 (cf_61_0 223 3780 (v3 + 8) 8 (mz_wL N 213 v1 (cf_61_0 223 3780 v3 8 N)))))
def cp_63_0 (v1 : Int32) (v3 : Int32) (N : mz_N) : Prop := (cp_61_0 223 3780 v3 8 N) ∧ ((mz_ib v1 10) ∧ ((cp_61_0 223 3780 (v3 + 8) 8 (mz_wL N 213 v1 (cf_61_0 223 3780 v3 8 N))) ∧ ((mz_ib v1 10) ∧ (cp_63_29 v1 v3 (mz_wL (mz_wL N 213 v1 (cf_61_0 223 3780 v3 8 N)) 214 v1 (cf_61_0 223 3780 (v3 + 8) 8 (mz_wL N 213 v1 (cf_61_0 223 3780 v3 8 N))))))))
/-! 64 KeptHouse$Books.readCash ([II)V -/
noncomputable def cf_64_52 (v2 : Int32) (N : mz_N) : (mz_N) := mz_pI N 208 4 ((cf_61_0 223 3780 (v2 + 24) 4 N).toInt32)
def cp_64_52 (v2 : Int32) (N : mz_N) : Prop := cp_61_0 223 3780 (v2 + 24) 4 N
noncomputable def cf_64_24 (v2 : Int32) (N : mz_N) : (mz_N) := (cf_64_52 v2 (mz_pI (mz_pL N 208 2 (cf_61_0 223 3780 (v2 + 12) 8 N)) 208 3 ((cf_61_0 223 3780 (v2 + 20) 4 (mz_pL N 208 2 (cf_61_0 223 3780 (v2 + 12) 8 N))).toInt32)))
def cp_64_24 (v2 : Int32) (N : mz_N) : Prop := (cp_61_0 223 3780 (v2 + 12) 8 N) ∧ ((cp_61_0 223 3780 (v2 + 20) 4 (mz_pL N 208 2 (cf_61_0 223 3780 (v2 + 12) 8 N))) ∧ (cp_64_52 v2 (mz_pI (mz_pL N 208 2 (cf_61_0 223 3780 (v2 + 12) 8 N)) 208 3 ((cf_61_0 223 3780 (v2 + 20) 4 (mz_pL N 208 2 (cf_61_0 223 3780 (v2 + 12) 8 N))).toInt32))))
noncomputable def cf_64_0 (v2 : Int32) (N : mz_N) : (mz_N) := (cf_64_24 v2 (mz_pL (mz_pI N 208 0 ((cf_61_0 223 3780 v2 4 N).toInt32)) 208 1 (cf_61_0 223 3780 (v2 + 4) 8 (mz_pI N 208 0 ((cf_61_0 223 3780 v2 4 N).toInt32)))))
def cp_64_0 (v2 : Int32) (N : mz_N) : Prop := (cp_61_0 223 3780 v2 4 N) ∧ ((cp_61_0 223 3780 (v2 + 4) 8 (mz_pI N 208 0 ((cf_61_0 223 3780 v2 4 N).toInt32))) ∧ (cp_64_24 v2 (mz_pL (mz_pI N 208 0 ((cf_61_0 223 3780 v2 4 N).toInt32)) 208 1 (cf_61_0 223 3780 (v2 + 4) 8 (mz_pI N 208 0 ((cf_61_0 223 3780 v2 4 N).toInt32))))))
/-! 65 KeptHouse$Books.readPrices ([II)V -/
noncomputable def cf_65_61 (v2 : Int32) (v3 : Int32) (N : mz_N) : ((Int32 × mz_N) ⊕ (mz_N)) := (.inl ((v3 + 1), N))
def cp_65_61 (v2 : Int32) (v3 : Int32) (N : mz_N) : Prop := True
noncomputable def cq_65_36 (v2 : Int32) (s : Int32 × mz_N) : ((Int32 × mz_N) ⊕ (mz_N)) := if s.1 < 4 then (cf_65_61 v2 s.1 (mz_wI s.2 215 s.1 ((cf_61_0 223 3780 ((v2 + 8) + (4 * s.1)) 4 s.2).toInt32))) else (.inr s.2)
def cd_65_36 (v2 : Int32) (s : Int32 × mz_N) : Prop := (s.1 < 4 → ((cp_61_0 223 3780 ((v2 + 8) + (4 * s.1)) 4 s.2) ∧ ((mz_ib s.1 4) ∧ (cp_65_61 v2 s.1 (mz_wI s.2 215 s.1 ((cf_61_0 223 3780 ((v2 + 8) + (4 * s.1)) 4 s.2).toInt32)))))) ∧ (¬ (s.1 < 4) → True)
noncomputable def cf_65_36 (v2 : Int32) (v3 : Int32) (N : mz_N) : (mz_N) := mz_run (cq_65_36 v2) (v3, N)
def cp_65_36 (v2 : Int32) (v3 : Int32) (N : mz_N) : Prop := ∃ n, mz_ok (cq_65_36 v2) (cd_65_36 v2) n (v3, N)
noncomputable def cf_65_34 (v2 : Int32) (N : mz_N) : (mz_N) := (cf_65_36 v2 0 N)
def cp_65_34 (v2 : Int32) (N : mz_N) : Prop := cp_65_36 v2 0 N
noncomputable def cf_65_0 (v2 : Int32) (N : mz_N) : (mz_N) := (cf_65_34 v2 (mz_wI (mz_wI N 211 10 ((cf_61_0 223 3780 v2 4 N).toInt32)) 210 10 ((cf_61_0 223 3780 (v2 + 4) 4 (mz_wI N 211 10 ((cf_61_0 223 3780 v2 4 N).toInt32))).toInt32)))
def cp_65_0 (v2 : Int32) (N : mz_N) : Prop := (cp_61_0 223 3780 v2 4 N) ∧ ((cp_61_0 223 3780 (v2 + 4) 4 (mz_wI N 211 10 ((cf_61_0 223 3780 v2 4 N).toInt32))) ∧ (cp_65_34 v2 (mz_wI (mz_wI N 211 10 ((cf_61_0 223 3780 v2 4 N).toInt32)) 210 10 ((cf_61_0 223 3780 (v2 + 4) 4 (mz_wI N 211 10 ((cf_61_0 223 3780 v2 4 N).toInt32))).toInt32))))
/-! 66 KeptHouse$Care.readPart (I[II)V -/
noncomputable def cf_66_32 (v1 : Int32) (v3 : Int32) (N : mz_N) : (mz_N) := mz_wI (mz_wI N 127 v1 ((cf_61_0 223 3780 (v3 + 8) 4 N).toInt32)) 128 v1 (mz_gI (mz_wI N 127 v1 ((cf_61_0 223 3780 (v3 + 8) 4 N).toInt32)) 223 (v3 + 12))
def cp_66_32 (v1 : Int32) (v3 : Int32) (N : mz_N) : Prop := (cp_61_0 223 3780 (v3 + 8) 4 N) ∧ ((mz_ib v1 3) ∧ ((mz_ib (v3 + 12) 3780) ∧ (mz_ib v1 3)))
noncomputable def cf_66_0 (v1 : Int32) (v3 : Int32) (N : mz_N) : (mz_N) := (cf_66_32 v1 v3 (mz_wI (mz_wI N 125 v1 ((cf_61_0 223 3780 v3 4 N).toInt32)) 126 v1 ((cf_61_0 223 3780 (v3 + 4) 4 (mz_wI N 125 v1 ((cf_61_0 223 3780 v3 4 N).toInt32))).toInt32)))
def cp_66_0 (v1 : Int32) (v3 : Int32) (N : mz_N) : Prop := (cp_61_0 223 3780 v3 4 N) ∧ ((mz_ib v1 3) ∧ ((cp_61_0 223 3780 (v3 + 4) 4 (mz_wI N 125 v1 ((cf_61_0 223 3780 v3 4 N).toInt32))) ∧ ((mz_ib v1 3) ∧ (cp_66_32 v1 v3 (mz_wI (mz_wI N 125 v1 ((cf_61_0 223 3780 v3 4 N).toInt32)) 126 v1 ((cf_61_0 223 3780 (v3 + 4) 4 (mz_wI N 125 v1 ((cf_61_0 223 3780 v3 4 N).toInt32))).toInt32))))))
/-! 68 KeptHouse$Care.setTicket (IIII)V -/
noncomputable def cf_68_0 (v1 : Int32) (v2 : Int32) (v3 : Int32) (v4 : Int32) (N : mz_N) : (mz_N) := mz_wI (mz_wI (mz_wI (mz_wI (mz_wI N 123 v1 1) 118 v1 v2) 119 v1 v3) 120 v1 v4) 122 v1 (-1)
def cp_68_0 (v1 : Int32) (v2 : Int32) (v3 : Int32) (v4 : Int32) (N : mz_N) : Prop := (mz_ib v1 16) ∧ ((mz_ib v1 16) ∧ ((mz_ib v1 16) ∧ ((mz_ib v1 16) ∧ (mz_ib v1 16))))
/-! 67 KeptHouse$Care.readTicket (I[II)V -/
noncomputable def cf_67_62 (v1 : Int32) (N : mz_N) : (mz_N) := mz_pI N 115 2 (mz_imax (N.1 115 2) ((mz_gI N 117 v1) + 1))
def cp_67_62 (v1 : Int32) (N : mz_N) : Prop := mz_ib v1 16
noncomputable def cf_67_27 (v1 : Int32) (v3 : Int32) (N : mz_N) : (mz_N) := (cf_67_62 v1 (mz_wI (mz_wI N 121 v1 ((cf_61_0 223 3780 (v3 + 4) 4 N).toInt32)) 117 v1 ((cf_61_0 223 3780 (v3 + 8) 4 (mz_wI N 121 v1 ((cf_61_0 223 3780 (v3 + 4) 4 N).toInt32))).toInt32)))
def cp_67_27 (v1 : Int32) (v3 : Int32) (N : mz_N) : Prop := (cp_61_0 223 3780 (v3 + 4) 4 N) ∧ ((mz_ib v1 16) ∧ ((cp_61_0 223 3780 (v3 + 8) 4 (mz_wI N 121 v1 ((cf_61_0 223 3780 (v3 + 4) 4 N).toInt32))) ∧ ((mz_ib v1 16) ∧ (cp_67_62 v1 (mz_wI (mz_wI N 121 v1 ((cf_61_0 223 3780 (v3 + 4) 4 N).toInt32)) 117 v1 ((cf_61_0 223 3780 (v3 + 8) 4 (mz_wI N 121 v1 ((cf_61_0 223 3780 (v3 + 4) 4 N).toInt32))).toInt32))))))
noncomputable def cf_67_0 (v1 : Int32) (v3 : Int32) (N : mz_N) : (mz_N) := if (mz_gI N 223 v3) = 0 then N else (cf_67_27 v1 v3 (cf_68_0 v1 (mz_gI N 223 (v3 + 1)) (mz_gI N 223 (v3 + 2)) (mz_gI N 223 (v3 + 3)) N))
def cp_67_0 (v1 : Int32) (v3 : Int32) (N : mz_N) : Prop := (mz_ib v3 3780) ∧ (((mz_gI N 223 v3) = 0 → True) ∧ (¬ ((mz_gI N 223 v3) = 0) → ((mz_ib (v3 + 1) 3780) ∧ ((mz_ib (v3 + 2) 3780) ∧ ((mz_ib (v3 + 3) 3780) ∧ ((cp_68_0 v1 (mz_gI N 223 (v3 + 1)) (mz_gI N 223 (v3 + 2)) (mz_gI N 223 (v3 + 3)) N) ∧ (cp_67_27 v1 v3 (cf_68_0 v1 (mz_gI N 223 (v3 + 1)) (mz_gI N 223 (v3 + 2)) (mz_gI N 223 (v3 + 3)) N))))))))
/-! 69 KeptHouse$Access.hang (III)V -/
noncomputable def cf_69_0 (v1 : Int32) (v2 : Int32) (v3 : Int32) (N : mz_N) : (mz_N) := mz_wI (mz_wI (mz_wI N 101 v1 1) 102 v1 v2) 103 v1 v3
def cp_69_0 (v1 : Int32) (v2 : Int32) (v3 : Int32) (N : mz_N) : Prop := (mz_ib v1 20) ∧ ((mz_ib v1 20) ∧ (mz_ib v1 20))
/-! 71 KeptHouse$Access.hand (IIIII)V -/
noncomputable def cf_71_0 (v1 : Int32) (v2 : Int32) (v3 : Int32) (v4 : Int32) (v5 : Int32) (N : mz_N) : (mz_N) := mz_wI (mz_wI (mz_wI (mz_wI (mz_wI N 104 v1 1) 105 v1 v3) 106 v1 v4) 107 v1 v5) 108 v1 v2
def cp_71_0 (v1 : Int32) (v2 : Int32) (v3 : Int32) (v4 : Int32) (v5 : Int32) (N : mz_N) : Prop := (mz_ib v1 40) ∧ ((mz_ib v1 40) ∧ ((mz_ib v1 40) ∧ ((mz_ib v1 40) ∧ (mz_ib v1 40))))
/-! 70 KeptHouse$Access.readCard (I[II)V -/
noncomputable def cf_70_29 (N : mz_N) : (mz_N) := N
def cp_70_29 (N : mz_N) : Prop := True
noncomputable def cf_70_0 (v1 : Int32) (v3 : Int32) (N : mz_N) : (mz_N) := (cf_70_29 (cf_71_0 v1 ((cf_61_0 223 3780 (v3 + 4) 4 N).toInt32) (mz_gI N 223 (v3 + 1)) (mz_gI N 223 (v3 + 2)) (mz_gI N 223 (v3 + 3)) N))
def cp_70_0 (v1 : Int32) (v3 : Int32) (N : mz_N) : Prop := (cp_61_0 223 3780 (v3 + 4) 4 N) ∧ ((mz_ib (v3 + 1) 3780) ∧ ((mz_ib (v3 + 2) 3780) ∧ ((mz_ib (v3 + 3) 3780) ∧ ((cp_71_0 v1 ((cf_61_0 223 3780 (v3 + 4) 4 N).toInt32) (mz_gI N 223 (v3 + 1)) (mz_gI N 223 (v3 + 2)) (mz_gI N 223 (v3 + 3)) N) ∧ (cp_70_29 (cf_71_0 v1 ((cf_61_0 223 3780 (v3 + 4) 4 N).toInt32) (mz_gI N 223 (v3 + 1)) (mz_gI N 223 (v3 + 2)) (mz_gI N 223 (v3 + 3)) N))))))
/-! 72 KeptHouse$Watch.setPoint (III)V -/
noncomputable def cf_72_0 (v1 : Int32) (v2 : Int32) (v3 : Int32) (N : mz_N) : (mz_N) := mz_wI (mz_wI (mz_wI (mz_wI N 87 v1 1) 88 v1 v2) 89 v1 v3) 99 v1 0
def cp_72_0 (v1 : Int32) (v2 : Int32) (v3 : Int32) (N : mz_N) : Prop := (mz_ib v1 8) ∧ ((mz_ib v1 8) ∧ ((mz_ib v1 8) ∧ (mz_ib v1 8)))
/-! 57 KeptHouse$Keeper.decode (II[II)V -/
noncomputable def cf_57_0 (v1 : Int32) (v2 : Int32) (v4 : Int32) (N : mz_N) : (mz_N) := if v1 = 1 then (cf_58_0 223 3 v2 v4 N) else (if v1 = 2 then (cf_59_0 v2 v4 N) else (if v1 = 3 then (mz_yI N 223 v4 40 (v2 * 24) 24) else (if v1 = 4 then (cf_60_0 v2 v4 N) else (if v1 = 5 then (mz_yI N 223 v4 67 (v2 * 24) 24) else (if v1 = 6 then N else (if v1 = 7 then (cf_62_0 v2 v4 N) else (if v1 = 8 then (cf_63_0 v2 v4 N) else (if v1 = 9 then (cf_64_0 v4 N) else (if v1 = 10 then (cf_65_0 v4 N) else (if v1 = 11 then (cf_66_0 v2 v4 N) else (if v1 = 12 then (cf_67_0 v2 v4 N) else (if v1 = 13 then (cf_69_0 v2 (mz_gI N 223 (v4 + 1)) (mz_gI N 223 (v4 + 2)) N) else (if v1 = 14 then (cf_70_0 v2 v4 N) else (cf_72_0 v2 (mz_gI N 223 (v4 + 1)) (mz_gI N 223 (v4 + 2)) N))))))))))))))
def cp_57_0 (v1 : Int32) (v2 : Int32) (v4 : Int32) (N : mz_N) : Prop := (v1 = 1 → (cp_58_0 223 3 v2 v4 N)) ∧ (¬ (v1 = 1) → ((v1 = 2 → (cp_59_0 v2 v4 N)) ∧ (¬ (v1 = 2) → ((v1 = 3 → (mz_cpk v4 (v2 * 24) 24 3780 240)) ∧ (¬ (v1 = 3) → ((v1 = 4 → (cp_60_0 v2 v4 N)) ∧ (¬ (v1 = 4) → ((v1 = 5 → (mz_cpk v4 (v2 * 24) 24 3780 96)) ∧ (¬ (v1 = 5) → ((v1 = 6 → True) ∧ (¬ (v1 = 6) → ((v1 = 7 → (cp_62_0 v2 v4 N)) ∧ (¬ (v1 = 7) → ((v1 = 8 → (cp_63_0 v2 v4 N)) ∧ (¬ (v1 = 8) → ((v1 = 9 → (cp_64_0 v4 N)) ∧ (¬ (v1 = 9) → ((v1 = 10 → (cp_65_0 v4 N)) ∧ (¬ (v1 = 10) → ((v1 = 11 → (cp_66_0 v2 v4 N)) ∧ (¬ (v1 = 11) → ((v1 = 12 → (cp_67_0 v2 v4 N)) ∧ (¬ (v1 = 12) → ((v1 = 13 → ((mz_ib (v4 + 1) 3780) ∧ ((mz_ib (v4 + 2) 3780) ∧ (cp_69_0 v2 (mz_gI N 223 (v4 + 1)) (mz_gI N 223 (v4 + 2)) N)))) ∧ (¬ (v1 = 13) → ((v1 = 14 → (cp_70_0 v2 v4 N)) ∧ (¬ (v1 = 14) → ((mz_ib (v4 + 1) 3780) ∧ ((mz_ib (v4 + 2) 3780) ∧ (cp_72_0 v2 (mz_gI N 223 (v4 + 1)) (mz_gI N 223 (v4 + 2)) N))))))))))))))))))))))))))))))
/-! 75 KeptHouse$Store.isBlank ([III)Z -/
noncomputable def cq_75_2 (a0 : Nat) (v1 : Int32) (N : mz_N) (s : Int32) : ((Int32) ⊕ (Bool)) := if s < 28 then (if (mz_gI N a0 (v1 + s)) = 0 then (.inl ((s + 1))) else (.inr false)) else (.inr true)
def cd_75_2 (a0 : Nat) (v1 : Int32) (N : mz_N) (s : Int32) : Prop := (s < 28 → (mz_ib (v1 + s) 3780)) ∧ (¬ (s < 28) → True)
noncomputable def cf_75_2 (a0 : Nat) (v1 : Int32) (v3 : Int32) (N : mz_N) : (Bool) := mz_run (cq_75_2 a0 v1 N) (v3)
def cp_75_2 (a0 : Nat) (v1 : Int32) (v3 : Int32) (N : mz_N) : Prop := ∃ n, mz_ok (cq_75_2 a0 v1 N) (cd_75_2 a0 v1 N) n (v3)
noncomputable def cf_75_0 (a0 : Nat) (v1 : Int32) (v2 : Int32) (N : mz_N) : (Bool) := (cf_75_2 a0 v1 v2 N)
def cp_75_0 (a0 : Nat) (v1 : Int32) (v2 : Int32) (N : mz_N) : Prop := cp_75_2 a0 v1 v2 N
/-! 74 KeptHouse$Program.findText ([II)Z -/
noncomputable def cf_74_79 (a1 : Nat) (v2 : Int32) (v3 : Int32) (v4 : Int32) (v5 : Int32) (N : mz_N) : ((Int32 × mz_N) ⊕ (Bool × mz_N)) := (.inl ((v4 + 1), mz_wI N 55 v4 v5))
def cp_74_79 (a1 : Nat) (v2 : Int32) (v3 : Int32) (v4 : Int32) (v5 : Int32) (N : mz_N) : Prop := mz_ib v4 196
noncomputable def cq_74_33 (a1 : Nat) (v2 : Int32) (v3 : Int32) (s : Int32 × mz_N) : ((Int32 × mz_N) ⊕ (Bool × mz_N)) := if s.1 < 196 then (if s.1 < v3 then (if (mz_gI s.2 a1 (v2 + s.1)) < 32 then (.inr (false, s.2)) else (if 126 < (mz_gI s.2 a1 (v2 + s.1)) then (.inr (false, s.2)) else (cf_74_79 a1 v2 v3 s.1 (mz_gI s.2 a1 (v2 + s.1)) s.2))) else (if (mz_gI s.2 a1 (v2 + s.1)) = 0 then (cf_74_79 a1 v2 v3 s.1 (mz_gI s.2 a1 (v2 + s.1)) s.2) else (.inr (false, s.2)))) else (.inr (true, mz_pI s.2 41 9 v3))
def cd_74_33 (a1 : Nat) (v2 : Int32) (v3 : Int32) (s : Int32 × mz_N) : Prop := (s.1 < 196 → ((mz_ib (v2 + s.1) 3780) ∧ ((s.1 < v3 → (((mz_gI s.2 a1 (v2 + s.1)) < 32 → True) ∧ (¬ ((mz_gI s.2 a1 (v2 + s.1)) < 32) → ((126 < (mz_gI s.2 a1 (v2 + s.1)) → True) ∧ (¬ (126 < (mz_gI s.2 a1 (v2 + s.1))) → (cp_74_79 a1 v2 v3 s.1 (mz_gI s.2 a1 (v2 + s.1)) s.2)))))) ∧ (¬ (s.1 < v3) → (((mz_gI s.2 a1 (v2 + s.1)) = 0 → (cp_74_79 a1 v2 v3 s.1 (mz_gI s.2 a1 (v2 + s.1)) s.2)) ∧ (¬ ((mz_gI s.2 a1 (v2 + s.1)) = 0) → True)))))) ∧ (¬ (s.1 < 196) → True)
noncomputable def cf_74_33 (a1 : Nat) (v2 : Int32) (v3 : Int32) (v4 : Int32) (N : mz_N) : (Bool × mz_N) := mz_run (cq_74_33 a1 v2 v3) (v4, N)
def cp_74_33 (a1 : Nat) (v2 : Int32) (v3 : Int32) (v4 : Int32) (N : mz_N) : Prop := ∃ n, mz_ok (cq_74_33 a1 v2 v3) (cd_74_33 a1 v2 v3) n (v4, N)
noncomputable def cf_74_0 (a1 : Nat) (v2 : Int32) (N : mz_N) : (Bool × mz_N) := if 196 < (mz_gI N a1 (v2 + 196)) then (false, N) else (if (cf_75_0 a1 (v2 + 196) 1 N) = true then (cf_74_33 a1 v2 (mz_gI N a1 (v2 + 196)) 0 N) else (false, N))
def cp_74_0 (a1 : Nat) (v2 : Int32) (N : mz_N) : Prop := (mz_ib (v2 + 196) 3780) ∧ ((196 < (mz_gI N a1 (v2 + 196)) → True) ∧ (¬ (196 < (mz_gI N a1 (v2 + 196))) → ((cp_75_0 a1 (v2 + 196) 1 N) ∧ (((cf_75_0 a1 (v2 + 196) 1 N) = true → (cp_74_33 a1 v2 (mz_gI N a1 (v2 + 196)) 0 N)) ∧ (¬ ((cf_75_0 a1 (v2 + 196) 1 N) = true) → True)))))
/-! 76 KeptHouse$Program.exchange ()V -/
noncomputable def cf_76_0 (N : mz_N) (b : Bool) : (mz_N × Bool) := (cf_44_0 N, !b)
def cp_76_0 (N : mz_N) (b : Bool) : Prop := cp_44_0 N
/-! 73 KeptHouse$Program.restore ([II)V -/
noncomputable def cf_73_31 (N : mz_N) (b : Bool) : (mz_N × Bool) := (N, b)
def cp_73_31 (N : mz_N) (b : Bool) : Prop := True
noncomputable def cf_73_27 (N : mz_N) (b : Bool) : (mz_N × Bool) := (cf_73_31 ((cf_76_0 N b).1) ((cf_76_0 N b).2))
def cp_73_27 (N : mz_N) (b : Bool) : Prop := (cp_76_0 N b) ∧ (cp_73_31 ((cf_76_0 N b).1) ((cf_76_0 N b).2))
noncomputable def cf_73_0 (v2 : Int32) (N : mz_N) (b : Bool) : (mz_N × Bool) := if ((cf_74_0 223 v2 N).1) = true then (if ((cf_23_0 (mz_ot b) 55 (((cf_74_0 223 v2 N).2).1 41 9) ((cf_74_0 223 v2 N).2)).1) = true then (cf_73_27 ((cf_23_0 (mz_ot b) 55 (((cf_74_0 223 v2 N).2).1 41 9) ((cf_74_0 223 v2 N).2)).2) b) else (cf_73_31 ((cf_23_0 (mz_ot b) 55 (((cf_74_0 223 v2 N).2).1 41 9) ((cf_74_0 223 v2 N).2)).2) b)) else (cf_73_31 ((cf_74_0 223 v2 N).2) b)
def cp_73_0 (v2 : Int32) (N : mz_N) (b : Bool) : Prop := (cp_74_0 223 v2 N) ∧ ((((cf_74_0 223 v2 N).1) = true → ((cp_23_0 (mz_ot b) 55 (((cf_74_0 223 v2 N).2).1 41 9) ((cf_74_0 223 v2 N).2)) ∧ ((((cf_23_0 (mz_ot b) 55 (((cf_74_0 223 v2 N).2).1 41 9) ((cf_74_0 223 v2 N).2)).1) = true → (cp_73_27 ((cf_23_0 (mz_ot b) 55 (((cf_74_0 223 v2 N).2).1 41 9) ((cf_74_0 223 v2 N).2)).2) b)) ∧ (¬ (((cf_23_0 (mz_ot b) 55 (((cf_74_0 223 v2 N).2).1 41 9) ((cf_74_0 223 v2 N).2)).1) = true) → (cp_73_31 ((cf_23_0 (mz_ot b) 55 (((cf_74_0 223 v2 N).2).1 41 9) ((cf_74_0 223 v2 N).2)).2) b))))) ∧ (¬ (((cf_74_0 223 v2 N).1) = true) → (cp_73_31 ((cf_74_0 223 v2 N).2) b)))
/-! 80 KeptHouse$Plan.neighbour (II)I -/
noncomputable def cf_80_0 (v0 : Int32) (v1 : Int32) : (Int32) := if v1 = 0 then (if (mz_irem v0 8) = 0 then (-1) else (v0 - 1)) else (if v1 = 1 then (if (mz_irem v0 8) = 7 then (-1) else (v0 + 1)) else (if v1 = 2 then (if v0 < 8 then (-1) else (v0 - 8)) else (if (v0 + 8) < 48 then (v0 + 8) else (-1))))
def cp_80_0 (v0 : Int32) (v1 : Int32) : Prop := True
/-! 81 KeptHouse$Plan.edgeAt (II)I -/
noncomputable def cf_81_0 (v0 : Int32) (v1 : Int32) : (Int32) := if v1 = 0 then (((v0 / 8) * 9) + (mz_irem v0 8)) else (if v1 = 1 then ((((v0 / 8) * 9) + (mz_irem v0 8)) + 1) else (if v1 = 2 then (54 + v0) else ((54 + v0) + 8)))
def cp_81_0 (v0 : Int32) (v1 : Int32) : Prop := True
/-! 79 KeptHouse$Plan.flood ([I[III)V -/
noncomputable def cf_79_138 (a1 : Nat) (a2 : Nat) (v4 : Int32) (v5 : Int32) (v6 : Int32) (v7 : Int32) (v8 : Int32) (N : mz_N) : ((Int32 × Int32 × mz_N) ⊕ ((Int32 × Int32 × mz_N) ⊕ (mz_N))) := (.inl (v6, (v8 + 1), N))
def cp_79_138 (a1 : Nat) (a2 : Nat) (v4 : Int32) (v5 : Int32) (v6 : Int32) (v7 : Int32) (v8 : Int32) (N : mz_N) : Prop := True
noncomputable def cf_79_135 (a1 : Nat) (a2 : Nat) (v4 : Int32) (v5 : Int32) (v6 : Int32) (v7 : Int32) (v8 : Int32) (N : mz_N) : ((Int32 × Int32 × mz_N) ⊕ ((Int32 × Int32 × mz_N) ⊕ (mz_N))) := (cf_79_138 a1 a2 v4 v5 (v6 + 1) v7 v8 N)
def cp_79_135 (a1 : Nat) (a2 : Nat) (v4 : Int32) (v5 : Int32) (v6 : Int32) (v7 : Int32) (v8 : Int32) (N : mz_N) : Prop := cp_79_138 a1 a2 v4 v5 (v6 + 1) v7 v8 N
noncomputable def cq_79_44 (a1 : Nat) (a2 : Nat) (v4 : Int32) (v5 : Int32) (v7 : Int32) (s : Int32 × Int32 × mz_N) : ((Int32 × Int32 × mz_N) ⊕ ((Int32 × Int32 × mz_N) ⊕ (mz_N))) := if s.2.1 < 4 then (if (cf_80_0 (mz_gI s.2.2 14 v7) s.2.1) = (-1) then (cf_79_138 a1 a2 v4 v5 s.1 v7 s.2.1 s.2.2) else (if s.1 < 48 then (if (mz_gI s.2.2 a2 ((v5 * 48) + (cf_80_0 (mz_gI s.2.2 14 v7) s.2.1))) = (-1) then (if (mz_gI s.2.2 a1 ((v5 * 110) + (cf_81_0 (mz_gI s.2.2 14 v7) s.2.1))) = 0 then (cf_79_135 a1 a2 v4 v5 s.1 v7 s.2.1 (mz_wI (mz_wI s.2.2 a2 ((v5 * 48) + (cf_80_0 (mz_gI s.2.2 14 v7) s.2.1)) v4) 14 s.1 (cf_80_0 (mz_gI s.2.2 14 v7) s.2.1))) else (cf_79_138 a1 a2 v4 v5 s.1 v7 s.2.1 s.2.2)) else (cf_79_138 a1 a2 v4 v5 s.1 v7 s.2.1 s.2.2)) else (cf_79_138 a1 a2 v4 v5 s.1 v7 s.2.1 s.2.2))) else (.inr (.inl (s.1, (v7 + 1), s.2.2)))
def cd_79_44 (a1 : Nat) (a2 : Nat) (v4 : Int32) (v5 : Int32) (v7 : Int32) (s : Int32 × Int32 × mz_N) : Prop := (s.2.1 < 4 → ((mz_ib v7 48) ∧ (((cf_80_0 (mz_gI s.2.2 14 v7) s.2.1) = (-1) → (cp_79_138 a1 a2 v4 v5 s.1 v7 s.2.1 s.2.2)) ∧ (¬ ((cf_80_0 (mz_gI s.2.2 14 v7) s.2.1) = (-1)) → ((s.1 < 48 → ((mz_ib ((v5 * 48) + (cf_80_0 (mz_gI s.2.2 14 v7) s.2.1)) 240) ∧ (((mz_gI s.2.2 a2 ((v5 * 48) + (cf_80_0 (mz_gI s.2.2 14 v7) s.2.1))) = (-1) → ((mz_ib v7 48) ∧ ((mz_ib ((v5 * 110) + (cf_81_0 (mz_gI s.2.2 14 v7) s.2.1)) 550) ∧ (((mz_gI s.2.2 a1 ((v5 * 110) + (cf_81_0 (mz_gI s.2.2 14 v7) s.2.1))) = 0 → ((mz_ib ((v5 * 48) + (cf_80_0 (mz_gI s.2.2 14 v7) s.2.1)) 240) ∧ ((mz_ib s.1 48) ∧ (cp_79_135 a1 a2 v4 v5 s.1 v7 s.2.1 (mz_wI (mz_wI s.2.2 a2 ((v5 * 48) + (cf_80_0 (mz_gI s.2.2 14 v7) s.2.1)) v4) 14 s.1 (cf_80_0 (mz_gI s.2.2 14 v7) s.2.1)))))) ∧ (¬ ((mz_gI s.2.2 a1 ((v5 * 110) + (cf_81_0 (mz_gI s.2.2 14 v7) s.2.1))) = 0) → (cp_79_138 a1 a2 v4 v5 s.1 v7 s.2.1 s.2.2)))))) ∧ (¬ ((mz_gI s.2.2 a2 ((v5 * 48) + (cf_80_0 (mz_gI s.2.2 14 v7) s.2.1))) = (-1)) → (cp_79_138 a1 a2 v4 v5 s.1 v7 s.2.1 s.2.2))))) ∧ (¬ (s.1 < 48) → (cp_79_138 a1 a2 v4 v5 s.1 v7 s.2.1 s.2.2))))))) ∧ (¬ (s.2.1 < 4) → True)
noncomputable def cf_79_44 (a1 : Nat) (a2 : Nat) (v4 : Int32) (v5 : Int32) (v6 : Int32) (v7 : Int32) (v8 : Int32) (N : mz_N) : ((Int32 × Int32 × mz_N) ⊕ (mz_N)) := mz_run (cq_79_44 a1 a2 v4 v5 v7) (v6, v8, N)
def cp_79_44 (a1 : Nat) (a2 : Nat) (v4 : Int32) (v5 : Int32) (v6 : Int32) (v7 : Int32) (v8 : Int32) (N : mz_N) : Prop := ∃ n, mz_ok (cq_79_44 a1 a2 v4 v5 v7) (cd_79_44 a1 a2 v4 v5 v7) n (v6, v8, N)
noncomputable def cq_79_27 (a1 : Nat) (a2 : Nat) (v4 : Int32) (v5 : Int32) (s : Int32 × Int32 × mz_N) : ((Int32 × Int32 × mz_N) ⊕ (mz_N)) := if s.2.1 < s.1 then (if s.2.1 < 48 then (cf_79_44 a1 a2 v4 v5 s.1 s.2.1 0 s.2.2) else (.inr s.2.2)) else (.inr s.2.2)
def cd_79_27 (a1 : Nat) (a2 : Nat) (v4 : Int32) (v5 : Int32) (s : Int32 × Int32 × mz_N) : Prop := (s.2.1 < s.1 → ((s.2.1 < 48 → (cp_79_44 a1 a2 v4 v5 s.1 s.2.1 0 s.2.2)) ∧ (¬ (s.2.1 < 48) → True))) ∧ (¬ (s.2.1 < s.1) → True)
noncomputable def cf_79_27 (a1 : Nat) (a2 : Nat) (v4 : Int32) (v5 : Int32) (v6 : Int32) (v7 : Int32) (N : mz_N) : (mz_N) := mz_run (cq_79_27 a1 a2 v4 v5) (v6, v7, N)
def cp_79_27 (a1 : Nat) (a2 : Nat) (v4 : Int32) (v5 : Int32) (v6 : Int32) (v7 : Int32) (N : mz_N) : Prop := ∃ n, mz_ok (cq_79_27 a1 a2 v4 v5) (cd_79_27 a1 a2 v4 v5) n (v6, v7, N)
noncomputable def cf_79_0 (a1 : Nat) (a2 : Nat) (v3 : Int32) (v4 : Int32) (N : mz_N) : (mz_N) := (cf_79_27 a1 a2 v4 (v3 / 48) 1 0 (mz_wI (mz_wI N a2 v3 v4) 14 0 (mz_irem v3 48)))
def cp_79_0 (a1 : Nat) (a2 : Nat) (v3 : Int32) (v4 : Int32) (N : mz_N) : Prop := (mz_ib v3 240) ∧ (cp_79_27 a1 a2 v4 (v3 / 48) 1 0 (mz_wI (mz_wI N a2 v3 v4) 14 0 (mz_irem v3 48)))
/-! 78 KeptHouse$Plan.divide ([I[I)I -/
noncomputable def cf_78_38 (a1 : Nat) (a2 : Nat) (v3 : Int32) (v4 : Int32) (N : mz_N) : ((Int32 × Int32 × mz_N) ⊕ (Int32 × mz_N)) := (.inl (v3, (v4 + 1), N))
def cp_78_38 (a1 : Nat) (a2 : Nat) (v3 : Int32) (v4 : Int32) (N : mz_N) : Prop := True
noncomputable def cq_78_10 (a1 : Nat) (a2 : Nat) (s : Int32 × Int32 × mz_N) : ((Int32 × Int32 × mz_N) ⊕ (Int32 × mz_N)) := if s.2.1 < 240 then (if (mz_gI s.2.2 a2 s.2.1) = (-1) then (cf_78_38 a1 a2 (s.1 + 1) s.2.1 (cf_79_0 a1 a2 s.2.1 s.1 s.2.2)) else (cf_78_38 a1 a2 s.1 s.2.1 s.2.2)) else (.inr (s.1, s.2.2))
def cd_78_10 (a1 : Nat) (a2 : Nat) (s : Int32 × Int32 × mz_N) : Prop := (s.2.1 < 240 → ((mz_ib s.2.1 240) ∧ (((mz_gI s.2.2 a2 s.2.1) = (-1) → ((cp_79_0 a1 a2 s.2.1 s.1 s.2.2) ∧ (cp_78_38 a1 a2 (s.1 + 1) s.2.1 (cf_79_0 a1 a2 s.2.1 s.1 s.2.2)))) ∧ (¬ ((mz_gI s.2.2 a2 s.2.1) = (-1)) → (cp_78_38 a1 a2 s.1 s.2.1 s.2.2))))) ∧ (¬ (s.2.1 < 240) → True)
noncomputable def cf_78_10 (a1 : Nat) (a2 : Nat) (v3 : Int32) (v4 : Int32) (N : mz_N) : (Int32 × mz_N) := mz_run (cq_78_10 a1 a2) (v3, v4, N)
def cp_78_10 (a1 : Nat) (a2 : Nat) (v3 : Int32) (v4 : Int32) (N : mz_N) : Prop := ∃ n, mz_ok (cq_78_10 a1 a2) (cd_78_10 a1 a2) n (v3, v4, N)
noncomputable def cf_78_0 (a1 : Nat) (a2 : Nat) (N : mz_N) : (Int32 × mz_N) := (cf_78_10 a1 a2 0 0 (cf_13_0 a2 240 (-1) N))
def cp_78_0 (a1 : Nat) (a2 : Nat) (N : mz_N) : Prop := (cp_13_0 a2 240 (-1) N) ∧ (cp_78_10 a1 a2 0 0 (cf_13_0 a2 240 (-1) N))
/-! 82 KeptHouse$Plan.listCells ()V -/
noncomputable def cf_82_180 (v2 : Int32) (v3 : Int32) (N : mz_N) : ((Int32 × mz_N) ⊕ (mz_N)) := (.inl ((v2 + 1), mz_wI N 29 v3 ((mz_gI N 29 v3) + 1)))
def cp_82_180 (v2 : Int32) (v3 : Int32) (N : mz_N) : Prop := (mz_ib v3 40) ∧ (mz_ib v3 40)
noncomputable def cq_82_141  (s : Int32 × mz_N) : ((Int32 × mz_N) ⊕ (mz_N)) := if s.1 < 240 then (cf_82_180 s.1 (mz_gI s.2 15 s.1) (mz_wI s.2 30 ((mz_gI s.2 28 (mz_gI s.2 15 s.1)) + (mz_gI s.2 29 (mz_gI s.2 15 s.1))) s.1)) else (.inr s.2)
def cd_82_141  (s : Int32 × mz_N) : Prop := (s.1 < 240 → ((mz_ib s.1 240) ∧ ((mz_ib (mz_gI s.2 15 s.1) 40) ∧ ((mz_ib (mz_gI s.2 15 s.1) 40) ∧ ((mz_ib ((mz_gI s.2 28 (mz_gI s.2 15 s.1)) + (mz_gI s.2 29 (mz_gI s.2 15 s.1))) 240) ∧ (cp_82_180 s.1 (mz_gI s.2 15 s.1) (mz_wI s.2 30 ((mz_gI s.2 28 (mz_gI s.2 15 s.1)) + (mz_gI s.2 29 (mz_gI s.2 15 s.1))) s.1))))))) ∧ (¬ (s.1 < 240) → True)
noncomputable def cf_82_141 (v2 : Int32) (N : mz_N) : (mz_N) := mz_run (cq_82_141 ) (v2, N)
def cp_82_141 (v2 : Int32) (N : mz_N) : Prop := ∃ n, mz_ok (cq_82_141 ) (cd_82_141 ) n (v2, N)
noncomputable def cq_82_104  (s : Int32 × Int32 × mz_N) : ((Int32 × Int32 × mz_N) ⊕ (mz_N)) := if s.2.1 < (s.2.2.1 2 7) then (.inl ((s.1 + (mz_gI (mz_wI s.2.2 28 s.2.1 s.1) 19 s.2.1)), (s.2.1 + 1), mz_wI s.2.2 28 s.2.1 s.1)) else (.inr (cf_82_141 0 s.2.2))
def cd_82_104  (s : Int32 × Int32 × mz_N) : Prop := (s.2.1 < (s.2.2.1 2 7) → ((mz_ib s.2.1 40) ∧ (mz_ib s.2.1 40))) ∧ (¬ (s.2.1 < (s.2.2.1 2 7)) → (cp_82_141 0 s.2.2))
noncomputable def cf_82_104 (v1 : Int32) (v2 : Int32) (N : mz_N) : (mz_N) := mz_run (cq_82_104 ) (v1, v2, N)
def cp_82_104 (v1 : Int32) (v2 : Int32) (N : mz_N) : Prop := ∃ n, mz_ok (cq_82_104 ) (cd_82_104 ) n (v1, v2, N)
noncomputable def cf_82_82 (v1 : Int32) (v2 : Int32) (N : mz_N) : ((Int32 × mz_N) ⊕ (mz_N)) := (.inl ((v1 + 1), mz_wI N 19 v2 ((mz_gI N 19 v2) + 1)))
def cp_82_82 (v1 : Int32) (v2 : Int32) (N : mz_N) : Prop := (mz_ib v2 40) ∧ (mz_ib v2 40)
noncomputable def cf_82_68 (v1 : Int32) (v2 : Int32) (N : mz_N) : ((Int32 × mz_N) ⊕ (mz_N)) := (cf_82_82 v1 v2 (mz_wI N 20 v2 (mz_gI N 37 v1)))
def cp_82_68 (v1 : Int32) (v2 : Int32) (N : mz_N) : Prop := (mz_ib v1 240) ∧ ((mz_ib v2 40) ∧ (cp_82_82 v1 v2 (mz_wI N 20 v2 (mz_gI N 37 v1))))
noncomputable def cq_82_2  (s : Int32 × mz_N) : ((Int32 × mz_N) ⊕ (mz_N)) := if s.1 < 240 then (if (mz_gI (mz_wI s.2 15 s.1 (mz_imin (mz_gI s.2 15 s.1) 39)) 19 (mz_gI (mz_wI s.2 15 s.1 (mz_imin (mz_gI s.2 15 s.1) 39)) 15 s.1)) = 0 then (cf_82_68 s.1 (mz_gI (mz_wI s.2 15 s.1 (mz_imin (mz_gI s.2 15 s.1) 39)) 15 s.1) (mz_wI (mz_wI (mz_wI s.2 15 s.1 (mz_imin (mz_gI s.2 15 s.1) 39)) 17 (mz_gI (mz_wI s.2 15 s.1 (mz_imin (mz_gI s.2 15 s.1) 39)) 15 s.1) (s.1 / 48)) 18 (mz_gI (mz_wI s.2 15 s.1 (mz_imin (mz_gI s.2 15 s.1) 39)) 15 s.1) (mz_irem s.1 48))) else (cf_82_82 s.1 (mz_gI (mz_wI s.2 15 s.1 (mz_imin (mz_gI s.2 15 s.1) 39)) 15 s.1) (mz_wI s.2 15 s.1 (mz_imin (mz_gI s.2 15 s.1) 39)))) else (.inr (cf_82_104 0 0 s.2))
def cd_82_2  (s : Int32 × mz_N) : Prop := (s.1 < 240 → ((mz_ib s.1 240) ∧ ((mz_ib s.1 240) ∧ ((mz_ib s.1 240) ∧ ((mz_ib (mz_gI (mz_wI s.2 15 s.1 (mz_imin (mz_gI s.2 15 s.1) 39)) 15 s.1) 40) ∧ (((mz_gI (mz_wI s.2 15 s.1 (mz_imin (mz_gI s.2 15 s.1) 39)) 19 (mz_gI (mz_wI s.2 15 s.1 (mz_imin (mz_gI s.2 15 s.1) 39)) 15 s.1)) = 0 → ((mz_ib (mz_gI (mz_wI s.2 15 s.1 (mz_imin (mz_gI s.2 15 s.1) 39)) 15 s.1) 40) ∧ ((mz_ib (mz_gI (mz_wI s.2 15 s.1 (mz_imin (mz_gI s.2 15 s.1) 39)) 15 s.1) 40) ∧ (cp_82_68 s.1 (mz_gI (mz_wI s.2 15 s.1 (mz_imin (mz_gI s.2 15 s.1) 39)) 15 s.1) (mz_wI (mz_wI (mz_wI s.2 15 s.1 (mz_imin (mz_gI s.2 15 s.1) 39)) 17 (mz_gI (mz_wI s.2 15 s.1 (mz_imin (mz_gI s.2 15 s.1) 39)) 15 s.1) (s.1 / 48)) 18 (mz_gI (mz_wI s.2 15 s.1 (mz_imin (mz_gI s.2 15 s.1) 39)) 15 s.1) (mz_irem s.1 48)))))) ∧ (¬ ((mz_gI (mz_wI s.2 15 s.1 (mz_imin (mz_gI s.2 15 s.1) 39)) 19 (mz_gI (mz_wI s.2 15 s.1 (mz_imin (mz_gI s.2 15 s.1) 39)) 15 s.1)) = 0) → (cp_82_82 s.1 (mz_gI (mz_wI s.2 15 s.1 (mz_imin (mz_gI s.2 15 s.1) 39)) 15 s.1) (mz_wI s.2 15 s.1 (mz_imin (mz_gI s.2 15 s.1) 39)))))))))) ∧ (¬ (s.1 < 240) → (cp_82_104 0 0 s.2))
noncomputable def cf_82_2 (v1 : Int32) (N : mz_N) : (mz_N) := mz_run (cq_82_2 ) (v1, N)
def cp_82_2 (v1 : Int32) (N : mz_N) : Prop := ∃ n, mz_ok (cq_82_2 ) (cd_82_2 ) n (v1, N)
noncomputable def cf_82_0 (N : mz_N) : (mz_N) := (cf_82_2 0 N)
def cp_82_0 (N : mz_N) : Prop := cp_82_2 0 N
/-! 84 KeptHouse$Plan.cellBefore (I)I -/
noncomputable def cf_84_0 (v0 : Int32) : (Int32) := if v0 < 54 then (if (mz_irem v0 9) = 0 then (-1) else ((((v0 / 9) * 8) + (mz_irem v0 9)) - 1)) else (if v0 < 62 then (-1) else ((v0 - 54) - 8))
def cp_84_0 (v0 : Int32) : Prop := True
/-! 85 KeptHouse$Plan.cellBehind (I)I -/
noncomputable def cf_85_0 (v0 : Int32) : (Int32) := if v0 < 54 then (if (mz_irem v0 9) = 8 then (-1) else (((v0 / 9) * 8) + (mz_irem v0 9))) else (if v0 < 102 then (v0 - 54) else (-1))
def cp_85_0 (v0 : Int32) : Prop := True
/-! 83 KeptHouse$Plan.weighInner (I)V -/
noncomputable def cf_83_102 (N : mz_N) : (mz_N) := N
def cp_83_102 (N : mz_N) : Prop := True
noncomputable def cf_83_74 (s0 : Int32) (v3 : Int32) (v4 : Int32) (N : mz_N) : (mz_N) := (cf_83_102 (mz_wI N 31 (((mz_imin v3 v4) * 40) + (mz_imax v3 v4)) ((mz_gI N 31 (((mz_imin v3 v4) * 40) + (mz_imax v3 v4))) + s0)))
def cp_83_74 (s0 : Int32) (v3 : Int32) (v4 : Int32) (N : mz_N) : Prop := (mz_ib (((mz_imin v3 v4) * 40) + (mz_imax v3 v4)) 1600) ∧ ((mz_ib (((mz_imin v3 v4) * 40) + (mz_imax v3 v4)) 1600) ∧ (cp_83_102 (mz_wI N 31 (((mz_imin v3 v4) * 40) + (mz_imax v3 v4)) ((mz_gI N 31 (((mz_imin v3 v4) * 40) + (mz_imax v3 v4))) + s0))))
noncomputable def cf_83_0 (v1 : Int32) (N : mz_N) : (mz_N) := if (mz_gI N 15 (((v1 / 110) * 48) + (cf_84_0 (mz_irem v1 110)))) = (mz_gI N 15 (((v1 / 110) * 48) + (cf_85_0 (mz_irem v1 110)))) then N else (if (mz_gI N 3 v1) = 1 then (cf_83_74 3 (mz_gI N 15 (((v1 / 110) * 48) + (cf_84_0 (mz_irem v1 110)))) (mz_gI N 15 (((v1 / 110) * 48) + (cf_85_0 (mz_irem v1 110)))) N) else (if (mz_gI N 3 v1) = 3 then (cf_83_74 5 (mz_gI N 15 (((v1 / 110) * 48) + (cf_84_0 (mz_irem v1 110)))) (mz_gI N 15 (((v1 / 110) * 48) + (cf_85_0 (mz_irem v1 110)))) N) else (cf_83_74 1 (mz_gI N 15 (((v1 / 110) * 48) + (cf_84_0 (mz_irem v1 110)))) (mz_gI N 15 (((v1 / 110) * 48) + (cf_85_0 (mz_irem v1 110)))) N)))
def cp_83_0 (v1 : Int32) (N : mz_N) : Prop := (mz_ib (((v1 / 110) * 48) + (cf_84_0 (mz_irem v1 110))) 240) ∧ ((mz_ib (((v1 / 110) * 48) + (cf_85_0 (mz_irem v1 110))) 240) ∧ (((mz_gI N 15 (((v1 / 110) * 48) + (cf_84_0 (mz_irem v1 110)))) = (mz_gI N 15 (((v1 / 110) * 48) + (cf_85_0 (mz_irem v1 110)))) → True) ∧ (¬ ((mz_gI N 15 (((v1 / 110) * 48) + (cf_84_0 (mz_irem v1 110)))) = (mz_gI N 15 (((v1 / 110) * 48) + (cf_85_0 (mz_irem v1 110))))) → ((mz_ib v1 550) ∧ (((mz_gI N 3 v1) = 1 → (cp_83_74 3 (mz_gI N 15 (((v1 / 110) * 48) + (cf_84_0 (mz_irem v1 110)))) (mz_gI N 15 (((v1 / 110) * 48) + (cf_85_0 (mz_irem v1 110)))) N)) ∧ (¬ ((mz_gI N 3 v1) = 1) → ((mz_ib v1 550) ∧ (((mz_gI N 3 v1) = 3 → (cp_83_74 5 (mz_gI N 15 (((v1 / 110) * 48) + (cf_84_0 (mz_irem v1 110)))) (mz_gI N 15 (((v1 / 110) * 48) + (cf_85_0 (mz_irem v1 110)))) N)) ∧ (¬ ((mz_gI N 3 v1) = 3) → (cp_83_74 1 (mz_gI N 15 (((v1 / 110) * 48) + (cf_84_0 (mz_irem v1 110)))) (mz_gI N 15 (((v1 / 110) * 48) + (cf_85_0 (mz_irem v1 110)))) N))))))))))
/-! 86 KeptHouse$Plan.weighBorder (II)V -/
noncomputable def cf_86_74 (v5 : Int32) (N : mz_N) : (mz_N) := mz_wI N 27 v5 ((mz_gI N 27 v5) + 4)
def cp_86_74 (v5 : Int32) (N : mz_N) : Prop := (mz_ib v5 40) ∧ (mz_ib v5 40)
noncomputable def cf_86_58 (v2 : Int32) (v5 : Int32) (N : mz_N) : (mz_N) := (cf_86_74 v5 (mz_wI N (17 + (6 + v2).toNatClampNeg) v5 ((mz_gI N (17 + (6 + v2).toNatClampNeg) v5) + 1)))
def cp_86_58 (v2 : Int32) (v5 : Int32) (N : mz_N) : Prop := (mz_ib (6 + v2) 13) ∧ ((mz_ib v5 40) ∧ ((mz_ib v5 40) ∧ (cp_86_74 v5 (mz_wI N (17 + (6 + v2).toNatClampNeg) v5 ((mz_gI N (17 + (6 + v2).toNatClampNeg) v5) + 1)))))
noncomputable def cf_86_118 (v4 : Int32) (N : mz_N) : (mz_N) := mz_wI N 36 v4 1
def cp_86_118 (v4 : Int32) (N : mz_N) : Prop := mz_ib v4 240
noncomputable def cf_86_0 (v1 : Int32) (v2 : Int32) (N : mz_N) : (mz_N) := if (mz_gI N 3 v1) = 3 then (cf_86_58 v2 (mz_gI N 15 (((v1 / 110) * 48) + (mz_imax (cf_84_0 (mz_irem v1 110)) (cf_85_0 (mz_irem v1 110))))) (mz_wI N 22 (mz_gI N 15 (((v1 / 110) * 48) + (mz_imax (cf_84_0 (mz_irem v1 110)) (cf_85_0 (mz_irem v1 110))))) ((mz_gI N 22 (mz_gI N 15 (((v1 / 110) * 48) + (mz_imax (cf_84_0 (mz_irem v1 110)) (cf_85_0 (mz_irem v1 110)))))) + 1))) else (cf_86_118 (((v1 / 110) * 48) + (mz_imax (cf_84_0 (mz_irem v1 110)) (cf_85_0 (mz_irem v1 110)))) (mz_wI (mz_wI N 21 (mz_gI N 15 (((v1 / 110) * 48) + (mz_imax (cf_84_0 (mz_irem v1 110)) (cf_85_0 (mz_irem v1 110))))) ((mz_gI N 21 (mz_gI N 15 (((v1 / 110) * 48) + (mz_imax (cf_84_0 (mz_irem v1 110)) (cf_85_0 (mz_irem v1 110)))))) + 1)) 27 (mz_gI N 15 (((v1 / 110) * 48) + (mz_imax (cf_84_0 (mz_irem v1 110)) (cf_85_0 (mz_irem v1 110))))) ((mz_gI (mz_wI N 21 (mz_gI N 15 (((v1 / 110) * 48) + (mz_imax (cf_84_0 (mz_irem v1 110)) (cf_85_0 (mz_irem v1 110))))) ((mz_gI N 21 (mz_gI N 15 (((v1 / 110) * 48) + (mz_imax (cf_84_0 (mz_irem v1 110)) (cf_85_0 (mz_irem v1 110)))))) + 1)) 27 (mz_gI N 15 (((v1 / 110) * 48) + (mz_imax (cf_84_0 (mz_irem v1 110)) (cf_85_0 (mz_irem v1 110)))))) + 1)))
def cp_86_0 (v1 : Int32) (v2 : Int32) (N : mz_N) : Prop := (mz_ib (((v1 / 110) * 48) + (mz_imax (cf_84_0 (mz_irem v1 110)) (cf_85_0 (mz_irem v1 110)))) 240) ∧ ((mz_ib v1 550) ∧ (((mz_gI N 3 v1) = 3 → ((mz_ib (mz_gI N 15 (((v1 / 110) * 48) + (mz_imax (cf_84_0 (mz_irem v1 110)) (cf_85_0 (mz_irem v1 110))))) 40) ∧ ((mz_ib (mz_gI N 15 (((v1 / 110) * 48) + (mz_imax (cf_84_0 (mz_irem v1 110)) (cf_85_0 (mz_irem v1 110))))) 40) ∧ (cp_86_58 v2 (mz_gI N 15 (((v1 / 110) * 48) + (mz_imax (cf_84_0 (mz_irem v1 110)) (cf_85_0 (mz_irem v1 110))))) (mz_wI N 22 (mz_gI N 15 (((v1 / 110) * 48) + (mz_imax (cf_84_0 (mz_irem v1 110)) (cf_85_0 (mz_irem v1 110))))) ((mz_gI N 22 (mz_gI N 15 (((v1 / 110) * 48) + (mz_imax (cf_84_0 (mz_irem v1 110)) (cf_85_0 (mz_irem v1 110)))))) + 1)))))) ∧ (¬ ((mz_gI N 3 v1) = 3) → ((mz_ib (mz_gI N 15 (((v1 / 110) * 48) + (mz_imax (cf_84_0 (mz_irem v1 110)) (cf_85_0 (mz_irem v1 110))))) 40) ∧ ((mz_ib (mz_gI N 15 (((v1 / 110) * 48) + (mz_imax (cf_84_0 (mz_irem v1 110)) (cf_85_0 (mz_irem v1 110))))) 40) ∧ ((mz_ib (mz_gI N 15 (((v1 / 110) * 48) + (mz_imax (cf_84_0 (mz_irem v1 110)) (cf_85_0 (mz_irem v1 110))))) 40) ∧ ((mz_ib (mz_gI N 15 (((v1 / 110) * 48) + (mz_imax (cf_84_0 (mz_irem v1 110)) (cf_85_0 (mz_irem v1 110))))) 40) ∧ (cp_86_118 (((v1 / 110) * 48) + (mz_imax (cf_84_0 (mz_irem v1 110)) (cf_85_0 (mz_irem v1 110)))) (mz_wI (mz_wI N 21 (mz_gI N 15 (((v1 / 110) * 48) + (mz_imax (cf_84_0 (mz_irem v1 110)) (cf_85_0 (mz_irem v1 110))))) ((mz_gI N 21 (mz_gI N 15 (((v1 / 110) * 48) + (mz_imax (cf_84_0 (mz_irem v1 110)) (cf_85_0 (mz_irem v1 110)))))) + 1)) 27 (mz_gI N 15 (((v1 / 110) * 48) + (mz_imax (cf_84_0 (mz_irem v1 110)) (cf_85_0 (mz_irem v1 110))))) ((mz_gI (mz_wI N 21 (mz_gI N 15 (((v1 / 110) * 48) + (mz_imax (cf_84_0 (mz_irem v1 110)) (cf_85_0 (mz_irem v1 110))))) ((mz_gI N 21 (mz_gI N 15 (((v1 / 110) * 48) + (mz_imax (cf_84_0 (mz_irem v1 110)) (cf_85_0 (mz_irem v1 110)))))) + 1)) 27 (mz_gI N 15 (((v1 / 110) * 48) + (mz_imax (cf_84_0 (mz_irem v1 110)) (cf_85_0 (mz_irem v1 110)))))) + 1))))))))))
/-! 87 KeptHouse$Plan.weighCeilings ()V -/
noncomputable def cf_87_68 (v1 : Int32) (N : mz_N) : ((Int32 × mz_N) ⊕ (mz_N)) := (.inl ((v1 + 1), N))
def cp_87_68 (v1 : Int32) (N : mz_N) : Prop := True
noncomputable def cf_87_47 (v1 : Int32) (N : mz_N) : ((Int32 × mz_N) ⊕ (mz_N)) := (cf_87_68 v1 N)
def cp_87_47 (v1 : Int32) (N : mz_N) : Prop := cp_87_68 v1 N
noncomputable def cq_87_2  (s : Int32 × mz_N) : ((Int32 × mz_N) ⊕ (mz_N)) := if s.1 < 240 then (if (s.1 + 48) < 240 then (cf_87_47 s.1 (mz_wI s.2 31 (((mz_gI s.2 15 s.1) * 40) + (mz_gI s.2 15 (s.1 + 48))) ((mz_gI s.2 31 (((mz_gI s.2 15 s.1) * 40) + (mz_gI s.2 15 (s.1 + 48)))) + 1))) else (cf_87_68 s.1 (mz_wI s.2 27 (mz_gI s.2 15 s.1) ((mz_gI s.2 27 (mz_gI s.2 15 s.1)) + 1)))) else (.inr s.2)
def cd_87_2  (s : Int32 × mz_N) : Prop := (s.1 < 240 → (((s.1 + 48) < 240 → ((mz_ib s.1 240) ∧ ((mz_ib (s.1 + 48) 240) ∧ ((mz_ib (((mz_gI s.2 15 s.1) * 40) + (mz_gI s.2 15 (s.1 + 48))) 1600) ∧ ((mz_ib (((mz_gI s.2 15 s.1) * 40) + (mz_gI s.2 15 (s.1 + 48))) 1600) ∧ (cp_87_47 s.1 (mz_wI s.2 31 (((mz_gI s.2 15 s.1) * 40) + (mz_gI s.2 15 (s.1 + 48))) ((mz_gI s.2 31 (((mz_gI s.2 15 s.1) * 40) + (mz_gI s.2 15 (s.1 + 48)))) + 1)))))))) ∧ (¬ ((s.1 + 48) < 240) → ((mz_ib s.1 240) ∧ ((mz_ib (mz_gI s.2 15 s.1) 40) ∧ ((mz_ib (mz_gI s.2 15 s.1) 40) ∧ (cp_87_68 s.1 (mz_wI s.2 27 (mz_gI s.2 15 s.1) ((mz_gI s.2 27 (mz_gI s.2 15 s.1)) + 1))))))))) ∧ (¬ (s.1 < 240) → True)
noncomputable def cf_87_2 (v1 : Int32) (N : mz_N) : (mz_N) := mz_run (cq_87_2 ) (v1, N)
def cp_87_2 (v1 : Int32) (N : mz_N) : Prop := ∃ n, mz_ok (cq_87_2 ) (cd_87_2 ) n (v1, N)
noncomputable def cf_87_0 (N : mz_N) : (mz_N) := (cf_87_2 0 N)
def cp_87_0 (N : mz_N) : Prop := cp_87_2 0 N
/-! 88 KeptHouse$Plan.listPairs ()V -/
noncomputable def cf_88_89 (v1 : Int32) (v2 : Int32) (N : mz_N) : ((Int32 × mz_N) ⊕ ((Int32 × mz_N) ⊕ (mz_N))) := (.inl ((v2 + 1), N))
def cp_88_89 (v1 : Int32) (v2 : Int32) (N : mz_N) : Prop := True
noncomputable def cf_88_67 (v1 : Int32) (v2 : Int32) (v3 : Int32) (N : mz_N) : ((Int32 × mz_N) ⊕ ((Int32 × mz_N) ⊕ (mz_N))) := (cf_88_89 v1 v2 (mz_pI (mz_wI N 35 (N.1 2 13) v3) 2 13 (((mz_wI N 35 (N.1 2 13) v3).1 2 13) + 1)))
def cp_88_67 (v1 : Int32) (v2 : Int32) (v3 : Int32) (N : mz_N) : Prop := (mz_ib (N.1 2 13) 780) ∧ (cp_88_89 v1 v2 (mz_pI (mz_wI N 35 (N.1 2 13) v3) 2 13 (((mz_wI N 35 (N.1 2 13) v3).1 2 13) + 1)))
noncomputable def cq_88_19 (v1 : Int32) (s : Int32 × mz_N) : ((Int32 × mz_N) ⊕ ((Int32 × mz_N) ⊕ (mz_N))) := if s.1 < (s.2.1 2 7) then (if 0 < (mz_gI s.2 31 ((v1 * 40) + s.1)) then (cf_88_67 v1 s.1 (mz_gI s.2 31 ((v1 * 40) + s.1)) (mz_wI (mz_wI s.2 33 (s.2.1 2 13) v1) 34 ((mz_wI s.2 33 (s.2.1 2 13) v1).1 2 13) s.1)) else (cf_88_89 v1 s.1 s.2)) else (.inr (.inl ((v1 + 1), s.2)))
def cd_88_19 (v1 : Int32) (s : Int32 × mz_N) : Prop := (s.1 < (s.2.1 2 7) → ((mz_ib ((v1 * 40) + s.1) 1600) ∧ ((0 < (mz_gI s.2 31 ((v1 * 40) + s.1)) → ((mz_ib (s.2.1 2 13) 780) ∧ ((mz_ib ((mz_wI s.2 33 (s.2.1 2 13) v1).1 2 13) 780) ∧ (cp_88_67 v1 s.1 (mz_gI s.2 31 ((v1 * 40) + s.1)) (mz_wI (mz_wI s.2 33 (s.2.1 2 13) v1) 34 ((mz_wI s.2 33 (s.2.1 2 13) v1).1 2 13) s.1))))) ∧ (¬ (0 < (mz_gI s.2 31 ((v1 * 40) + s.1))) → (cp_88_89 v1 s.1 s.2))))) ∧ (¬ (s.1 < (s.2.1 2 7)) → True)
noncomputable def cf_88_19 (v1 : Int32) (v2 : Int32) (N : mz_N) : ((Int32 × mz_N) ⊕ (mz_N)) := mz_run (cq_88_19 v1) (v2, N)
def cp_88_19 (v1 : Int32) (v2 : Int32) (N : mz_N) : Prop := ∃ n, mz_ok (cq_88_19 v1) (cd_88_19 v1) n (v2, N)
noncomputable def cq_88_7  (s : Int32 × mz_N) : ((Int32 × mz_N) ⊕ (mz_N)) := if s.1 < (s.2.1 2 7) then (cf_88_19 s.1 (s.1 + 1) s.2) else (.inr s.2)
def cd_88_7  (s : Int32 × mz_N) : Prop := (s.1 < (s.2.1 2 7) → (cp_88_19 s.1 (s.1 + 1) s.2)) ∧ (¬ (s.1 < (s.2.1 2 7)) → True)
noncomputable def cf_88_7 (v1 : Int32) (N : mz_N) : (mz_N) := mz_run (cq_88_7 ) (v1, N)
def cp_88_7 (v1 : Int32) (N : mz_N) : Prop := ∃ n, mz_ok (cq_88_7 ) (cd_88_7 ) n (v1, N)
noncomputable def cf_88_0 (N : mz_N) : (mz_N) := (cf_88_7 0 (mz_pI N 2 13 0))
def cp_88_0 (N : mz_N) : Prop := cp_88_7 0 (mz_pI N 2 13 0)
/-! 89 KeptHouse$Plan.findHearts ()V -/
noncomputable def cf_89_75 (v1 : Int32) (N : mz_N) : ((Int32 × mz_N) ⊕ (mz_N)) := (.inl ((v1 + 1), N))
def cp_89_75 (v1 : Int32) (N : mz_N) : Prop := True
noncomputable def cf_89_58 (v1 : Int32) (v2 : Int32) (N : mz_N) : ((Int32 × mz_N) ⊕ (mz_N)) := if (mz_gI N 38 v2) = (-1) then (cf_89_75 v1 (mz_wI N 38 v2 v1)) else (cf_89_75 v1 N)
def cp_89_58 (v1 : Int32) (v2 : Int32) (N : mz_N) : Prop := (mz_ib v2 10) ∧ (((mz_gI N 38 v2) = (-1) → ((mz_ib v2 10) ∧ (cp_89_75 v1 (mz_wI N 38 v2 v1)))) ∧ (¬ ((mz_gI N 38 v2) = (-1)) → (cp_89_75 v1 N)))
noncomputable def cq_89_18  (s : Int32 × mz_N) : ((Int32 × mz_N) ⊕ (mz_N)) := if s.1 < (s.2.1 2 7) then (if (mz_gI s.2 20 s.1) < 10 then (cf_89_58 s.1 (mz_gI s.2 20 s.1) (mz_wI s.2 39 (mz_gI s.2 20 s.1) ((mz_gI s.2 39 (mz_gI s.2 20 s.1)) + (mz_gI s.2 19 s.1)))) else (cf_89_75 s.1 s.2)) else (.inr s.2)
def cd_89_18  (s : Int32 × mz_N) : Prop := (s.1 < (s.2.1 2 7) → ((mz_ib s.1 40) ∧ (((mz_gI s.2 20 s.1) < 10 → ((mz_ib (mz_gI s.2 20 s.1) 10) ∧ ((mz_ib s.1 40) ∧ ((mz_ib (mz_gI s.2 20 s.1) 10) ∧ (cp_89_58 s.1 (mz_gI s.2 20 s.1) (mz_wI s.2 39 (mz_gI s.2 20 s.1) ((mz_gI s.2 39 (mz_gI s.2 20 s.1)) + (mz_gI s.2 19 s.1)))))))) ∧ (¬ ((mz_gI s.2 20 s.1) < 10) → (cp_89_75 s.1 s.2))))) ∧ (¬ (s.1 < (s.2.1 2 7)) → True)
noncomputable def cf_89_18 (v1 : Int32) (N : mz_N) : (mz_N) := mz_run (cq_89_18 ) (v1, N)
def cp_89_18 (v1 : Int32) (N : mz_N) : Prop := ∃ n, mz_ok (cq_89_18 ) (cd_89_18 ) n (v1, N)
noncomputable def cf_89_0 (N : mz_N) : (mz_N) := (cf_89_18 0 (cf_13_0 39 10 0 (cf_13_0 38 10 (-1) N)))
def cp_89_0 (N : mz_N) : Prop := (cp_13_0 38 10 (-1) N) ∧ ((cp_13_0 39 10 0 (cf_13_0 38 10 (-1) N)) ∧ (cp_89_18 0 (cf_13_0 39 10 0 (cf_13_0 38 10 (-1) N))))
/-! 77 KeptHouse$Plan.survey ()V -/
noncomputable def cf_77_101 (v1 : Int32) (N : mz_N) : ((Int32 × mz_N) ⊕ (mz_N)) := (.inl ((v1 + 1), N))
def cp_77_101 (v1 : Int32) (N : mz_N) : Prop := True
noncomputable def cq_77_67  (s : Int32 × mz_N) : ((Int32 × mz_N) ⊕ (mz_N)) := if s.1 < 550 then (if (cf_21_0 (mz_irem s.1 110)) = (-1) then (cf_77_101 s.1 (cf_83_0 s.1 s.2)) else (cf_77_101 s.1 (cf_86_0 s.1 (cf_21_0 (mz_irem s.1 110)) s.2))) else (.inr (cf_89_0 (cf_88_0 (cf_87_0 s.2))))
def cd_77_67  (s : Int32 × mz_N) : Prop := (s.1 < 550 → (((cf_21_0 (mz_irem s.1 110)) = (-1) → ((cp_83_0 s.1 s.2) ∧ (cp_77_101 s.1 (cf_83_0 s.1 s.2)))) ∧ (¬ ((cf_21_0 (mz_irem s.1 110)) = (-1)) → ((cp_86_0 s.1 (cf_21_0 (mz_irem s.1 110)) s.2) ∧ (cp_77_101 s.1 (cf_86_0 s.1 (cf_21_0 (mz_irem s.1 110)) s.2)))))) ∧ (¬ (s.1 < 550) → ((cp_87_0 s.2) ∧ ((cp_88_0 (cf_87_0 s.2)) ∧ (cp_89_0 (cf_88_0 (cf_87_0 s.2))))))
noncomputable def cf_77_67 (v1 : Int32) (N : mz_N) : (mz_N) := mz_run (cq_77_67 ) (v1, N)
def cp_77_67 (v1 : Int32) (N : mz_N) : Prop := ∃ n, mz_ok (cq_77_67 ) (cd_77_67 ) n (v1, N)
noncomputable def cq_77_23  (s : Int32 × mz_N) : ((Int32 × mz_N) ⊕ (mz_N)) := if s.1 < 13 then (.inl ((s.1 + 1), (cf_13_0 (17 + s.1.toNatClampNeg) 40 0 s.2))) else (.inr (cf_77_67 0 (cf_82_0 (cf_13_0 36 240 0 (cf_13_0 31 1600 0 s.2)))))
def cd_77_23  (s : Int32 × mz_N) : Prop := (s.1 < 13 → ((mz_ib s.1 13) ∧ (cp_13_0 (17 + s.1.toNatClampNeg) 40 0 s.2))) ∧ (¬ (s.1 < 13) → ((cp_13_0 31 1600 0 s.2) ∧ ((cp_13_0 36 240 0 (cf_13_0 31 1600 0 s.2)) ∧ ((cp_82_0 (cf_13_0 36 240 0 (cf_13_0 31 1600 0 s.2))) ∧ (cp_77_67 0 (cf_82_0 (cf_13_0 36 240 0 (cf_13_0 31 1600 0 s.2))))))))
noncomputable def cf_77_23 (v1 : Int32) (N : mz_N) : (mz_N) := mz_run (cq_77_23 ) (v1, N)
def cp_77_23 (v1 : Int32) (N : mz_N) : Prop := ∃ n, mz_ok (cq_77_23 ) (cd_77_23 ) n (v1, N)
noncomputable def cf_77_0 (N : mz_N) : (mz_N) := (cf_77_23 0 (mz_pI ((cf_78_0 3 15 N).2) 2 7 (mz_imin ((cf_78_0 3 15 N).1) 40)))
def cp_77_0 (N : mz_N) : Prop := (cp_78_0 3 15 N) ∧ (cp_77_23 0 (mz_pI ((cf_78_0 3 15 N).2) 2 7 (mz_imin ((cf_78_0 3 15 N).1) 40)))
/-! 90 KeptHouse$Plan.bring (I)V -/
noncomputable def cf_90_36 (N : mz_N) : (mz_N) := N
def cp_90_36 (N : mz_N) : Prop := True
noncomputable def cf_90_0 (v1 : Int32) (N : mz_N) : (mz_N) := (cf_90_36 (mz_yI (mz_yI N 3 0 (5 + v1.toNatClampNeg) 0 550) 3 0 (9 + v1.toNatClampNeg) 0 550))
def cp_90_0 (v1 : Int32) (N : mz_N) : Prop := (mz_ib v1 3) ∧ ((mz_ib v1 3) ∧ (cp_90_36 (mz_yI (mz_yI N 3 0 (5 + v1.toNatClampNeg) 0 550) 3 0 (9 + v1.toNatClampNeg) 0 550)))
/-! 17 KeptHouse$Keeper.beginAnew ()V -/
noncomputable def cf_17_119 (v1 : Int32) (N : mz_N) (b : Bool) : ((Int32 × mz_N) ⊕ (mz_N × Bool)) := (.inl ((v1 + 1), N))
def cp_17_119 (v1 : Int32) (N : mz_N) (b : Bool) : Prop := True
noncomputable def cq_17_151 (b : Bool) (s : Int32 × mz_N) : ((Int32 × mz_N) ⊕ (mz_N × Bool)) := if s.1 < 3 then (.inl ((s.1 + 1), (cf_90_0 s.1 s.2))) else (.inr (s.2, b))
def cd_17_151 (b : Bool) (s : Int32 × mz_N) : Prop := (s.1 < 3 → (cp_90_0 s.1 s.2)) ∧ (¬ (s.1 < 3) → True)
noncomputable def cf_17_151 (v1 : Int32) (N : mz_N) (b : Bool) : (mz_N × Bool) := mz_run (cq_17_151 b) (v1, N)
def cp_17_151 (v1 : Int32) (N : mz_N) (b : Bool) : Prop := ∃ n, mz_ok (cq_17_151 b) (cd_17_151 b) n (v1, N)
noncomputable def cq_17_76 (b : Bool) (s : Int32 × mz_N) : ((Int32 × mz_N) ⊕ (mz_N × Bool)) := if s.1 < 135 then (if (mz_gI s.2 224 s.1) = 1 then (cf_17_119 s.1 (cf_57_0 (cf_55_0 s.1) (cf_56_0 s.1) (s.1 * 28) s.2) b) else (cf_17_119 s.1 s.2 b)) else (.inr (cf_17_151 0 (cf_77_0 ((cf_73_0 728 s.2 b).1)) ((cf_73_0 728 s.2 b).2)))
def cd_17_76 (b : Bool) (s : Int32 × mz_N) : Prop := (s.1 < 135 → ((mz_ib s.1 135) ∧ (((mz_gI s.2 224 s.1) = 1 → ((cp_55_0 s.1) ∧ ((cp_56_0 s.1) ∧ ((cp_57_0 (cf_55_0 s.1) (cf_56_0 s.1) (s.1 * 28) s.2) ∧ (cp_17_119 s.1 (cf_57_0 (cf_55_0 s.1) (cf_56_0 s.1) (s.1 * 28) s.2) b))))) ∧ (¬ ((mz_gI s.2 224 s.1) = 1) → (cp_17_119 s.1 s.2 b))))) ∧ (¬ (s.1 < 135) → ((cp_73_0 728 s.2 b) ∧ ((cp_77_0 ((cf_73_0 728 s.2 b).1)) ∧ (cp_17_151 0 (cf_77_0 ((cf_73_0 728 s.2 b).1)) ((cf_73_0 728 s.2 b).2)))))
noncomputable def cf_17_76 (v1 : Int32) (N : mz_N) (b : Bool) : (mz_N × Bool) := mz_run (cq_17_76 b) (v1, N)
def cp_17_76 (v1 : Int32) (N : mz_N) (b : Bool) : Prop := ∃ n, mz_ok (cq_17_76 b) (cd_17_76 b) n (v1, N)
noncomputable def cf_17_56 (N : mz_N) (b : Bool) : (mz_N × Bool) := (cf_17_76 0 (mz_pI (mz_pI (mz_pI N 1 10 0) 1 12 0) 219 8 (-1)) b)
def cp_17_56 (N : mz_N) (b : Bool) : Prop := cp_17_76 0 (mz_pI (mz_pI (mz_pI N 1 10 0) 1 12 0) 219 8 (-1)) b
noncomputable def cf_17_0 (N : mz_N) (b : Bool) : (mz_N × Bool) := (cf_17_56 (cf_53_0 (cf_52_0 (cf_51_0 (cf_50_0 (cf_48_0 (cf_47_0 (cf_22_0 (cf_18_0 N) b))))))) b)
def cp_17_0 (N : mz_N) (b : Bool) : Prop := (cp_18_0 N) ∧ ((cp_22_0 (cf_18_0 N) b) ∧ ((cp_47_0 (cf_22_0 (cf_18_0 N) b)) ∧ ((cp_48_0 (cf_47_0 (cf_22_0 (cf_18_0 N) b))) ∧ ((cp_50_0 (cf_48_0 (cf_47_0 (cf_22_0 (cf_18_0 N) b)))) ∧ ((cp_51_0 (cf_50_0 (cf_48_0 (cf_47_0 (cf_22_0 (cf_18_0 N) b))))) ∧ ((cp_52_0 (cf_51_0 (cf_50_0 (cf_48_0 (cf_47_0 (cf_22_0 (cf_18_0 N) b)))))) ∧ ((cp_53_0 (cf_52_0 (cf_51_0 (cf_50_0 (cf_48_0 (cf_47_0 (cf_22_0 (cf_18_0 N) b))))))) ∧ (cp_17_56 (cf_53_0 (cf_52_0 (cf_51_0 (cf_50_0 (cf_48_0 (cf_47_0 (cf_22_0 (cf_18_0 N) b))))))) b))))))))
/-! 94 KeptHouse$Store.isWhole (II)Z -/
noncomputable def cf_94_0 (v1 : Int32) (v2 : Int32) (N : mz_N) : (Bool) := if (mz_gI N (221 + v1.toNatClampNeg) ((v2 * 48) + 3)) = 1 then false else (if ((cf_61_0 (221 + v1.toNatClampNeg) 9600 ((v2 * 48) + 44) 4 N).toInt32) = (cf_16_0 (221 + v1.toNatClampNeg) 9600 (v2 * 48) 44 N) then (if (cf_61_0 (221 + v1.toNatClampNeg) 9600 ((v2 * 48) + 4) 4 N) = v2.toInt64 then true else false) else false)
def cp_94_0 (v1 : Int32) (v2 : Int32) (N : mz_N) : Prop := (mz_ib v1 2) ∧ ((mz_ib ((v2 * 48) + 3) 9600) ∧ (((mz_gI N (221 + v1.toNatClampNeg) ((v2 * 48) + 3)) = 1 → True) ∧ (¬ ((mz_gI N (221 + v1.toNatClampNeg) ((v2 * 48) + 3)) = 1) → ((mz_ib v1 2) ∧ ((cp_61_0 (221 + v1.toNatClampNeg) 9600 ((v2 * 48) + 44) 4 N) ∧ ((mz_ib v1 2) ∧ ((cp_16_0 (221 + v1.toNatClampNeg) 9600 (v2 * 48) 44 N) ∧ ((((cf_61_0 (221 + v1.toNatClampNeg) 9600 ((v2 * 48) + 44) 4 N).toInt32) = (cf_16_0 (221 + v1.toNatClampNeg) 9600 (v2 * 48) 44 N) → ((mz_ib v1 2) ∧ (cp_61_0 (221 + v1.toNatClampNeg) 9600 ((v2 * 48) + 4) 4 N))) ∧ (¬ (((cf_61_0 (221 + v1.toNatClampNeg) 9600 ((v2 * 48) + 44) 4 N).toInt32) = (cf_16_0 (221 + v1.toNatClampNeg) 9600 (v2 * 48) 44 N)) → True)))))))))
/-! 95 KeptHouse$Store.isLast (II)Z -/
noncomputable def cf_95_0 (v1 : Int32) (v2 : Int32) (N : mz_N) : (Bool) := if (mz_gI N (221 + v1.toNatClampNeg) ((v2 * 48) + 2)) = 1 then true else false
def cp_95_0 (v1 : Int32) (v2 : Int32) (N : mz_N) : Prop := (mz_ib v1 2) ∧ (mz_ib ((v2 * 48) + 2) 9600)
/-! 96 KeptHouse$Store.ageOf (II)I -/
noncomputable def cf_96_0 (v1 : Int32) (v2 : Int32) (N : mz_N) : (Int32) := ((cf_61_0 (221 + v1.toNatClampNeg) 9600 ((v2 * 48) + 8) 4 N).toInt32)
def cp_96_0 (v1 : Int32) (v2 : Int32) (N : mz_N) : Prop := (mz_ib v1 2) ∧ (cp_61_0 (221 + v1.toNatClampNeg) 9600 ((v2 * 48) + 8) 4 N)
/-! 98 KeptHouse$Store.keyOf (II)I -/
noncomputable def cf_98_0 (v0 : Int32) (v1 : Int32) : (Int32) := if v0 < 1 then (-1) else (if 15 < v0 then (-1) else (if v1 < 0 then (-1) else (if ((mz_xk (v0 - 1)) + v1) < (mz_xk v0) then ((mz_xk (v0 - 1)) + v1) else (-1))))
def cp_98_0 (v0 : Int32) (v1 : Int32) : Prop := (v0 < 1 → True) ∧ (¬ (v0 < 1) → ((15 < v0 → True) ∧ (¬ (15 < v0) → ((v1 < 0 → True) ∧ (¬ (v1 < 0) → ((mz_ib (v0 - 1) 16) ∧ (mz_ib v0 16)))))))
/-! 97 KeptHouse$Store.isKeyRow (III)Z -/
noncomputable def cf_97_0 (v1 : Int32) (v2 : Int32) (v3 : Int32) (N : mz_N) : (Bool) := if (cf_94_0 v1 v2 N) = true then (if (cf_96_0 v1 v2 N) = v3 then (if (cf_98_0 (mz_gI N (221 + v1.toNatClampNeg) (v2 * 48)) (mz_gI N (221 + v1.toNatClampNeg) ((v2 * 48) + 1))) = (-1) then false else true) else false) else false
def cp_97_0 (v1 : Int32) (v2 : Int32) (v3 : Int32) (N : mz_N) : Prop := (cp_94_0 v1 v2 N) ∧ (((cf_94_0 v1 v2 N) = true → ((cp_96_0 v1 v2 N) ∧ (((cf_96_0 v1 v2 N) = v3 → ((mz_ib v1 2) ∧ ((mz_ib (v2 * 48) 9600) ∧ ((mz_ib v1 2) ∧ ((mz_ib ((v2 * 48) + 1) 9600) ∧ (cp_98_0 (mz_gI N (221 + v1.toNatClampNeg) (v2 * 48)) (mz_gI N (221 + v1.toNatClampNeg) ((v2 * 48) + 1)))))))) ∧ (¬ ((cf_96_0 v1 v2 N) = v3) → True)))) ∧ (¬ ((cf_94_0 v1 v2 N) = true) → True))
/-! 93 KeptHouse$Store.snapshotRows (I)I -/
noncomputable def cq_93_69 (v1 : Int32) (v2 : Int32) (N : mz_N) (s : Int32) : ((Int32) ⊕ (Int32)) := if v2 < s then (if v2 = 0 then (.inr v2) else (if (cf_95_0 v1 v2 N) = true then (.inr v2) else (.inr (-1)))) else (if (cf_97_0 v1 s (cf_96_0 v1 0 N) N) = true then (.inl ((s + 1))) else (.inr (-1)))
def cd_93_69 (v1 : Int32) (v2 : Int32) (N : mz_N) (s : Int32) : Prop := (v2 < s → ((v2 = 0 → True) ∧ (¬ (v2 = 0) → (cp_95_0 v1 v2 N)))) ∧ (¬ (v2 < s) → ((cp_96_0 v1 0 N) ∧ (cp_97_0 v1 s (cf_96_0 v1 0 N) N)))
noncomputable def cf_93_69 (v1 : Int32) (v2 : Int32) (v3 : Int32) (N : mz_N) : (Int32) := mz_run (cq_93_69 v1 v2 N) (v3)
def cp_93_69 (v1 : Int32) (v2 : Int32) (v3 : Int32) (N : mz_N) : Prop := ∃ n, mz_ok (cq_93_69 v1 v2 N) (cd_93_69 v1 v2 N) n (v3)
noncomputable def cf_93_0 (v1 : Int32) (N : mz_N) : (Int32) := if (cf_94_0 v1 0 N) = true then (if (mz_gI N (221 + v1.toNatClampNeg) 0) = 0 then (if (mz_gI N (221 + v1.toNatClampNeg) 1) = 0 then (if (cf_95_0 v1 0 N) = true then (if ((cf_61_0 (221 + v1.toNatClampNeg) 9600 12 4 N).toInt32) < 0 then (-1) else (if ((cf_61_0 (221 + v1.toNatClampNeg) 9600 12 4 N).toInt32) < 200 then (cf_93_69 v1 ((cf_61_0 (221 + v1.toNatClampNeg) 9600 12 4 N).toInt32) 1 N) else (-1))) else (-1)) else (-1)) else (-1)) else (-1)
def cp_93_0 (v1 : Int32) (N : mz_N) : Prop := (mz_ib v1 2) ∧ ((cp_61_0 (221 + v1.toNatClampNeg) 9600 12 4 N) ∧ ((cp_94_0 v1 0 N) ∧ (((cf_94_0 v1 0 N) = true → ((mz_ib v1 2) ∧ (((mz_gI N (221 + v1.toNatClampNeg) 0) = 0 → ((mz_ib v1 2) ∧ (((mz_gI N (221 + v1.toNatClampNeg) 1) = 0 → ((cp_95_0 v1 0 N) ∧ (((cf_95_0 v1 0 N) = true → ((((cf_61_0 (221 + v1.toNatClampNeg) 9600 12 4 N).toInt32) < 0 → True) ∧ (¬ (((cf_61_0 (221 + v1.toNatClampNeg) 9600 12 4 N).toInt32) < 0) → ((((cf_61_0 (221 + v1.toNatClampNeg) 9600 12 4 N).toInt32) < 200 → (cp_93_69 v1 ((cf_61_0 (221 + v1.toNatClampNeg) 9600 12 4 N).toInt32) 1 N)) ∧ (¬ (((cf_61_0 (221 + v1.toNatClampNeg) 9600 12 4 N).toInt32) < 200) → True))))) ∧ (¬ ((cf_95_0 v1 0 N) = true) → True)))) ∧ (¬ ((mz_gI N (221 + v1.toNatClampNeg) 1) = 0) → True)))) ∧ (¬ ((mz_gI N (221 + v1.toNatClampNeg) 0) = 0) → True)))) ∧ (¬ ((cf_94_0 v1 0 N) = true) → True))))
/-! 99 KeptHouse$Store.lastCounting (II)I -/
noncomputable def cf_99_42 (v1 : Int32) (v3 : Int32) (v4 : Int32) (N : mz_N) : ((Int32 × Int32) ⊕ (Int32)) := (.inl (v3, (v4 + 1)))
def cp_99_42 (v1 : Int32) (v3 : Int32) (v4 : Int32) (N : mz_N) : Prop := True
noncomputable def cq_99_7 (v1 : Int32) (N : mz_N) (s : Int32 × Int32) : ((Int32 × Int32) ⊕ (Int32)) := if s.2 < 200 then (if (cf_97_0 v1 s.2 (N.1 219 5) N) = true then (if (cf_95_0 v1 s.2 N) = true then (cf_99_42 v1 s.2 s.2 N) else (cf_99_42 v1 s.1 s.2 N)) else (.inr s.1)) else (.inr s.1)
def cd_99_7 (v1 : Int32) (N : mz_N) (s : Int32 × Int32) : Prop := (s.2 < 200 → ((cp_97_0 v1 s.2 (N.1 219 5) N) ∧ (((cf_97_0 v1 s.2 (N.1 219 5) N) = true → ((cp_95_0 v1 s.2 N) ∧ (((cf_95_0 v1 s.2 N) = true → (cp_99_42 v1 s.2 s.2 N)) ∧ (¬ ((cf_95_0 v1 s.2 N) = true) → (cp_99_42 v1 s.1 s.2 N))))) ∧ (¬ ((cf_97_0 v1 s.2 (N.1 219 5) N) = true) → True)))) ∧ (¬ (s.2 < 200) → True)
noncomputable def cf_99_7 (v1 : Int32) (v3 : Int32) (v4 : Int32) (N : mz_N) : (Int32) := mz_run (cq_99_7 v1 N) (v3, v4)
def cp_99_7 (v1 : Int32) (v3 : Int32) (v4 : Int32) (N : mz_N) : Prop := ∃ n, mz_ok (cq_99_7 v1 N) (cd_99_7 v1 N) n (v3, v4)
noncomputable def cf_99_0 (v1 : Int32) (v2 : Int32) (N : mz_N) : (Int32) := (cf_99_7 v1 v2 (v2 + 1) N)
def cp_99_0 (v1 : Int32) (v2 : Int32) (N : mz_N) : Prop := cp_99_7 v1 v2 (v2 + 1) N
/-! 92 KeptHouse$Store.open ()I -/
noncomputable def cf_92_198 (v4 : Int32) (v5 : Int32) (N : mz_N) : ((Int32 × mz_N) ⊕ (Int32 × mz_N)) := (.inl ((v5 + 1), N))
def cp_92_198 (v4 : Int32) (v5 : Int32) (N : mz_N) : Prop := True
noncomputable def cf_92_190 (v4 : Int32) (v5 : Int32) (v7 : Int32) (N : mz_N) : ((Int32 × mz_N) ⊕ (Int32 × mz_N)) := (cf_92_198 v4 v5 (mz_wI N 224 v7 1))
def cp_92_190 (v4 : Int32) (v5 : Int32) (v7 : Int32) (N : mz_N) : Prop := (mz_ib v7 135) ∧ (cp_92_198 v4 v5 (mz_wI N 224 v7 1))
noncomputable def cq_92_111 (v4 : Int32) (s : Int32 × mz_N) : ((Int32 × mz_N) ⊕ (Int32 × mz_N)) := if v4 < s.1 then (.inr (v4, mz_pI (mz_pI s.2 219 6 (v4 + 1)) 219 7 (mz_b01 false))) else (if (cf_98_0 (mz_gI s.2 (221 + (s.2.1 219 4).toNatClampNeg) (s.1 * 48)) (mz_gI s.2 (221 + (s.2.1 219 4).toNatClampNeg) ((s.1 * 48) + 1))) = (-1) then (cf_92_198 v4 s.1 s.2) else (cf_92_190 v4 s.1 (cf_98_0 (mz_gI s.2 (221 + (s.2.1 219 4).toNatClampNeg) (s.1 * 48)) (mz_gI s.2 (221 + (s.2.1 219 4).toNatClampNeg) ((s.1 * 48) + 1))) (mz_yI s.2 (221 + (s.2.1 219 4).toNatClampNeg) ((s.1 * 48) + 12) 223 ((cf_98_0 (mz_gI s.2 (221 + (s.2.1 219 4).toNatClampNeg) (s.1 * 48)) (mz_gI s.2 (221 + (s.2.1 219 4).toNatClampNeg) ((s.1 * 48) + 1))) * 28) 28)))
def cd_92_111 (v4 : Int32) (s : Int32 × mz_N) : Prop := (v4 < s.1 → True) ∧ (¬ (v4 < s.1) → ((mz_ib (s.2.1 219 4) 2) ∧ ((mz_ib (s.1 * 48) 9600) ∧ ((mz_ib (s.2.1 219 4) 2) ∧ ((mz_ib ((s.1 * 48) + 1) 9600) ∧ ((cp_98_0 (mz_gI s.2 (221 + (s.2.1 219 4).toNatClampNeg) (s.1 * 48)) (mz_gI s.2 (221 + (s.2.1 219 4).toNatClampNeg) ((s.1 * 48) + 1))) ∧ (((cf_98_0 (mz_gI s.2 (221 + (s.2.1 219 4).toNatClampNeg) (s.1 * 48)) (mz_gI s.2 (221 + (s.2.1 219 4).toNatClampNeg) ((s.1 * 48) + 1))) = (-1) → (cp_92_198 v4 s.1 s.2)) ∧ (¬ ((cf_98_0 (mz_gI s.2 (221 + (s.2.1 219 4).toNatClampNeg) (s.1 * 48)) (mz_gI s.2 (221 + (s.2.1 219 4).toNatClampNeg) ((s.1 * 48) + 1))) = (-1)) → ((mz_ib (s.2.1 219 4) 2) ∧ ((mz_cpk ((s.1 * 48) + 12) ((cf_98_0 (mz_gI s.2 (221 + (s.2.1 219 4).toNatClampNeg) (s.1 * 48)) (mz_gI s.2 (221 + (s.2.1 219 4).toNatClampNeg) ((s.1 * 48) + 1))) * 28) 28 9600 3780) ∧ (cp_92_190 v4 s.1 (cf_98_0 (mz_gI s.2 (221 + (s.2.1 219 4).toNatClampNeg) (s.1 * 48)) (mz_gI s.2 (221 + (s.2.1 219 4).toNatClampNeg) ((s.1 * 48) + 1))) (mz_yI s.2 (221 + (s.2.1 219 4).toNatClampNeg) ((s.1 * 48) + 12) 223 ((cf_98_0 (mz_gI s.2 (221 + (s.2.1 219 4).toNatClampNeg) (s.1 * 48)) (mz_gI s.2 (221 + (s.2.1 219 4).toNatClampNeg) ((s.1 * 48) + 1))) * 28) 28))))))))))))
noncomputable def cf_92_111 (v4 : Int32) (v5 : Int32) (N : mz_N) : (Int32 × mz_N) := mz_run (cq_92_111 v4) (v5, N)
def cp_92_111 (v4 : Int32) (v5 : Int32) (N : mz_N) : Prop := ∃ n, mz_ok (cq_92_111 v4) (cd_92_111 v4) n (v5, N)
noncomputable def cf_92_84 (s1 : Int32) (s2 : Int32) (s3 : Int32) (N : mz_N) : (Int32 × mz_N) := (cf_92_111 (cf_99_0 s1 (mz_imax s2 s3) N) 1 (cf_13_0 224 135 0 (cf_13_0 223 3780 0 N)))
def cp_92_84 (s1 : Int32) (s2 : Int32) (s3 : Int32) (N : mz_N) : Prop := (cp_99_0 s1 (mz_imax s2 s3) N) ∧ ((cp_13_0 223 3780 0 N) ∧ ((cp_13_0 224 135 0 (cf_13_0 223 3780 0 N)) ∧ (cp_92_111 (cf_99_0 s1 (mz_imax s2 s3) N) 1 (cf_13_0 224 135 0 (cf_13_0 223 3780 0 N)))))
noncomputable def cf_92_53 (s1 : Bool) (v1 : Int32) (v2 : Int32) (v3 : Bool) (N : mz_N) : (Int32 × mz_N) := if v3 = true then (cf_92_84 ((mz_pI (mz_pI N 219 4 (mz_b01 s1)) 219 5 (cf_96_0 ((mz_pI N 219 4 (mz_b01 s1)).1 219 4) 0 (mz_pI N 219 4 (mz_b01 s1)))).1 219 4) 0 v2 (mz_pI (mz_pI N 219 4 (mz_b01 s1)) 219 5 (cf_96_0 ((mz_pI N 219 4 (mz_b01 s1)).1 219 4) 0 (mz_pI N 219 4 (mz_b01 s1))))) else (cf_92_84 ((mz_pI (mz_pI N 219 4 (mz_b01 s1)) 219 5 (cf_96_0 ((mz_pI N 219 4 (mz_b01 s1)).1 219 4) 0 (mz_pI N 219 4 (mz_b01 s1)))).1 219 4) 0 v1 (mz_pI (mz_pI N 219 4 (mz_b01 s1)) 219 5 (cf_96_0 ((mz_pI N 219 4 (mz_b01 s1)).1 219 4) 0 (mz_pI N 219 4 (mz_b01 s1)))))
def cp_92_53 (s1 : Bool) (v1 : Int32) (v2 : Int32) (v3 : Bool) (N : mz_N) : Prop := (cp_96_0 ((mz_pI N 219 4 (mz_b01 s1)).1 219 4) 0 (mz_pI N 219 4 (mz_b01 s1))) ∧ ((v3 = true → (cp_92_84 ((mz_pI (mz_pI N 219 4 (mz_b01 s1)) 219 5 (cf_96_0 ((mz_pI N 219 4 (mz_b01 s1)).1 219 4) 0 (mz_pI N 219 4 (mz_b01 s1)))).1 219 4) 0 v2 (mz_pI (mz_pI N 219 4 (mz_b01 s1)) 219 5 (cf_96_0 ((mz_pI N 219 4 (mz_b01 s1)).1 219 4) 0 (mz_pI N 219 4 (mz_b01 s1)))))) ∧ (¬ (v3 = true) → (cp_92_84 ((mz_pI (mz_pI N 219 4 (mz_b01 s1)) 219 5 (cf_96_0 ((mz_pI N 219 4 (mz_b01 s1)).1 219 4) 0 (mz_pI N 219 4 (mz_b01 s1)))).1 219 4) 0 v1 (mz_pI (mz_pI N 219 4 (mz_b01 s1)) 219 5 (cf_96_0 ((mz_pI N 219 4 (mz_b01 s1)).1 219 4) 0 (mz_pI N 219 4 (mz_b01 s1)))))))
noncomputable def cf_92_42 (s0 : Bool) (v1 : Int32) (v2 : Int32) (N : mz_N) : (Int32 × mz_N) := if s0 = true then (cf_92_53 true v1 v2 s0 N) else (cf_92_53 false v1 v2 s0 N)
def cp_92_42 (s0 : Bool) (v1 : Int32) (v2 : Int32) (N : mz_N) : Prop := (s0 = true → (cp_92_53 true v1 v2 s0 N)) ∧ (¬ (s0 = true) → (cp_92_53 false v1 v2 s0 N))
noncomputable def cf_92_41 (v1 : Int32) (v2 : Int32) (N : mz_N) : (Int32 × mz_N) := (cf_92_42 false v1 v2 N)
def cp_92_41 (v1 : Int32) (v2 : Int32) (N : mz_N) : Prop := cp_92_42 false v1 v2 N
noncomputable def cf_92_37 (v1 : Int32) (v2 : Int32) (N : mz_N) : (Int32 × mz_N) := (cf_92_42 true v1 v2 N)
def cp_92_37 (v1 : Int32) (v2 : Int32) (N : mz_N) : Prop := cp_92_42 true v1 v2 N
noncomputable def cf_92_0 (N : mz_N) : (Int32 × mz_N) := if (cf_93_0 1 N) = (-1) then (cf_92_41 (cf_93_0 0 N) (cf_93_0 1 N) N) else (if (cf_93_0 0 N) = (-1) then (cf_92_37 (cf_93_0 0 N) (cf_93_0 1 N) N) else (if (cf_96_0 0 0 N) < (cf_96_0 1 0 N) then (cf_92_37 (cf_93_0 0 N) (cf_93_0 1 N) N) else (cf_92_41 (cf_93_0 0 N) (cf_93_0 1 N) N)))
def cp_92_0 (N : mz_N) : Prop := (cp_93_0 0 N) ∧ ((cp_93_0 1 N) ∧ (((cf_93_0 1 N) = (-1) → (cp_92_41 (cf_93_0 0 N) (cf_93_0 1 N) N)) ∧ (¬ ((cf_93_0 1 N) = (-1)) → (((cf_93_0 0 N) = (-1) → (cp_92_37 (cf_93_0 0 N) (cf_93_0 1 N) N)) ∧ (¬ ((cf_93_0 0 N) = (-1)) → ((cp_96_0 1 0 N) ∧ ((cp_96_0 0 0 N) ∧ (((cf_96_0 0 0 N) < (cf_96_0 1 0 N) → (cp_92_37 (cf_93_0 0 N) (cf_93_0 1 N) N)) ∧ (¬ ((cf_96_0 0 0 N) < (cf_96_0 1 0 N)) → (cp_92_41 (cf_93_0 0 N) (cf_93_0 1 N) N))))))))))
/-! 91 KeptHouse.reopen ()I -/
noncomputable def cf_91_0 (N : mz_N) (b : Bool) : (Int32 × mz_N × Bool) := (((cf_92_0 N).1), (cf_17_0 ((cf_92_0 N).2) b).1, (cf_17_0 ((cf_92_0 N).2) b).2)
def cp_91_0 (N : mz_N) (b : Bool) : Prop := (cp_92_0 N) ∧ (cp_17_0 ((cf_92_0 N).2) b)
/-! 100 KeptHouse.isDown ()Z -/
noncomputable def cf_100_0 (N : mz_N) : (Bool) := (mz_fZ N 219 7)
def cp_100_0 (N : mz_N) : Prop := mz_z01 (N.1 219 7)
/-! 101 KeptHouseLaw.cell ([II)I -/
noncomputable def cf_101_0 (L : Nat) (xs : Nat → Int32) (v1 : Int32) : (Int32) := if v1 < (Int32.ofNat L) then (xs v1.toNatClampNeg) else 0
def cp_101_0 (L : Nat) (xs : Nat → Int32) (v1 : Int32) : Prop := (v1 < (Int32.ofNat L) → (mz_ib v1 L)) ∧ (¬ (v1 < (Int32.ofNat L)) → True)
/-! 104 KeptHouse.mustBeUp ()V -/
noncomputable def cf_104_0 (N : mz_N) : (Nat) := if (mz_fZ N 219 7) = true then 2 else 0
def cp_104_0 (N : mz_N) : Prop := mz_z01 (N.1 219 7)
/-! 105 KeptHouse.mustBeIn (III)V -/
noncomputable def cf_105_10  : (Nat) := 1
def cp_105_10  : Prop := True
noncomputable def cf_105_0 (v0 : Int32) (v1 : Int32) (v2 : Int32) : (Nat) := if v0 < v1 then (cf_105_10) else (if v2 < v0 then (cf_105_10) else 0)
def cp_105_0 (v0 : Int32) (v1 : Int32) (v2 : Int32) : Prop := (v0 < v1 → cp_105_10) ∧ (¬ (v0 < v1) → ((v2 < v0 → cp_105_10) ∧ (¬ (v2 < v0) → True)))
/-! 103 KeptHouse.take (I)I -/
noncomputable def cf_103_0 (v1 : Int32) (N : mz_N) : (Nat × Int32 × mz_N) := if (cf_104_0 N) = 0 then (if (cf_105_0 v1 0 2) = 0 then (0, ((cf_90_0 v1 N).1 2 3), (cf_90_0 v1 N)) else ((cf_105_0 v1 0 2), 0, N)) else ((cf_104_0 N), 0, N)
def cp_103_0 (v1 : Int32) (N : mz_N) : Prop := (cp_104_0 N) ∧ (((cf_104_0 N) = 0 → ((cp_105_0 v1 0 2) ∧ (((cf_105_0 v1 0 2) = 0 → (cp_90_0 v1 N)) ∧ (¬ ((cf_105_0 v1 0 2) = 0) → True)))) ∧ (¬ ((cf_104_0 N) = 0) → True))
/-! 102 KeptHouseLaw.take (LKeptHouse;I[J)I -/
noncomputable def cf_102_0 (v1 : Int32) (N : mz_N) (t : Nat) : (Int32 × mz_N × Nat) := if (cf_103_0 v1 N).1 = 0 then (0, mz_wL ((cf_103_0 v1 N).2.2) 342 0 (((cf_103_0 v1 N).2.1).toInt64), t) else (if (cf_103_0 v1 N).1 = 1 then (1, (cf_103_0 v1 N).2.2, t + 1) else (2, (cf_103_0 v1 N).2.2, t + 1))
def cp_102_0 (v1 : Int32) (N : mz_N) (t : Nat) : Prop := (cp_103_0 v1 N) ∧ ((t < 1000) ∧ (((cf_103_0 v1 N).1 = 0 → True) ∧ (¬ ((cf_103_0 v1 N).1 = 0) → (((cf_103_0 v1 N).1 = 1 → True) ∧ (¬ ((cf_103_0 v1 N).1 = 1) → ((cf_103_0 v1 N).1 = 2))))))
/-! 109 KeptHouse$Plan.mayBe (II)Z -/
noncomputable def cf_109_0 (v0 : Int32) (v1 : Int32) : (Bool) := if (cf_21_0 v0) = (-1) then true else (if v1 = 2 then true else (if v1 = 3 then true else false))
def cp_109_0 (v0 : Int32) (v1 : Int32) : Prop := True
/-! 108 KeptHouse$Plan.drawEdge (IIII)Z -/
noncomputable def cf_108_0 (v1 : Int32) (v2 : Int32) (v3 : Int32) (v4 : Int32) (N : mz_N) : (Bool × mz_N) := if (cf_109_0 v3 v4) = true then (if (mz_gI N (5 + v1.toNatClampNeg) ((v2 * 110) + v3)) = v4 then (false, N) else (true, mz_wI N (5 + v1.toNatClampNeg) ((v2 * 110) + v3) v4)) else (false, N)
def cp_108_0 (v1 : Int32) (v2 : Int32) (v3 : Int32) (v4 : Int32) (N : mz_N) : Prop := ((cf_109_0 v3 v4) = true → ((mz_ib v1 3) ∧ ((mz_ib ((v2 * 110) + v3) 550) ∧ (((mz_gI N (5 + v1.toNatClampNeg) ((v2 * 110) + v3)) = v4 → True) ∧ (¬ ((mz_gI N (5 + v1.toNatClampNeg) ((v2 * 110) + v3)) = v4) → ((mz_ib v1 3) ∧ (mz_ib ((v2 * 110) + v3) 550))))))) ∧ (¬ ((cf_109_0 v3 v4) = true) → True)
/-! 107 KeptHouse.edit (IIIIII)I -/
noncomputable def cf_107_98 (v1 : Int32) (v2 : Int32) (v3 : Int32) (v4 : Int32) (v5 : Int32) (v6 : Int32) (v7 : Int32) (v8 : Int32) (N : mz_N) : ((Int32 × Int32 × mz_N) ⊕ (Nat × Int32 × mz_N)) := (.inl (v7, (v8 + 1), N))
def cp_107_98 (v1 : Int32) (v2 : Int32) (v3 : Int32) (v4 : Int32) (v5 : Int32) (v6 : Int32) (v7 : Int32) (v8 : Int32) (N : mz_N) : Prop := True
noncomputable def cq_107_67 (v1 : Int32) (v2 : Int32) (v3 : Int32) (v4 : Int32) (v5 : Int32) (v6 : Int32) (s : Int32 × Int32 × mz_N) : ((Int32 × Int32 × mz_N) ⊕ (Nat × Int32 × mz_N)) := if s.2.1 < v4 then (if ((cf_108_0 v1 v2 (v3 + (s.2.1 * v5)) v6 s.2.2).1) = true then (cf_107_98 v1 v2 v3 v4 v5 v6 (s.1 + 1) s.2.1 ((cf_108_0 v1 v2 (v3 + (s.2.1 * v5)) v6 s.2.2).2)) else (cf_107_98 v1 v2 v3 v4 v5 v6 s.1 s.2.1 ((cf_108_0 v1 v2 (v3 + (s.2.1 * v5)) v6 s.2.2).2))) else (.inr (0, s.1, s.2.2))
def cd_107_67 (v1 : Int32) (v2 : Int32) (v3 : Int32) (v4 : Int32) (v5 : Int32) (v6 : Int32) (s : Int32 × Int32 × mz_N) : Prop := (s.2.1 < v4 → ((cp_108_0 v1 v2 (v3 + (s.2.1 * v5)) v6 s.2.2) ∧ ((((cf_108_0 v1 v2 (v3 + (s.2.1 * v5)) v6 s.2.2).1) = true → (cp_107_98 v1 v2 v3 v4 v5 v6 (s.1 + 1) s.2.1 ((cf_108_0 v1 v2 (v3 + (s.2.1 * v5)) v6 s.2.2).2))) ∧ (¬ (((cf_108_0 v1 v2 (v3 + (s.2.1 * v5)) v6 s.2.2).1) = true) → (cp_107_98 v1 v2 v3 v4 v5 v6 s.1 s.2.1 ((cf_108_0 v1 v2 (v3 + (s.2.1 * v5)) v6 s.2.2).2)))))) ∧ (¬ (s.2.1 < v4) → True)
noncomputable def cf_107_67 (v1 : Int32) (v2 : Int32) (v3 : Int32) (v4 : Int32) (v5 : Int32) (v6 : Int32) (v7 : Int32) (v8 : Int32) (N : mz_N) : (Nat × Int32 × mz_N) := mz_run (cq_107_67 v1 v2 v3 v4 v5 v6) (v7, v8, N)
def cp_107_67 (v1 : Int32) (v2 : Int32) (v3 : Int32) (v4 : Int32) (v5 : Int32) (v6 : Int32) (v7 : Int32) (v8 : Int32) (N : mz_N) : Prop := ∃ n, mz_ok (cq_107_67 v1 v2 v3 v4 v5 v6) (cd_107_67 v1 v2 v3 v4 v5 v6) n (v7, v8, N)
noncomputable def cf_107_0 (v1 : Int32) (v2 : Int32) (v3 : Int32) (v4 : Int32) (v5 : Int32) (v6 : Int32) (N : mz_N) : (Nat × Int32 × mz_N) := if (cf_104_0 N) = 0 then (if (cf_105_0 v1 0 2) = 0 then (if (cf_105_0 v2 0 4) = 0 then (if (cf_105_0 v3 0 109) = 0 then (if (cf_105_0 v4 1 110) = 0 then (if (cf_105_0 v5 1 110) = 0 then (if (cf_105_0 v6 0 3) = 0 then (if (cf_105_0 (v3 + ((v4 - 1) * v5)) 0 109) = 0 then (cf_107_67 v1 v2 v3 v4 v5 v6 0 0 N) else ((cf_105_0 (v3 + ((v4 - 1) * v5)) 0 109), 0, N)) else ((cf_105_0 v6 0 3), 0, N)) else ((cf_105_0 v5 1 110), 0, N)) else ((cf_105_0 v4 1 110), 0, N)) else ((cf_105_0 v3 0 109), 0, N)) else ((cf_105_0 v2 0 4), 0, N)) else ((cf_105_0 v1 0 2), 0, N)) else ((cf_104_0 N), 0, N)
def cp_107_0 (v1 : Int32) (v2 : Int32) (v3 : Int32) (v4 : Int32) (v5 : Int32) (v6 : Int32) (N : mz_N) : Prop := (cp_104_0 N) ∧ (((cf_104_0 N) = 0 → ((cp_105_0 v1 0 2) ∧ (((cf_105_0 v1 0 2) = 0 → ((cp_105_0 v2 0 4) ∧ (((cf_105_0 v2 0 4) = 0 → ((cp_105_0 v3 0 109) ∧ (((cf_105_0 v3 0 109) = 0 → ((cp_105_0 v4 1 110) ∧ (((cf_105_0 v4 1 110) = 0 → ((cp_105_0 v5 1 110) ∧ (((cf_105_0 v5 1 110) = 0 → ((cp_105_0 v6 0 3) ∧ (((cf_105_0 v6 0 3) = 0 → ((cp_105_0 (v3 + ((v4 - 1) * v5)) 0 109) ∧ (((cf_105_0 (v3 + ((v4 - 1) * v5)) 0 109) = 0 → (cp_107_67 v1 v2 v3 v4 v5 v6 0 0 N)) ∧ (¬ ((cf_105_0 (v3 + ((v4 - 1) * v5)) 0 109) = 0) → True)))) ∧ (¬ ((cf_105_0 v6 0 3) = 0) → True)))) ∧ (¬ ((cf_105_0 v5 1 110) = 0) → True)))) ∧ (¬ ((cf_105_0 v4 1 110) = 0) → True)))) ∧ (¬ ((cf_105_0 v3 0 109) = 0) → True)))) ∧ (¬ ((cf_105_0 v2 0 4) = 0) → True)))) ∧ (¬ ((cf_105_0 v1 0 2) = 0) → True)))) ∧ (¬ ((cf_104_0 N) = 0) → True))
/-! 106 KeptHouseLaw.edit (LKeptHouse;IIIIII[J)I -/
noncomputable def cf_106_18 (N : mz_N) (t : Nat) : (Int32 × mz_N × Nat) := (0, N, t)
def cp_106_18 (N : mz_N) (t : Nat) : Prop := True
noncomputable def cf_106_0 (v1 : Int32) (v2 : Int32) (v3 : Int32) (v4 : Int32) (v5 : Int32) (v6 : Int32) (N : mz_N) (t : Nat) : (Int32 × mz_N × Nat) := if (cf_107_0 v1 v2 v3 v4 v5 v6 N).1 = 0 then (cf_106_18 (mz_wL ((cf_107_0 v1 v2 v3 v4 v5 v6 N).2.2) 342 0 (((cf_107_0 v1 v2 v3 v4 v5 v6 N).2.1).toInt64)) t) else (if (cf_107_0 v1 v2 v3 v4 v5 v6 N).1 = 1 then (1, (cf_107_0 v1 v2 v3 v4 v5 v6 N).2.2, t + 1) else (2, (cf_107_0 v1 v2 v3 v4 v5 v6 N).2.2, t + 1))
def cp_106_0 (v1 : Int32) (v2 : Int32) (v3 : Int32) (v4 : Int32) (v5 : Int32) (v6 : Int32) (N : mz_N) (t : Nat) : Prop := (cp_107_0 v1 v2 v3 v4 v5 v6 N) ∧ ((t < 1000) ∧ (((cf_107_0 v1 v2 v3 v4 v5 v6 N).1 = 0 → (cp_106_18 (mz_wL ((cf_107_0 v1 v2 v3 v4 v5 v6 N).2.2) 342 0 (((cf_107_0 v1 v2 v3 v4 v5 v6 N).2.1).toInt64)) t)) ∧ (¬ ((cf_107_0 v1 v2 v3 v4 v5 v6 N).1 = 0) → (((cf_107_0 v1 v2 v3 v4 v5 v6 N).1 = 1 → True) ∧ (¬ ((cf_107_0 v1 v2 v3 v4 v5 v6 N).1 = 1) → ((cf_107_0 v1 v2 v3 v4 v5 v6 N).1 = 2))))))
/-! 114 KeptHouse$Plan.isMine (II)Z -/
noncomputable def cf_114_0 (v1 : Int32) (v2 : Int32) (N : mz_N) : (Bool) := if (mz_gI N (5 + v1.toNatClampNeg) v2) = (mz_gI N (9 + v1.toNatClampNeg) v2) then false else true
def cp_114_0 (v1 : Int32) (v2 : Int32) (N : mz_N) : Prop := (mz_ib v1 3) ∧ ((mz_ib v2 550) ∧ ((mz_ib v1 3) ∧ (mz_ib v2 550)))
/-! 113 KeptHouse$Plan.isConflict (II)Z -/
noncomputable def cf_113_0 (v1 : Int32) (v2 : Int32) (N : mz_N) : (Bool) := if (cf_114_0 v1 v2 N) = true then (if (mz_gI N 3 v2) = (mz_gI N (9 + v1.toNatClampNeg) v2) then false else (if (mz_gI N 3 v2) = (mz_gI N (5 + v1.toNatClampNeg) v2) then false else true)) else false
def cp_113_0 (v1 : Int32) (v2 : Int32) (N : mz_N) : Prop := (cp_114_0 v1 v2 N) ∧ (((cf_114_0 v1 v2 N) = true → ((mz_ib v2 550) ∧ ((mz_ib v1 3) ∧ ((mz_ib v2 550) ∧ (((mz_gI N 3 v2) = (mz_gI N (9 + v1.toNatClampNeg) v2) → True) ∧ (¬ ((mz_gI N 3 v2) = (mz_gI N (9 + v1.toNatClampNeg) v2)) → ((mz_ib v2 550) ∧ ((mz_ib v1 3) ∧ (mz_ib v2 550))))))))) ∧ (¬ ((cf_114_0 v1 v2 N) = true) → True))
/-! 112 KeptHouse$Plan.countConflicts (I)I -/
noncomputable def cf_112_23 (v1 : Int32) (v2 : Int32) (v3 : Int32) (N : mz_N) : ((Int32 × Int32) ⊕ (Int32)) := (.inl (v2, (v3 + 1)))
def cp_112_23 (v1 : Int32) (v2 : Int32) (v3 : Int32) (N : mz_N) : Prop := True
noncomputable def cq_112_4 (v1 : Int32) (N : mz_N) (s : Int32 × Int32) : ((Int32 × Int32) ⊕ (Int32)) := if s.2 < 550 then (if (cf_113_0 v1 s.2 N) = true then (cf_112_23 v1 (s.1 + 1) s.2 N) else (cf_112_23 v1 s.1 s.2 N)) else (.inr s.1)
def cd_112_4 (v1 : Int32) (N : mz_N) (s : Int32 × Int32) : Prop := (s.2 < 550 → ((cp_113_0 v1 s.2 N) ∧ (((cf_113_0 v1 s.2 N) = true → (cp_112_23 v1 (s.1 + 1) s.2 N)) ∧ (¬ ((cf_113_0 v1 s.2 N) = true) → (cp_112_23 v1 s.1 s.2 N))))) ∧ (¬ (s.2 < 550) → True)
noncomputable def cf_112_4 (v1 : Int32) (v2 : Int32) (v3 : Int32) (N : mz_N) : (Int32) := mz_run (cq_112_4 v1 N) (v2, v3)
def cp_112_4 (v1 : Int32) (v2 : Int32) (v3 : Int32) (N : mz_N) : Prop := ∃ n, mz_ok (cq_112_4 v1 N) (cd_112_4 v1 N) n (v2, v3)
noncomputable def cf_112_0 (v1 : Int32) (N : mz_N) : (Int32) := (cf_112_4 v1 0 0 N)
def cp_112_0 (v1 : Int32) (N : mz_N) : Prop := cp_112_4 v1 0 0 N
/-! 116 KeptHouse$Plan.countTrial ()I -/
noncomputable def cf_116_0 (N : mz_N) : (Int32 × mz_N) := (((cf_78_0 12 13 N).1), (cf_78_0 12 13 N).2)
def cp_116_0 (N : mz_N) : Prop := cp_78_0 12 13 N
/-! 115 KeptHouse$Plan.layTrial (I)I -/
noncomputable def cf_115_40 (s1 : Int32) (s2 : Int32) (v1 : Int32) (v2 : Int32) (N : mz_N) : ((Int32 × mz_N) ⊕ (Int32 × mz_N)) := (.inl ((v2 + 1), mz_wI N 12 s1 s2))
def cp_115_40 (s1 : Int32) (s2 : Int32) (v1 : Int32) (v2 : Int32) (N : mz_N) : Prop := mz_ib s1 550
noncomputable def cq_115_2 (v1 : Int32) (s : Int32 × mz_N) : ((Int32 × mz_N) ⊕ (Int32 × mz_N)) := if s.1 < 550 then (if (cf_114_0 v1 s.1 s.2) = true then (cf_115_40 s.1 (mz_gI s.2 (5 + v1.toNatClampNeg) s.1) v1 s.1 s.2) else (cf_115_40 s.1 (mz_gI s.2 3 s.1) v1 s.1 s.2)) else (.inr (((cf_116_0 s.2).1), (cf_116_0 s.2).2))
def cd_115_2 (v1 : Int32) (s : Int32 × mz_N) : Prop := (s.1 < 550 → ((cp_114_0 v1 s.1 s.2) ∧ (((cf_114_0 v1 s.1 s.2) = true → ((mz_ib v1 3) ∧ ((mz_ib s.1 550) ∧ (cp_115_40 s.1 (mz_gI s.2 (5 + v1.toNatClampNeg) s.1) v1 s.1 s.2)))) ∧ (¬ ((cf_114_0 v1 s.1 s.2) = true) → ((mz_ib s.1 550) ∧ (cp_115_40 s.1 (mz_gI s.2 3 s.1) v1 s.1 s.2)))))) ∧ (¬ (s.1 < 550) → (cp_116_0 s.2))
noncomputable def cf_115_2 (v1 : Int32) (v2 : Int32) (N : mz_N) : (Int32 × mz_N) := mz_run (cq_115_2 v1) (v2, N)
def cp_115_2 (v1 : Int32) (v2 : Int32) (N : mz_N) : Prop := ∃ n, mz_ok (cq_115_2 v1) (cd_115_2 v1) n (v2, N)
noncomputable def cf_115_0 (v1 : Int32) (N : mz_N) : (Int32 × mz_N) := (cf_115_2 v1 0 N)
def cp_115_0 (v1 : Int32) (N : mz_N) : Prop := cp_115_2 v1 0 N
/-! 117 KeptHouse$Keeper.startGroup ()V -/
noncomputable def cf_117_0 (N : mz_N) : (mz_N) := mz_pI N 219 11 0
def cp_117_0 (N : mz_N) : Prop := True
/-! 118 KeptHouse$Plan.trialDiffers (I)Z -/
noncomputable def cq_118_2 (v1 : Int32) (N : mz_N) (s : Int32) : ((Int32) ⊕ (Bool)) := if s < 110 then (if (mz_gI N 12 ((v1 * 110) + s)) = (mz_gI N 3 ((v1 * 110) + s)) then (.inl ((s + 1))) else (.inr true)) else (.inr false)
def cd_118_2 (v1 : Int32) (N : mz_N) (s : Int32) : Prop := (s < 110 → ((mz_ib ((v1 * 110) + s) 550) ∧ (mz_ib ((v1 * 110) + s) 550))) ∧ (¬ (s < 110) → True)
noncomputable def cf_118_2 (v1 : Int32) (v2 : Int32) (N : mz_N) : (Bool) := mz_run (cq_118_2 v1 N) (v2)
def cp_118_2 (v1 : Int32) (v2 : Int32) (N : mz_N) : Prop := ∃ n, mz_ok (cq_118_2 v1 N) (cd_118_2 v1 N) n (v2)
noncomputable def cf_118_0 (v1 : Int32) (N : mz_N) : (Bool) := (cf_118_2 v1 0 N)
def cp_118_0 (v1 : Int32) (N : mz_N) : Prop := cp_118_2 v1 0 N
/-! 119 KeptHouse$Keeper.join (II)V -/
noncomputable def cf_119_52 (N : mz_N) : (mz_N) := N
def cp_119_52 (N : mz_N) : Prop := True
noncomputable def cf_119_0 (v1 : Int32) (v2 : Int32) (N : mz_N) : (mz_N) := if (cf_98_0 v1 v2) = (-1) then N else (if (N.1 219 11) < 16 then (cf_119_52 (mz_pI (mz_wI N 226 (N.1 219 11) (cf_98_0 v1 v2)) 219 11 (((mz_wI N 226 (N.1 219 11) (cf_98_0 v1 v2)).1 219 11) + 1))) else (cf_119_52 N))
def cp_119_0 (v1 : Int32) (v2 : Int32) (N : mz_N) : Prop := (cp_98_0 v1 v2) ∧ (((cf_98_0 v1 v2) = (-1) → True) ∧ (¬ ((cf_98_0 v1 v2) = (-1)) → (((N.1 219 11) < 16 → ((mz_ib (N.1 219 11) 16) ∧ (cp_119_52 (mz_pI (mz_wI N 226 (N.1 219 11) (cf_98_0 v1 v2)) 219 11 (((mz_wI N 226 (N.1 219 11) (cf_98_0 v1 v2)).1 219 11) + 1))))) ∧ (¬ ((N.1 219 11) < 16) → (cp_119_52 N)))))
/-! 120 KeptHouse$Plan.acceptTrial (I)V -/
noncomputable def cf_120_31 (N : mz_N) : (mz_N) := (cf_77_0 N)
def cp_120_31 (N : mz_N) : Prop := cp_77_0 N
noncomputable def cf_120_0 (v1 : Int32) (N : mz_N) : (mz_N) := (cf_120_31 (mz_pI (cf_90_0 v1 (mz_yI N 12 0 3 0 550)) 2 3 (((cf_90_0 v1 (mz_yI N 12 0 3 0 550)).1 2 3) + 1)))
def cp_120_0 (v1 : Int32) (N : mz_N) : Prop := (cp_90_0 v1 (mz_yI N 12 0 3 0 550)) ∧ (cp_120_31 (mz_pI (cf_90_0 v1 (mz_yI N 12 0 3 0 550)) 2 3 (((cf_90_0 v1 (mz_yI N 12 0 3 0 550)).1 2 3) + 1)))
/-! 123 KeptHouse$Plan.writeEdges (I[II)V -/
noncomputable def cf_123_40 (v1 : Int32) (v3 : Int32) (v4 : Int32) (N : mz_N) : ((Int32 × mz_N) ⊕ (mz_N)) := (.inl ((v4 + 1), N))
def cp_123_40 (v1 : Int32) (v3 : Int32) (v4 : Int32) (N : mz_N) : Prop := True
noncomputable def cq_123_3 (v1 : Int32) (v3 : Int32) (s : Int32 × mz_N) : ((Int32 × mz_N) ⊕ (mz_N)) := if s.1 < 110 then (cf_123_40 v1 v3 s.1 (mz_wI s.2 227 (v3 + (s.1 / 4)) ((mz_gI s.2 227 (v3 + (s.1 / 4))) ||| (mz_ishl (mz_gI s.2 3 ((v1 * 110) + s.1)) (2 * (mz_irem s.1 4)))))) else (.inr s.2)
def cd_123_3 (v1 : Int32) (v3 : Int32) (s : Int32 × mz_N) : Prop := (s.1 < 110 → ((mz_ib (v3 + (s.1 / 4)) 448) ∧ ((mz_ib ((v1 * 110) + s.1) 550) ∧ ((mz_ib (v3 + (s.1 / 4)) 448) ∧ (cp_123_40 v1 v3 s.1 (mz_wI s.2 227 (v3 + (s.1 / 4)) ((mz_gI s.2 227 (v3 + (s.1 / 4))) ||| (mz_ishl (mz_gI s.2 3 ((v1 * 110) + s.1)) (2 * (mz_irem s.1 4)))))))))) ∧ (¬ (s.1 < 110) → True)
noncomputable def cf_123_3 (v1 : Int32) (v3 : Int32) (v4 : Int32) (N : mz_N) : (mz_N) := mz_run (cq_123_3 v1 v3) (v4, N)
def cp_123_3 (v1 : Int32) (v3 : Int32) (v4 : Int32) (N : mz_N) : Prop := ∃ n, mz_ok (cq_123_3 v1 v3) (cd_123_3 v1 v3) n (v4, N)
noncomputable def cf_123_0 (v1 : Int32) (v3 : Int32) (N : mz_N) : (mz_N) := (cf_123_3 v1 v3 0 N)
def cp_123_0 (v1 : Int32) (v3 : Int32) (N : mz_N) : Prop := cp_123_3 v1 v3 0 N
/-! 124 KeptHouse$Plan.writeFlats (I[II)V -/
noncomputable def cf_124_40 (v1 : Int32) (v3 : Int32) (v4 : Int32) (N : mz_N) : ((Int32 × mz_N) ⊕ (mz_N)) := (.inl ((v4 + 1), N))
def cp_124_40 (v1 : Int32) (v3 : Int32) (v4 : Int32) (N : mz_N) : Prop := True
noncomputable def cq_124_3 (v1 : Int32) (v3 : Int32) (s : Int32 × mz_N) : ((Int32 × mz_N) ⊕ (mz_N)) := if s.1 < 48 then (cf_124_40 v1 v3 s.1 (mz_wI s.2 227 (v3 + (s.1 / 2)) ((mz_gI s.2 227 (v3 + (s.1 / 2))) ||| (mz_ishl (mz_gI s.2 37 ((v1 * 48) + s.1)) (4 * (mz_irem s.1 2)))))) else (.inr s.2)
def cd_124_3 (v1 : Int32) (v3 : Int32) (s : Int32 × mz_N) : Prop := (s.1 < 48 → ((mz_ib (v3 + (s.1 / 2)) 448) ∧ ((mz_ib ((v1 * 48) + s.1) 240) ∧ ((mz_ib (v3 + (s.1 / 2)) 448) ∧ (cp_124_40 v1 v3 s.1 (mz_wI s.2 227 (v3 + (s.1 / 2)) ((mz_gI s.2 227 (v3 + (s.1 / 2))) ||| (mz_ishl (mz_gI s.2 37 ((v1 * 48) + s.1)) (4 * (mz_irem s.1 2)))))))))) ∧ (¬ (s.1 < 48) → True)
noncomputable def cf_124_3 (v1 : Int32) (v3 : Int32) (v4 : Int32) (N : mz_N) : (mz_N) := mz_run (cq_124_3 v1 v3) (v4, N)
def cp_124_3 (v1 : Int32) (v3 : Int32) (v4 : Int32) (N : mz_N) : Prop := ∃ n, mz_ok (cq_124_3 v1 v3) (cd_124_3 v1 v3) n (v4, N)
noncomputable def cf_124_0 (v1 : Int32) (v3 : Int32) (N : mz_N) : (mz_N) := (cf_124_3 v1 v3 0 N)
def cp_124_0 (v1 : Int32) (v3 : Int32) (N : mz_N) : Prop := cp_124_3 v1 v3 0 N
/-! 125 KeptHouse$Climate.writeWeather (I[II)V -/
noncomputable def cf_125_34 (v1 : Int32) (v3 : Int32) (v4 : Int32) (N : mz_N) : ((Int32 × mz_N) ⊕ (mz_N)) := (.inl ((v4 + 1), N))
def cp_125_34 (v1 : Int32) (v3 : Int32) (v4 : Int32) (N : mz_N) : Prop := True
noncomputable def cq_125_3 (v1 : Int32) (v3 : Int32) (s : Int32 × mz_N) : ((Int32 × mz_N) ⊕ (mz_N)) := if s.1 < 12 then (cf_125_34 v1 v3 s.1 (cf_14_0 227 448 (v3 + (2 * s.1)) 2 ((mz_gI s.2 66 ((12 * v1) + s.1)).toInt64) s.2)) else (.inr s.2)
def cd_125_3 (v1 : Int32) (v3 : Int32) (s : Int32 × mz_N) : Prop := (s.1 < 12 → ((mz_ib ((12 * v1) + s.1) 24) ∧ ((cp_14_0 227 448 (v3 + (2 * s.1)) 2 ((mz_gI s.2 66 ((12 * v1) + s.1)).toInt64) s.2) ∧ (cp_125_34 v1 v3 s.1 (cf_14_0 227 448 (v3 + (2 * s.1)) 2 ((mz_gI s.2 66 ((12 * v1) + s.1)).toInt64) s.2))))) ∧ (¬ (s.1 < 12) → True)
noncomputable def cf_125_3 (v1 : Int32) (v3 : Int32) (v4 : Int32) (N : mz_N) : (mz_N) := mz_run (cq_125_3 v1 v3) (v4, N)
def cp_125_3 (v1 : Int32) (v3 : Int32) (v4 : Int32) (N : mz_N) : Prop := ∃ n, mz_ok (cq_125_3 v1 v3) (cd_125_3 v1 v3) n (v4, N)
noncomputable def cf_125_0 (v1 : Int32) (v3 : Int32) (N : mz_N) : (mz_N) := (cf_125_3 v1 v3 0 N)
def cp_125_0 (v1 : Int32) (v3 : Int32) (N : mz_N) : Prop := cp_125_3 v1 v3 0 N
/-! 126 KeptHouse$Program.writeText (I[II)V -/
noncomputable def cq_126_20 (v1 : Int32) (v3 : Int32) (b : Bool) (s : Int32 × mz_N) : ((Int32 × mz_N) ⊕ (mz_N)) := if s.1 < 28 then (if ((v1 * 28) + s.1) < (s.2.1 (mz_lv b) 1) then (.inl ((s.1 + 1), mz_wI s.2 227 (v3 + s.1) (mz_gI s.2 ((mz_lv b) + 1) ((v1 * 28) + s.1)))) else (.inr s.2)) else (.inr s.2)
def cd_126_20 (v1 : Int32) (v3 : Int32) (b : Bool) (s : Int32 × mz_N) : Prop := (s.1 < 28 → ((((v1 * 28) + s.1) < (s.2.1 (mz_lv b) 1) → ((mz_ib ((v1 * 28) + s.1) 196) ∧ (mz_ib (v3 + s.1) 448))) ∧ (¬ (((v1 * 28) + s.1) < (s.2.1 (mz_lv b) 1)) → True))) ∧ (¬ (s.1 < 28) → True)
noncomputable def cf_126_20 (v1 : Int32) (v3 : Int32) (v4 : Int32) (N : mz_N) (b : Bool) : (mz_N) := mz_run (cq_126_20 v1 v3 b) (v4, N)
def cp_126_20 (v1 : Int32) (v3 : Int32) (v4 : Int32) (N : mz_N) (b : Bool) : Prop := ∃ n, mz_ok (cq_126_20 v1 v3 b) (cd_126_20 v1 v3 b) n (v4, N)
noncomputable def cf_126_0 (v1 : Int32) (v3 : Int32) (N : mz_N) (b : Bool) : (mz_N) := if v1 = 7 then (mz_wI N 227 v3 (N.1 (mz_lv b) 1)) else (cf_126_20 v1 v3 0 N b)
def cp_126_0 (v1 : Int32) (v3 : Int32) (N : mz_N) (b : Bool) : Prop := (v1 = 7 → (mz_ib v3 448)) ∧ (¬ (v1 = 7) → (cp_126_20 v1 v3 0 N b))
/-! 127 KeptHouse$Supply.writeRatings (I[II)V -/
noncomputable def cf_127_53 (v1 : Int32) (v3 : Int32) (v4 : Int32) (N : mz_N) : ((Int32 × mz_N) ⊕ (mz_N)) := (.inl ((v4 + 1), N))
def cp_127_53 (v1 : Int32) (v3 : Int32) (v4 : Int32) (N : mz_N) : Prop := True
noncomputable def cq_127_3 (v1 : Int32) (v3 : Int32) (s : Int32 × mz_N) : ((Int32 × mz_N) ⊕ (mz_N)) := if s.1 < 11 then (if v1 = 0 then (cf_127_53 v1 v3 s.1 (cf_14_0 227 448 (v3 + (2 * s.1)) 2 ((mz_gI s.2 62 s.1).toInt64) s.2)) else (cf_127_53 v1 v3 s.1 (mz_wI s.2 227 (v3 + s.1) (mz_gI s.2 63 s.1)))) else (.inr s.2)
def cd_127_3 (v1 : Int32) (v3 : Int32) (s : Int32 × mz_N) : Prop := (s.1 < 11 → ((v1 = 0 → ((mz_ib s.1 11) ∧ ((cp_14_0 227 448 (v3 + (2 * s.1)) 2 ((mz_gI s.2 62 s.1).toInt64) s.2) ∧ (cp_127_53 v1 v3 s.1 (cf_14_0 227 448 (v3 + (2 * s.1)) 2 ((mz_gI s.2 62 s.1).toInt64) s.2))))) ∧ (¬ (v1 = 0) → ((mz_ib s.1 11) ∧ ((mz_ib (v3 + s.1) 448) ∧ (cp_127_53 v1 v3 s.1 (mz_wI s.2 227 (v3 + s.1) (mz_gI s.2 63 s.1)))))))) ∧ (¬ (s.1 < 11) → True)
noncomputable def cf_127_3 (v1 : Int32) (v3 : Int32) (v4 : Int32) (N : mz_N) : (mz_N) := mz_run (cq_127_3 v1 v3) (v4, N)
def cp_127_3 (v1 : Int32) (v3 : Int32) (v4 : Int32) (N : mz_N) : Prop := ∃ n, mz_ok (cq_127_3 v1 v3) (cd_127_3 v1 v3) n (v4, N)
noncomputable def cf_127_0 (v1 : Int32) (v3 : Int32) (N : mz_N) : (mz_N) := (cf_127_3 v1 v3 0 N)
def cp_127_0 (v1 : Int32) (v3 : Int32) (N : mz_N) : Prop := cp_127_3 v1 v3 0 N
/-! 128 KeptHouse$Books.writeFlat (I[II)V -/
noncomputable def cf_128_65 (v1 : Int32) (v3 : Int32) (N : mz_N) : (mz_N) := (cf_14_0 227 448 (v3 + 24) 4 ((mz_gI N 212 v1).toInt64) N)
def cp_128_65 (v1 : Int32) (v3 : Int32) (N : mz_N) : Prop := (mz_ib v1 11) ∧ (cp_14_0 227 448 (v3 + 24) 4 ((mz_gI N 212 v1).toInt64) N)
noncomputable def cf_128_29 (v1 : Int32) (v3 : Int32) (N : mz_N) : (mz_N) := (cf_128_65 v1 v3 (cf_14_0 227 448 (v3 + 20) 4 ((mz_gI (cf_14_0 227 448 (v3 + 16) 4 ((mz_gI N 210 v1).toInt64) N) 211 v1).toInt64) (cf_14_0 227 448 (v3 + 16) 4 ((mz_gI N 210 v1).toInt64) N)))
def cp_128_29 (v1 : Int32) (v3 : Int32) (N : mz_N) : Prop := (mz_ib v1 11) ∧ ((cp_14_0 227 448 (v3 + 16) 4 ((mz_gI N 210 v1).toInt64) N) ∧ ((mz_ib v1 11) ∧ ((cp_14_0 227 448 (v3 + 20) 4 ((mz_gI (cf_14_0 227 448 (v3 + 16) 4 ((mz_gI N 210 v1).toInt64) N) 211 v1).toInt64) (cf_14_0 227 448 (v3 + 16) 4 ((mz_gI N 210 v1).toInt64) N)) ∧ (cp_128_65 v1 v3 (cf_14_0 227 448 (v3 + 20) 4 ((mz_gI (cf_14_0 227 448 (v3 + 16) 4 ((mz_gI N 210 v1).toInt64) N) 211 v1).toInt64) (cf_14_0 227 448 (v3 + 16) 4 ((mz_gI N 210 v1).toInt64) N))))))
noncomputable def cf_128_0 (v1 : Int32) (v3 : Int32) (N : mz_N) : (mz_N) := (cf_128_29 v1 v3 (cf_14_0 227 448 (v3 + 8) 8 (mz_gL (cf_14_0 227 448 v3 8 (mz_gL N 213 v1) N) 214 v1) (cf_14_0 227 448 v3 8 (mz_gL N 213 v1) N)))
def cp_128_0 (v1 : Int32) (v3 : Int32) (N : mz_N) : Prop := (mz_ib v1 10) ∧ ((cp_14_0 227 448 v3 8 (mz_gL N 213 v1) N) ∧ ((mz_ib v1 10) ∧ ((cp_14_0 227 448 (v3 + 8) 8 (mz_gL (cf_14_0 227 448 v3 8 (mz_gL N 213 v1) N) 214 v1) (cf_14_0 227 448 v3 8 (mz_gL N 213 v1) N)) ∧ (cp_128_29 v1 v3 (cf_14_0 227 448 (v3 + 8) 8 (mz_gL (cf_14_0 227 448 v3 8 (mz_gL N 213 v1) N) 214 v1) (cf_14_0 227 448 v3 8 (mz_gL N 213 v1) N))))))
/-! 129 KeptHouse$Books.writeCash ([II)V -/
noncomputable def cf_129_52 (v2 : Int32) (N : mz_N) : (mz_N) := (cf_14_0 227 448 (v2 + 24) 4 ((N.1 208 4).toInt64) N)
def cp_129_52 (v2 : Int32) (N : mz_N) : Prop := cp_14_0 227 448 (v2 + 24) 4 ((N.1 208 4).toInt64) N
noncomputable def cf_129_24 (v2 : Int32) (N : mz_N) : (mz_N) := (cf_129_52 v2 (cf_14_0 227 448 (v2 + 20) 4 (((cf_14_0 227 448 (v2 + 12) 8 (N.2 208 2) N).1 208 3).toInt64) (cf_14_0 227 448 (v2 + 12) 8 (N.2 208 2) N)))
def cp_129_24 (v2 : Int32) (N : mz_N) : Prop := (cp_14_0 227 448 (v2 + 12) 8 (N.2 208 2) N) ∧ ((cp_14_0 227 448 (v2 + 20) 4 (((cf_14_0 227 448 (v2 + 12) 8 (N.2 208 2) N).1 208 3).toInt64) (cf_14_0 227 448 (v2 + 12) 8 (N.2 208 2) N)) ∧ (cp_129_52 v2 (cf_14_0 227 448 (v2 + 20) 4 (((cf_14_0 227 448 (v2 + 12) 8 (N.2 208 2) N).1 208 3).toInt64) (cf_14_0 227 448 (v2 + 12) 8 (N.2 208 2) N))))
noncomputable def cf_129_0 (v2 : Int32) (N : mz_N) : (mz_N) := (cf_129_24 v2 (cf_14_0 227 448 (v2 + 4) 8 ((cf_14_0 227 448 v2 4 ((N.1 208 0).toInt64) N).2 208 1) (cf_14_0 227 448 v2 4 ((N.1 208 0).toInt64) N)))
def cp_129_0 (v2 : Int32) (N : mz_N) : Prop := (cp_14_0 227 448 v2 4 ((N.1 208 0).toInt64) N) ∧ ((cp_14_0 227 448 (v2 + 4) 8 ((cf_14_0 227 448 v2 4 ((N.1 208 0).toInt64) N).2 208 1) (cf_14_0 227 448 v2 4 ((N.1 208 0).toInt64) N)) ∧ (cp_129_24 v2 (cf_14_0 227 448 (v2 + 4) 8 ((cf_14_0 227 448 v2 4 ((N.1 208 0).toInt64) N).2 208 1) (cf_14_0 227 448 v2 4 ((N.1 208 0).toInt64) N))))
/-! 130 KeptHouse$Books.writePrices ([II)V -/
noncomputable def cf_130_61 (v2 : Int32) (v3 : Int32) (N : mz_N) : ((Int32 × mz_N) ⊕ (mz_N)) := (.inl ((v3 + 1), N))
def cp_130_61 (v2 : Int32) (v3 : Int32) (N : mz_N) : Prop := True
noncomputable def cq_130_36 (v2 : Int32) (s : Int32 × mz_N) : ((Int32 × mz_N) ⊕ (mz_N)) := if s.1 < 4 then (cf_130_61 v2 s.1 (cf_14_0 227 448 ((v2 + 8) + (4 * s.1)) 4 ((mz_gI s.2 215 s.1).toInt64) s.2)) else (.inr s.2)
def cd_130_36 (v2 : Int32) (s : Int32 × mz_N) : Prop := (s.1 < 4 → ((mz_ib s.1 4) ∧ ((cp_14_0 227 448 ((v2 + 8) + (4 * s.1)) 4 ((mz_gI s.2 215 s.1).toInt64) s.2) ∧ (cp_130_61 v2 s.1 (cf_14_0 227 448 ((v2 + 8) + (4 * s.1)) 4 ((mz_gI s.2 215 s.1).toInt64) s.2))))) ∧ (¬ (s.1 < 4) → True)
noncomputable def cf_130_36 (v2 : Int32) (v3 : Int32) (N : mz_N) : (mz_N) := mz_run (cq_130_36 v2) (v3, N)
def cp_130_36 (v2 : Int32) (v3 : Int32) (N : mz_N) : Prop := ∃ n, mz_ok (cq_130_36 v2) (cd_130_36 v2) n (v3, N)
noncomputable def cf_130_34 (v2 : Int32) (N : mz_N) : (mz_N) := (cf_130_36 v2 0 N)
def cp_130_34 (v2 : Int32) (N : mz_N) : Prop := cp_130_36 v2 0 N
noncomputable def cf_130_0 (v2 : Int32) (N : mz_N) : (mz_N) := (cf_130_34 v2 (cf_14_0 227 448 (v2 + 4) 4 ((mz_gI (cf_14_0 227 448 v2 4 ((mz_gI N 211 10).toInt64) N) 210 10).toInt64) (cf_14_0 227 448 v2 4 ((mz_gI N 211 10).toInt64) N)))
def cp_130_0 (v2 : Int32) (N : mz_N) : Prop := (cp_14_0 227 448 v2 4 ((mz_gI N 211 10).toInt64) N) ∧ ((cp_14_0 227 448 (v2 + 4) 4 ((mz_gI (cf_14_0 227 448 v2 4 ((mz_gI N 211 10).toInt64) N) 210 10).toInt64) (cf_14_0 227 448 v2 4 ((mz_gI N 211 10).toInt64) N)) ∧ (cp_130_34 v2 (cf_14_0 227 448 (v2 + 4) 4 ((mz_gI (cf_14_0 227 448 v2 4 ((mz_gI N 211 10).toInt64) N) 210 10).toInt64) (cf_14_0 227 448 v2 4 ((mz_gI N 211 10).toInt64) N))))
/-! 131 KeptHouse$Care.writePart (I[II)V -/
noncomputable def cf_131_32 (v1 : Int32) (v3 : Int32) (N : mz_N) : (mz_N) := mz_wI (cf_14_0 227 448 (v3 + 8) 4 ((mz_gI N 127 v1).toInt64) N) 227 (v3 + 12) (mz_gI (cf_14_0 227 448 (v3 + 8) 4 ((mz_gI N 127 v1).toInt64) N) 128 v1)
def cp_131_32 (v1 : Int32) (v3 : Int32) (N : mz_N) : Prop := (mz_ib v1 3) ∧ ((cp_14_0 227 448 (v3 + 8) 4 ((mz_gI N 127 v1).toInt64) N) ∧ ((mz_ib v1 3) ∧ (mz_ib (v3 + 12) 448)))
noncomputable def cf_131_0 (v1 : Int32) (v3 : Int32) (N : mz_N) : (mz_N) := (cf_131_32 v1 v3 (cf_14_0 227 448 (v3 + 4) 4 ((mz_gI (cf_14_0 227 448 v3 4 ((mz_gI N 125 v1).toInt64) N) 126 v1).toInt64) (cf_14_0 227 448 v3 4 ((mz_gI N 125 v1).toInt64) N)))
def cp_131_0 (v1 : Int32) (v3 : Int32) (N : mz_N) : Prop := (mz_ib v1 3) ∧ ((cp_14_0 227 448 v3 4 ((mz_gI N 125 v1).toInt64) N) ∧ ((mz_ib v1 3) ∧ ((cp_14_0 227 448 (v3 + 4) 4 ((mz_gI (cf_14_0 227 448 v3 4 ((mz_gI N 125 v1).toInt64) N) 126 v1).toInt64) (cf_14_0 227 448 v3 4 ((mz_gI N 125 v1).toInt64) N)) ∧ (cp_131_32 v1 v3 (cf_14_0 227 448 (v3 + 4) 4 ((mz_gI (cf_14_0 227 448 v3 4 ((mz_gI N 125 v1).toInt64) N) 126 v1).toInt64) (cf_14_0 227 448 v3 4 ((mz_gI N 125 v1).toInt64) N))))))
/-! 132 KeptHouse$Care.writeTicket (I[II)V -/
noncomputable def cf_132_88 (N : mz_N) : (mz_N) := N
def cp_132_88 (N : mz_N) : Prop := True
noncomputable def cf_132_53 (v1 : Int32) (v3 : Int32) (N : mz_N) : (mz_N) := (cf_132_88 (cf_14_0 227 448 (v3 + 8) 4 ((mz_gI (cf_14_0 227 448 (v3 + 4) 4 ((mz_gI N 121 v1).toInt64) N) 117 v1).toInt64) (cf_14_0 227 448 (v3 + 4) 4 ((mz_gI N 121 v1).toInt64) N)))
def cp_132_53 (v1 : Int32) (v3 : Int32) (N : mz_N) : Prop := (mz_ib v1 16) ∧ ((cp_14_0 227 448 (v3 + 4) 4 ((mz_gI N 121 v1).toInt64) N) ∧ ((mz_ib v1 16) ∧ ((cp_14_0 227 448 (v3 + 8) 4 ((mz_gI (cf_14_0 227 448 (v3 + 4) 4 ((mz_gI N 121 v1).toInt64) N) 117 v1).toInt64) (cf_14_0 227 448 (v3 + 4) 4 ((mz_gI N 121 v1).toInt64) N)) ∧ (cp_132_88 (cf_14_0 227 448 (v3 + 8) 4 ((mz_gI (cf_14_0 227 448 (v3 + 4) 4 ((mz_gI N 121 v1).toInt64) N) 117 v1).toInt64) (cf_14_0 227 448 (v3 + 4) 4 ((mz_gI N 121 v1).toInt64) N))))))
noncomputable def cf_132_27 (v1 : Int32) (v3 : Int32) (N : mz_N) : (mz_N) := (cf_132_53 v1 v3 (mz_wI (mz_wI N 227 (v3 + 2) (mz_gI N 119 v1)) 227 (v3 + 3) (mz_gI (mz_wI N 227 (v3 + 2) (mz_gI N 119 v1)) 120 v1)))
def cp_132_27 (v1 : Int32) (v3 : Int32) (N : mz_N) : Prop := (mz_ib v1 16) ∧ ((mz_ib (v3 + 2) 448) ∧ ((mz_ib v1 16) ∧ ((mz_ib (v3 + 3) 448) ∧ (cp_132_53 v1 v3 (mz_wI (mz_wI N 227 (v3 + 2) (mz_gI N 119 v1)) 227 (v3 + 3) (mz_gI (mz_wI N 227 (v3 + 2) (mz_gI N 119 v1)) 120 v1))))))
noncomputable def cf_132_0 (v1 : Int32) (v3 : Int32) (N : mz_N) : (mz_N) := if (mz_gI N 123 v1) = 0 then N else (cf_132_27 v1 v3 (mz_wI (mz_wI N 227 v3 1) 227 (v3 + 1) (mz_gI (mz_wI N 227 v3 1) 118 v1)))
def cp_132_0 (v1 : Int32) (v3 : Int32) (N : mz_N) : Prop := (mz_ib v1 16) ∧ (((mz_gI N 123 v1) = 0 → True) ∧ (¬ ((mz_gI N 123 v1) = 0) → ((mz_ib v3 448) ∧ ((mz_ib v1 16) ∧ ((mz_ib (v3 + 1) 448) ∧ (cp_132_27 v1 v3 (mz_wI (mz_wI N 227 v3 1) 227 (v3 + 1) (mz_gI (mz_wI N 227 v3 1) 118 v1))))))))
/-! 133 KeptHouse$Access.writeDoor (I[II)V -/
noncomputable def cf_133_20 (v1 : Int32) (v3 : Int32) (N : mz_N) : (mz_N) := mz_wI N 227 (v3 + 2) (mz_gI N 103 v1)
def cp_133_20 (v1 : Int32) (v3 : Int32) (N : mz_N) : Prop := (mz_ib v1 20) ∧ (mz_ib (v3 + 2) 448)
noncomputable def cf_133_0 (v1 : Int32) (v3 : Int32) (N : mz_N) : (mz_N) := (cf_133_20 v1 v3 (mz_wI (mz_wI N 227 v3 (mz_gI N 101 v1)) 227 (v3 + 1) (mz_gI (mz_wI N 227 v3 (mz_gI N 101 v1)) 102 v1)))
def cp_133_0 (v1 : Int32) (v3 : Int32) (N : mz_N) : Prop := (mz_ib v1 20) ∧ ((mz_ib v3 448) ∧ ((mz_ib v1 20) ∧ ((mz_ib (v3 + 1) 448) ∧ (cp_133_20 v1 v3 (mz_wI (mz_wI N 227 v3 (mz_gI N 101 v1)) 227 (v3 + 1) (mz_gI (mz_wI N 227 v3 (mz_gI N 101 v1)) 102 v1))))))
/-! 134 KeptHouse$Access.writeCard (I[II)V -/
noncomputable def cf_134_42 (v1 : Int32) (v3 : Int32) (N : mz_N) : (mz_N) := (cf_14_0 227 448 (v3 + 4) 4 ((mz_gI N 108 v1).toInt64) N)
def cp_134_42 (v1 : Int32) (v3 : Int32) (N : mz_N) : Prop := (mz_ib v1 40) ∧ (cp_14_0 227 448 (v3 + 4) 4 ((mz_gI N 108 v1).toInt64) N)
noncomputable def cf_134_20 (v1 : Int32) (v3 : Int32) (N : mz_N) : (mz_N) := (cf_134_42 v1 v3 (mz_wI (mz_wI N 227 (v3 + 2) (mz_gI N 106 v1)) 227 (v3 + 3) (mz_gI (mz_wI N 227 (v3 + 2) (mz_gI N 106 v1)) 107 v1)))
def cp_134_20 (v1 : Int32) (v3 : Int32) (N : mz_N) : Prop := (mz_ib v1 40) ∧ ((mz_ib (v3 + 2) 448) ∧ ((mz_ib v1 40) ∧ ((mz_ib (v3 + 3) 448) ∧ (cp_134_42 v1 v3 (mz_wI (mz_wI N 227 (v3 + 2) (mz_gI N 106 v1)) 227 (v3 + 3) (mz_gI (mz_wI N 227 (v3 + 2) (mz_gI N 106 v1)) 107 v1))))))
noncomputable def cf_134_0 (v1 : Int32) (v3 : Int32) (N : mz_N) : (mz_N) := (cf_134_20 v1 v3 (mz_wI (mz_wI N 227 v3 (mz_gI N 104 v1)) 227 (v3 + 1) (mz_gI (mz_wI N 227 v3 (mz_gI N 104 v1)) 105 v1)))
def cp_134_0 (v1 : Int32) (v3 : Int32) (N : mz_N) : Prop := (mz_ib v1 40) ∧ ((mz_ib v3 448) ∧ ((mz_ib v1 40) ∧ ((mz_ib (v3 + 1) 448) ∧ (cp_134_20 v1 v3 (mz_wI (mz_wI N 227 v3 (mz_gI N 104 v1)) 227 (v3 + 1) (mz_gI (mz_wI N 227 v3 (mz_gI N 104 v1)) 105 v1))))))
/-! 135 KeptHouse$Watch.writePoint (I[II)V -/
noncomputable def cf_135_20 (v1 : Int32) (v3 : Int32) (N : mz_N) : (mz_N) := mz_wI N 227 (v3 + 2) (mz_gI N 89 v1)
def cp_135_20 (v1 : Int32) (v3 : Int32) (N : mz_N) : Prop := (mz_ib v1 8) ∧ (mz_ib (v3 + 2) 448)
noncomputable def cf_135_0 (v1 : Int32) (v3 : Int32) (N : mz_N) : (mz_N) := (cf_135_20 v1 v3 (mz_wI (mz_wI N 227 v3 (mz_gI N 87 v1)) 227 (v3 + 1) (mz_gI (mz_wI N 227 v3 (mz_gI N 87 v1)) 88 v1)))
def cp_135_0 (v1 : Int32) (v3 : Int32) (N : mz_N) : Prop := (mz_ib v1 8) ∧ ((mz_ib v3 448) ∧ ((mz_ib v1 8) ∧ ((mz_ib (v3 + 1) 448) ∧ (cp_135_20 v1 v3 (mz_wI (mz_wI N 227 v3 (mz_gI N 87 v1)) 227 (v3 + 1) (mz_gI (mz_wI N 227 v3 (mz_gI N 87 v1)) 88 v1))))))
/-! 122 KeptHouse$Keeper.encode (II[II)V -/
noncomputable def cf_122_0 (v1 : Int32) (v2 : Int32) (v4 : Int32) (N : mz_N) (b : Bool) : (mz_N) := if v1 = 1 then (cf_123_0 v2 v4 (cf_45_0 227 448 v4 (v4 + 28) 0 N)) else (if v1 = 2 then (cf_124_0 v2 v4 (cf_45_0 227 448 v4 (v4 + 28) 0 N)) else (if v1 = 3 then (mz_yI (cf_45_0 227 448 v4 (v4 + 28) 0 N) 40 (v2 * 24) 227 v4 24) else (if v1 = 4 then (cf_125_0 v2 v4 (cf_45_0 227 448 v4 (v4 + 28) 0 N)) else (if v1 = 5 then (mz_yI (cf_45_0 227 448 v4 (v4 + 28) 0 N) 67 (v2 * 24) 227 v4 24) else (if v1 = 6 then (cf_126_0 v2 v4 (cf_45_0 227 448 v4 (v4 + 28) 0 N) b) else (if v1 = 7 then (cf_127_0 v2 v4 (cf_45_0 227 448 v4 (v4 + 28) 0 N)) else (if v1 = 8 then (cf_128_0 v2 v4 (cf_45_0 227 448 v4 (v4 + 28) 0 N)) else (if v1 = 9 then (cf_129_0 v4 (cf_45_0 227 448 v4 (v4 + 28) 0 N)) else (if v1 = 10 then (cf_130_0 v4 (cf_45_0 227 448 v4 (v4 + 28) 0 N)) else (if v1 = 11 then (cf_131_0 v2 v4 (cf_45_0 227 448 v4 (v4 + 28) 0 N)) else (if v1 = 12 then (cf_132_0 v2 v4 (cf_45_0 227 448 v4 (v4 + 28) 0 N)) else (if v1 = 13 then (cf_133_0 v2 v4 (cf_45_0 227 448 v4 (v4 + 28) 0 N)) else (if v1 = 14 then (cf_134_0 v2 v4 (cf_45_0 227 448 v4 (v4 + 28) 0 N)) else (cf_135_0 v2 v4 (cf_45_0 227 448 v4 (v4 + 28) 0 N)))))))))))))))
def cp_122_0 (v1 : Int32) (v2 : Int32) (v4 : Int32) (N : mz_N) (b : Bool) : Prop := (cp_45_0 227 448 v4 (v4 + 28) 0 N) ∧ ((v1 = 1 → (cp_123_0 v2 v4 (cf_45_0 227 448 v4 (v4 + 28) 0 N))) ∧ (¬ (v1 = 1) → ((v1 = 2 → (cp_124_0 v2 v4 (cf_45_0 227 448 v4 (v4 + 28) 0 N))) ∧ (¬ (v1 = 2) → ((v1 = 3 → (mz_cpk (v2 * 24) v4 24 240 448)) ∧ (¬ (v1 = 3) → ((v1 = 4 → (cp_125_0 v2 v4 (cf_45_0 227 448 v4 (v4 + 28) 0 N))) ∧ (¬ (v1 = 4) → ((v1 = 5 → (mz_cpk (v2 * 24) v4 24 96 448)) ∧ (¬ (v1 = 5) → ((v1 = 6 → (cp_126_0 v2 v4 (cf_45_0 227 448 v4 (v4 + 28) 0 N) b)) ∧ (¬ (v1 = 6) → ((v1 = 7 → (cp_127_0 v2 v4 (cf_45_0 227 448 v4 (v4 + 28) 0 N))) ∧ (¬ (v1 = 7) → ((v1 = 8 → (cp_128_0 v2 v4 (cf_45_0 227 448 v4 (v4 + 28) 0 N))) ∧ (¬ (v1 = 8) → ((v1 = 9 → (cp_129_0 v4 (cf_45_0 227 448 v4 (v4 + 28) 0 N))) ∧ (¬ (v1 = 9) → ((v1 = 10 → (cp_130_0 v4 (cf_45_0 227 448 v4 (v4 + 28) 0 N))) ∧ (¬ (v1 = 10) → ((v1 = 11 → (cp_131_0 v2 v4 (cf_45_0 227 448 v4 (v4 + 28) 0 N))) ∧ (¬ (v1 = 11) → ((v1 = 12 → (cp_132_0 v2 v4 (cf_45_0 227 448 v4 (v4 + 28) 0 N))) ∧ (¬ (v1 = 12) → ((v1 = 13 → (cp_133_0 v2 v4 (cf_45_0 227 448 v4 (v4 + 28) 0 N))) ∧ (¬ (v1 = 13) → ((v1 = 14 → (cp_134_0 v2 v4 (cf_45_0 227 448 v4 (v4 + 28) 0 N))) ∧ (¬ (v1 = 14) → (cp_135_0 v2 v4 (cf_45_0 227 448 v4 (v4 + 28) 0 N))))))))))))))))))))))))))))))
/-! 136 KeptHouse$Store.hasRoom ()Z -/
noncomputable def cf_136_0 (N : mz_N) : (Bool) := if 200 < ((N.1 219 6) + (N.1 219 11)) then false else true
def cp_136_0 (N : mz_N) : Prop := True
/-! 138 KeptHouse$Store.countKeys ([I)I -/
noncomputable def cq_138_4 (a0 : Nat) (N : mz_N) (s : Int32 × Int32) : ((Int32 × Int32) ⊕ (Int32)) := if s.2 < 135 then (.inl ((s.1 + (mz_gI N a0 s.2)), (s.2 + 1))) else (.inr s.1)
def cd_138_4 (a0 : Nat) (N : mz_N) (s : Int32 × Int32) : Prop := (s.2 < 135 → (mz_ib s.2 135)) ∧ (¬ (s.2 < 135) → True)
noncomputable def cf_138_4 (a0 : Nat) (v1 : Int32) (v2 : Int32) (N : mz_N) : (Int32) := mz_run (cq_138_4 a0 N) (v1, v2)
def cp_138_4 (a0 : Nat) (v1 : Int32) (v2 : Int32) (N : mz_N) : Prop := ∃ n, mz_ok (cq_138_4 a0 N) (cd_138_4 a0 N) n (v1, v2)
noncomputable def cf_138_0 (a0 : Nat) (N : mz_N) : (Int32) := (cf_138_4 a0 0 0 N)
def cp_138_0 (a0 : Nat) (N : mz_N) : Prop := cp_138_4 a0 0 0 N
/-! 137 KeptHouse$Store.snapshot ([I[I)Z -/
noncomputable def cf_137_123 (a1 : Nat) (a2 : Nat) (v3 : Int32) (v4 : Int32) (v5 : Int32) (v6 : Int32) (v7 : Int32) (N : mz_N) : ((Int32 × Int32 × mz_N) ⊕ (Bool × mz_N)) := (.inl (v6, (v7 + 1), N))
def cp_137_123 (a1 : Nat) (a2 : Nat) (v3 : Int32) (v4 : Int32) (v5 : Int32) (v6 : Int32) (v7 : Int32) (N : mz_N) : Prop := True
noncomputable def cf_137_163 (a1 : Nat) (a2 : Nat) (v3 : Int32) (v4 : Int32) (v5 : Int32) (N : mz_N) : (Bool × mz_N) := (true, mz_pI (mz_pI (mz_pI N 219 4 v3) 219 5 v4) 219 6 (v5 + 1))
def cp_137_163 (a1 : Nat) (a2 : Nat) (v3 : Int32) (v4 : Int32) (v5 : Int32) (N : mz_N) : Prop := True
noncomputable def cf_137_87 (a1 : Nat) (a2 : Nat) (s1 : Int32) (s2 : Int32) (s3 : Bool) (v3 : Int32) (v4 : Int32) (v5 : Int32) (v6 : Int32) (v7 : Int32) (N : mz_N) : ((Int32 × Int32 × mz_N) ⊕ (Bool × mz_N)) := if ((cf_15_0 v3 v6 (mz_yI (cf_12_0 s1 s2 s3 v6 v4 N) a1 (v7 * 28) 225 12 28)).1) = true then (cf_137_123 a1 a2 v3 v4 v5 v6 v7 ((cf_15_0 v3 v6 (mz_yI (cf_12_0 s1 s2 s3 v6 v4 N) a1 (v7 * 28) 225 12 28)).2)) else (.inr (false, (cf_15_0 v3 v6 (mz_yI (cf_12_0 s1 s2 s3 v6 v4 N) a1 (v7 * 28) 225 12 28)).2))
def cp_137_87 (a1 : Nat) (a2 : Nat) (s1 : Int32) (s2 : Int32) (s3 : Bool) (v3 : Int32) (v4 : Int32) (v5 : Int32) (v6 : Int32) (v7 : Int32) (N : mz_N) : Prop := (cp_12_0 s1 s2 s3 v6 v4 N) ∧ ((mz_cpk (v7 * 28) 12 28 3780 48) ∧ ((cp_15_0 v3 v6 (mz_yI (cf_12_0 s1 s2 s3 v6 v4 N) a1 (v7 * 28) 225 12 28)) ∧ ((((cf_15_0 v3 v6 (mz_yI (cf_12_0 s1 s2 s3 v6 v4 N) a1 (v7 * 28) 225 12 28)).1) = true → (cp_137_123 a1 a2 v3 v4 v5 v6 v7 ((cf_15_0 v3 v6 (mz_yI (cf_12_0 s1 s2 s3 v6 v4 N) a1 (v7 * 28) 225 12 28)).2))) ∧ (¬ (((cf_15_0 v3 v6 (mz_yI (cf_12_0 s1 s2 s3 v6 v4 N) a1 (v7 * 28) 225 12 28)).1) = true) → True))))
noncomputable def cq_137_45 (a1 : Nat) (a2 : Nat) (v3 : Int32) (v4 : Int32) (v5 : Int32) (s : Int32 × Int32 × mz_N) : ((Int32 × Int32 × mz_N) ⊕ (Bool × mz_N)) := if s.2.1 < 135 then (if (mz_gI s.2.2 a2 s.2.1) = 1 then (if (s.1 + 1) = v5 then (cf_137_87 a1 a2 (cf_55_0 s.2.1) (cf_56_0 s.2.1) true v3 v4 v5 (s.1 + 1) s.2.1 s.2.2) else (cf_137_87 a1 a2 (cf_55_0 s.2.1) (cf_56_0 s.2.1) false v3 v4 v5 (s.1 + 1) s.2.1 s.2.2)) else (cf_137_123 a1 a2 v3 v4 v5 s.1 s.2.1 s.2.2)) else (if ((cf_15_0 v3 0 (cf_14_0 225 48 12 4 v5.toInt64 (cf_12_0 0 0 true 0 v4 s.2.2))).1) = true then (.inr (cf_137_163 a1 a2 v3 v4 v5 ((cf_15_0 v3 0 (cf_14_0 225 48 12 4 v5.toInt64 (cf_12_0 0 0 true 0 v4 s.2.2))).2))) else (.inr (false, (cf_15_0 v3 0 (cf_14_0 225 48 12 4 v5.toInt64 (cf_12_0 0 0 true 0 v4 s.2.2))).2)))
def cd_137_45 (a1 : Nat) (a2 : Nat) (v3 : Int32) (v4 : Int32) (v5 : Int32) (s : Int32 × Int32 × mz_N) : Prop := (s.2.1 < 135 → ((mz_ib s.2.1 135) ∧ (((mz_gI s.2.2 a2 s.2.1) = 1 → ((cp_55_0 s.2.1) ∧ ((cp_56_0 s.2.1) ∧ (((s.1 + 1) = v5 → (cp_137_87 a1 a2 (cf_55_0 s.2.1) (cf_56_0 s.2.1) true v3 v4 v5 (s.1 + 1) s.2.1 s.2.2)) ∧ (¬ ((s.1 + 1) = v5) → (cp_137_87 a1 a2 (cf_55_0 s.2.1) (cf_56_0 s.2.1) false v3 v4 v5 (s.1 + 1) s.2.1 s.2.2)))))) ∧ (¬ ((mz_gI s.2.2 a2 s.2.1) = 1) → (cp_137_123 a1 a2 v3 v4 v5 s.1 s.2.1 s.2.2))))) ∧ (¬ (s.2.1 < 135) → ((cp_12_0 0 0 true 0 v4 s.2.2) ∧ ((cp_14_0 225 48 12 4 v5.toInt64 (cf_12_0 0 0 true 0 v4 s.2.2)) ∧ ((cp_15_0 v3 0 (cf_14_0 225 48 12 4 v5.toInt64 (cf_12_0 0 0 true 0 v4 s.2.2))) ∧ ((((cf_15_0 v3 0 (cf_14_0 225 48 12 4 v5.toInt64 (cf_12_0 0 0 true 0 v4 s.2.2))).1) = true → (cp_137_163 a1 a2 v3 v4 v5 ((cf_15_0 v3 0 (cf_14_0 225 48 12 4 v5.toInt64 (cf_12_0 0 0 true 0 v4 s.2.2))).2))) ∧ (¬ (((cf_15_0 v3 0 (cf_14_0 225 48 12 4 v5.toInt64 (cf_12_0 0 0 true 0 v4 s.2.2))).1) = true) → True))))))
noncomputable def cf_137_45 (a1 : Nat) (a2 : Nat) (v3 : Int32) (v4 : Int32) (v5 : Int32) (v6 : Int32) (v7 : Int32) (N : mz_N) : (Bool × mz_N) := mz_run (cq_137_45 a1 a2 v3 v4 v5) (v6, v7, N)
def cp_137_45 (a1 : Nat) (a2 : Nat) (v3 : Int32) (v4 : Int32) (v5 : Int32) (v6 : Int32) (v7 : Int32) (N : mz_N) : Prop := ∃ n, mz_ok (cq_137_45 a1 a2 v3 v4 v5) (cd_137_45 a1 a2 v3 v4 v5) n (v6, v7, N)
noncomputable def cf_137_0 (a1 : Nat) (a2 : Nat) (N : mz_N) : (Bool × mz_N) := (cf_137_45 a1 a2 (1 - (N.1 219 4)) (1 + (mz_imax (N.1 219 5) (mz_imax (cf_96_0 (1 - (N.1 219 4)) 0 N) (cf_96_0 (1 - (N.1 219 4)) 1 N)))) (cf_138_0 a2 N) 0 0 N)
def cp_137_0 (a1 : Nat) (a2 : Nat) (N : mz_N) : Prop := (cp_96_0 (1 - (N.1 219 4)) 0 N) ∧ ((cp_96_0 (1 - (N.1 219 4)) 1 N) ∧ ((cp_138_0 a2 N) ∧ (cp_137_45 a1 a2 (1 - (N.1 219 4)) (1 + (mz_imax (N.1 219 5) (mz_imax (cf_96_0 (1 - (N.1 219 4)) 0 N) (cf_96_0 (1 - (N.1 219 4)) 1 N)))) (cf_138_0 a2 N) 0 0 N)))
/-! 139 KeptHouse$Store.append ()Z -/
noncomputable def cf_139_74 (v1 : Int32) (N : mz_N) : ((Int32 × mz_N) ⊕ (Bool × mz_N)) := if ((cf_15_0 (N.1 219 4) (N.1 219 6) N).1) = true then (.inl ((v1 + 1), mz_pI ((cf_15_0 (N.1 219 4) (N.1 219 6) N).2) 219 6 ((((cf_15_0 (N.1 219 4) (N.1 219 6) N).2).1 219 6) + 1))) else (.inr (false, (cf_15_0 (N.1 219 4) (N.1 219 6) N).2))
def cp_139_74 (v1 : Int32) (N : mz_N) : Prop := cp_15_0 (N.1 219 4) (N.1 219 6) N
noncomputable def cf_139_44 (s1 : Int32) (s2 : Int32) (s3 : Bool) (v1 : Int32) (N : mz_N) : ((Int32 × mz_N) ⊕ (Bool × mz_N)) := (cf_139_74 v1 (mz_yI (cf_12_0 s1 s2 s3 (N.1 219 6) (N.1 219 5) N) 227 (v1 * 28) 225 12 28))
def cp_139_44 (s1 : Int32) (s2 : Int32) (s3 : Bool) (v1 : Int32) (N : mz_N) : Prop := (cp_12_0 s1 s2 s3 (N.1 219 6) (N.1 219 5) N) ∧ ((mz_cpk (v1 * 28) 12 28 448 48) ∧ (cp_139_74 v1 (mz_yI (cf_12_0 s1 s2 s3 (N.1 219 6) (N.1 219 5) N) 227 (v1 * 28) 225 12 28)))
noncomputable def cq_139_109  (s : Int32 × mz_N) : ((Int32 × mz_N) ⊕ (Bool × mz_N)) := if s.1 < (s.2.1 219 11) then (.inl ((s.1 + 1), mz_wI (mz_yI s.2 227 (s.1 * 28) 223 ((mz_gI s.2 226 s.1) * 28) 28) 224 (mz_gI (mz_yI s.2 227 (s.1 * 28) 223 ((mz_gI s.2 226 s.1) * 28) 28) 226 s.1) 1)) else (.inr (true, s.2))
def cd_139_109  (s : Int32 × mz_N) : Prop := (s.1 < (s.2.1 219 11) → ((mz_ib s.1 16) ∧ ((mz_cpk (s.1 * 28) ((mz_gI s.2 226 s.1) * 28) 28 448 3780) ∧ ((mz_ib s.1 16) ∧ (mz_ib (mz_gI (mz_yI s.2 227 (s.1 * 28) 223 ((mz_gI s.2 226 s.1) * 28) 28) 226 s.1) 135))))) ∧ (¬ (s.1 < (s.2.1 219 11)) → True)
noncomputable def cf_139_109 (v1 : Int32) (N : mz_N) : (Bool × mz_N) := mz_run (cq_139_109 ) (v1, N)
def cp_139_109 (v1 : Int32) (N : mz_N) : Prop := ∃ n, mz_ok (cq_139_109 ) (cd_139_109 ) n (v1, N)
noncomputable def cq_139_2  (s : Int32 × mz_N) : ((Int32 × mz_N) ⊕ (Bool × mz_N)) := if s.1 < (s.2.1 219 11) then (if s.1 = ((s.2.1 219 11) - 1) then (cf_139_44 (cf_55_0 (mz_gI s.2 226 s.1)) (cf_56_0 (mz_gI s.2 226 s.1)) true s.1 s.2) else (cf_139_44 (cf_55_0 (mz_gI s.2 226 s.1)) (cf_56_0 (mz_gI s.2 226 s.1)) false s.1 s.2)) else (.inr (cf_139_109 0 s.2))
def cd_139_2  (s : Int32 × mz_N) : Prop := (s.1 < (s.2.1 219 11) → ((mz_ib s.1 16) ∧ ((cp_55_0 (mz_gI s.2 226 s.1)) ∧ ((mz_ib s.1 16) ∧ ((cp_56_0 (mz_gI s.2 226 s.1)) ∧ ((s.1 = ((s.2.1 219 11) - 1) → (cp_139_44 (cf_55_0 (mz_gI s.2 226 s.1)) (cf_56_0 (mz_gI s.2 226 s.1)) true s.1 s.2)) ∧ (¬ (s.1 = ((s.2.1 219 11) - 1)) → (cp_139_44 (cf_55_0 (mz_gI s.2 226 s.1)) (cf_56_0 (mz_gI s.2 226 s.1)) false s.1 s.2)))))))) ∧ (¬ (s.1 < (s.2.1 219 11)) → (cp_139_109 0 s.2))
noncomputable def cf_139_2 (v1 : Int32) (N : mz_N) : (Bool × mz_N) := mz_run (cq_139_2 ) (v1, N)
def cp_139_2 (v1 : Int32) (N : mz_N) : Prop := ∃ n, mz_ok (cq_139_2 ) (cd_139_2 ) n (v1, N)
noncomputable def cf_139_0 (N : mz_N) : (Bool × mz_N) := (cf_139_2 0 N)
def cp_139_0 (N : mz_N) : Prop := cp_139_2 0 N
/-! 121 KeptHouse$Keeper.writeGroup ()Z -/
noncomputable def cf_121_88 (N : mz_N) (b : Bool) : (Bool × mz_N) := (((cf_139_0 N).1), (cf_139_0 N).2)
def cp_121_88 (N : mz_N) (b : Bool) : Prop := cp_139_0 N
noncomputable def cf_121_46 (v1 : Int32) (N : mz_N) (b : Bool) : ((Int32 × mz_N) ⊕ (Bool × mz_N)) := (.inl ((v1 + 1), N))
def cp_121_46 (v1 : Int32) (N : mz_N) (b : Bool) : Prop := True
noncomputable def cq_121_2 (b : Bool) (s : Int32 × mz_N) : ((Int32 × mz_N) ⊕ (Bool × mz_N)) := if s.1 < (s.2.1 219 11) then (cf_121_46 s.1 (cf_122_0 (cf_55_0 (mz_gI s.2 226 s.1)) (cf_56_0 (mz_gI s.2 226 s.1)) (s.1 * 28) s.2 b) b) else (if (cf_136_0 s.2) = true then (.inr (cf_121_88 s.2 b)) else (if ((cf_137_0 223 224 s.2).1) = true then (.inr (cf_121_88 ((cf_137_0 223 224 s.2).2) b)) else (.inr (false, (cf_137_0 223 224 s.2).2))))
def cd_121_2 (b : Bool) (s : Int32 × mz_N) : Prop := (s.1 < (s.2.1 219 11) → ((mz_ib s.1 16) ∧ ((cp_55_0 (mz_gI s.2 226 s.1)) ∧ ((cp_56_0 (mz_gI s.2 226 s.1)) ∧ ((cp_122_0 (cf_55_0 (mz_gI s.2 226 s.1)) (cf_56_0 (mz_gI s.2 226 s.1)) (s.1 * 28) s.2 b) ∧ (cp_121_46 s.1 (cf_122_0 (cf_55_0 (mz_gI s.2 226 s.1)) (cf_56_0 (mz_gI s.2 226 s.1)) (s.1 * 28) s.2 b) b)))))) ∧ (¬ (s.1 < (s.2.1 219 11)) → (((cf_136_0 s.2) = true → (cp_121_88 s.2 b)) ∧ (¬ ((cf_136_0 s.2) = true) → ((cp_137_0 223 224 s.2) ∧ ((((cf_137_0 223 224 s.2).1) = true → (cp_121_88 ((cf_137_0 223 224 s.2).2) b)) ∧ (¬ (((cf_137_0 223 224 s.2).1) = true) → True))))))
noncomputable def cf_121_2 (v1 : Int32) (N : mz_N) (b : Bool) : (Bool × mz_N) := mz_run (cq_121_2 b) (v1, N)
def cp_121_2 (v1 : Int32) (N : mz_N) (b : Bool) : Prop := ∃ n, mz_ok (cq_121_2 b) (cd_121_2 b) n (v1, N)
noncomputable def cf_121_0 (N : mz_N) (b : Bool) : (Bool × mz_N) := (cf_121_2 0 N b)
def cp_121_0 (N : mz_N) (b : Bool) : Prop := cp_121_2 0 N b
/-! 111 KeptHouse.merge (I)I -/
noncomputable def cf_111_77 (v1 : Int32) (v3 : Int32) (N : mz_N) (b : Bool) : ((Int32 × mz_N) ⊕ (Nat × Int32 × mz_N)) := (.inl ((v3 + 1), N))
def cp_111_77 (v1 : Int32) (v3 : Int32) (N : mz_N) (b : Bool) : Prop := True
noncomputable def cq_111_52 (v1 : Int32) (b : Bool) (s : Int32 × mz_N) : ((Int32 × mz_N) ⊕ (Nat × Int32 × mz_N)) := if s.1 < 5 then (if (cf_118_0 s.1 s.2) = true then (cf_111_77 v1 s.1 (cf_119_0 1 s.1 s.2) b) else (cf_111_77 v1 s.1 s.2 b)) else (if ((cf_121_0 (cf_120_0 v1 s.2) b).1) = true then (.inr (0, (((cf_121_0 (cf_120_0 v1 s.2) b).2).1 2 3), (cf_121_0 (cf_120_0 v1 s.2) b).2)) else (.inr (0, (-1001), (cf_121_0 (cf_120_0 v1 s.2) b).2)))
def cd_111_52 (v1 : Int32) (b : Bool) (s : Int32 × mz_N) : Prop := (s.1 < 5 → ((cp_118_0 s.1 s.2) ∧ (((cf_118_0 s.1 s.2) = true → ((cp_119_0 1 s.1 s.2) ∧ (cp_111_77 v1 s.1 (cf_119_0 1 s.1 s.2) b))) ∧ (¬ ((cf_118_0 s.1 s.2) = true) → (cp_111_77 v1 s.1 s.2 b))))) ∧ (¬ (s.1 < 5) → ((cp_120_0 v1 s.2) ∧ (cp_121_0 (cf_120_0 v1 s.2) b)))
noncomputable def cf_111_52 (v1 : Int32) (v3 : Int32) (N : mz_N) (b : Bool) : (Nat × Int32 × mz_N) := mz_run (cq_111_52 v1 b) (v3, N)
def cp_111_52 (v1 : Int32) (v3 : Int32) (N : mz_N) (b : Bool) : Prop := ∃ n, mz_ok (cq_111_52 v1 b) (cd_111_52 v1 b) n (v3, N)
noncomputable def cf_111_0 (v1 : Int32) (N : mz_N) (b : Bool) : (Nat × Int32 × mz_N) := if (cf_104_0 N) = 0 then (if (cf_105_0 v1 0 2) = 0 then (if 0 < (cf_112_0 v1 N) then (0, (-(cf_112_0 v1 N)), N) else (if 40 < ((cf_115_0 v1 N).1) then (0, (-1002), (cf_115_0 v1 N).2) else (cf_111_52 v1 0 (cf_117_0 ((cf_115_0 v1 N).2)) b))) else ((cf_105_0 v1 0 2), 0, N)) else ((cf_104_0 N), 0, N)
def cp_111_0 (v1 : Int32) (N : mz_N) (b : Bool) : Prop := (cp_104_0 N) ∧ (((cf_104_0 N) = 0 → ((cp_105_0 v1 0 2) ∧ (((cf_105_0 v1 0 2) = 0 → ((cp_112_0 v1 N) ∧ ((0 < (cf_112_0 v1 N) → True) ∧ (¬ (0 < (cf_112_0 v1 N)) → ((cp_115_0 v1 N) ∧ ((40 < ((cf_115_0 v1 N).1) → True) ∧ (¬ (40 < ((cf_115_0 v1 N).1)) → (cp_111_52 v1 0 (cf_117_0 ((cf_115_0 v1 N).2)) b)))))))) ∧ (¬ ((cf_105_0 v1 0 2) = 0) → True)))) ∧ (¬ ((cf_104_0 N) = 0) → True))
/-! 110 KeptHouseLaw.merge (LKeptHouse;I[J)I -/
noncomputable def cf_110_0 (v1 : Int32) (N : mz_N) (b : Bool) (t : Nat) : (Int32 × mz_N × Nat) := if (cf_111_0 v1 N b).1 = 0 then (0, mz_wL ((cf_111_0 v1 N b).2.2) 342 0 (((cf_111_0 v1 N b).2.1).toInt64), t) else (if (cf_111_0 v1 N b).1 = 1 then (1, (cf_111_0 v1 N b).2.2, t + 1) else (2, (cf_111_0 v1 N b).2.2, t + 1))
def cp_110_0 (v1 : Int32) (N : mz_N) (b : Bool) (t : Nat) : Prop := (cp_111_0 v1 N b) ∧ ((t < 1000) ∧ (((cf_111_0 v1 N b).1 = 0 → True) ∧ (¬ ((cf_111_0 v1 N b).1 = 0) → (((cf_111_0 v1 N b).1 = 1 → True) ∧ (¬ ((cf_111_0 v1 N b).1 = 1) → ((cf_111_0 v1 N b).1 = 2))))))
/-! 142 KeptHouse.mustHold (Z)V -/
noncomputable def cf_142_0 (v0 : Bool) : (Nat) := if v0 = true then 0 else 1
def cp_142_0 (v0 : Bool) : Prop := True
/-! 143 KeptHouse$Plan.findConflict (II)I -/
noncomputable def cf_143_34 (v1 : Int32) (v2 : Int32) (v3 : Int32) (v4 : Int32) (N : mz_N) : ((Int32 × Int32) ⊕ (Int32)) := (.inl (v3, (v4 + 1)))
def cp_143_34 (v1 : Int32) (v2 : Int32) (v3 : Int32) (v4 : Int32) (N : mz_N) : Prop := True
noncomputable def cq_143_5 (v1 : Int32) (v2 : Int32) (N : mz_N) (s : Int32 × Int32) : ((Int32 × Int32) ⊕ (Int32)) := if s.2 < 550 then (if (cf_113_0 v1 s.2 N) = true then (if s.1 = v2 then (.inr s.2) else (cf_143_34 v1 v2 (s.1 + 1) s.2 N)) else (cf_143_34 v1 v2 s.1 s.2 N)) else (.inr (-1))
def cd_143_5 (v1 : Int32) (v2 : Int32) (N : mz_N) (s : Int32 × Int32) : Prop := (s.2 < 550 → ((cp_113_0 v1 s.2 N) ∧ (((cf_113_0 v1 s.2 N) = true → ((s.1 = v2 → True) ∧ (¬ (s.1 = v2) → (cp_143_34 v1 v2 (s.1 + 1) s.2 N)))) ∧ (¬ ((cf_113_0 v1 s.2 N) = true) → (cp_143_34 v1 v2 s.1 s.2 N))))) ∧ (¬ (s.2 < 550) → True)
noncomputable def cf_143_5 (v1 : Int32) (v2 : Int32) (v3 : Int32) (v4 : Int32) (N : mz_N) : (Int32) := mz_run (cq_143_5 v1 v2 N) (v3, v4)
def cp_143_5 (v1 : Int32) (v2 : Int32) (v3 : Int32) (v4 : Int32) (N : mz_N) : Prop := ∃ n, mz_ok (cq_143_5 v1 v2 N) (cd_143_5 v1 v2 N) n (v3, v4)
noncomputable def cf_143_0 (v1 : Int32) (v2 : Int32) (N : mz_N) : (Int32) := (cf_143_5 v1 v2 0 0 N)
def cp_143_0 (v1 : Int32) (v2 : Int32) (N : mz_N) : Prop := cp_143_5 v1 v2 0 0 N
/-! 141 KeptHouse.conflict (II)I -/
noncomputable def cf_141_19 (s0 : Bool) (v1 : Int32) (v2 : Int32) (N : mz_N) : (Nat × Int32) := if (cf_142_0 s0) = 0 then (if (cf_143_0 v1 v2 N) = (-1) then (0, (-1)) else (0, ((128 * ((cf_143_0 v1 v2 N) / 110)) + (mz_irem (cf_143_0 v1 v2 N) 110)))) else ((cf_142_0 s0), 0)
def cp_141_19 (s0 : Bool) (v1 : Int32) (v2 : Int32) (N : mz_N) : Prop := ((cf_142_0 s0) = 0 → (cp_143_0 v1 v2 N)) ∧ (¬ ((cf_142_0 s0) = 0) → True)
noncomputable def cf_141_0 (v1 : Int32) (v2 : Int32) (N : mz_N) : (Nat × Int32) := if (cf_104_0 N) = 0 then (if (cf_105_0 v1 0 2) = 0 then (if v2 < 0 then (cf_141_19 false v1 v2 N) else (cf_141_19 true v1 v2 N)) else ((cf_105_0 v1 0 2), 0)) else ((cf_104_0 N), 0)
def cp_141_0 (v1 : Int32) (v2 : Int32) (N : mz_N) : Prop := (cp_104_0 N) ∧ (((cf_104_0 N) = 0 → ((cp_105_0 v1 0 2) ∧ (((cf_105_0 v1 0 2) = 0 → ((v2 < 0 → (cp_141_19 false v1 v2 N)) ∧ (¬ (v2 < 0) → (cp_141_19 true v1 v2 N)))) ∧ (¬ ((cf_105_0 v1 0 2) = 0) → True)))) ∧ (¬ ((cf_104_0 N) = 0) → True))
/-! 140 KeptHouseLaw.conflict (LKeptHouse;II[J)I -/
noncomputable def cf_140_0 (v1 : Int32) (v2 : Int32) (N : mz_N) (t : Nat) : (Int32 × mz_N × Nat) := if (cf_141_0 v1 v2 N).1 = 0 then (0, mz_wL N 342 0 (((cf_141_0 v1 v2 N).2).toInt64), t) else (if (cf_141_0 v1 v2 N).1 = 1 then (1, N, t + 1) else (2, N, t + 1))
def cp_140_0 (v1 : Int32) (v2 : Int32) (N : mz_N) (t : Nat) : Prop := (cp_141_0 v1 v2 N) ∧ ((t < 1000) ∧ (((cf_141_0 v1 v2 N).1 = 0 → True) ∧ (¬ ((cf_141_0 v1 v2 N).1 = 0) → (((cf_141_0 v1 v2 N).1 = 1 → True) ∧ (¬ ((cf_141_0 v1 v2 N).1 = 1) → ((cf_141_0 v1 v2 N).1 = 2))))))
/-! 146 KeptHouse$Plan.decide (IIZ)V -/
noncomputable def cf_146_32 (N : mz_N) : (mz_N) := N
def cp_146_32 (N : mz_N) : Prop := True
noncomputable def cf_146_0 (v1 : Int32) (v2 : Int32) (v3 : Bool) (N : mz_N) : (mz_N) := if v3 = true then (mz_wI N (9 + v1.toNatClampNeg) v2 (mz_gI N 3 v2)) else (cf_146_32 (mz_wI (mz_wI N (9 + v1.toNatClampNeg) v2 (mz_gI N 3 v2)) (5 + v1.toNatClampNeg) v2 (mz_gI (mz_wI N (9 + v1.toNatClampNeg) v2 (mz_gI N 3 v2)) 3 v2)))
def cp_146_0 (v1 : Int32) (v2 : Int32) (v3 : Bool) (N : mz_N) : Prop := (mz_ib v1 3) ∧ ((mz_ib v2 550) ∧ ((mz_ib v2 550) ∧ ((v3 = true → True) ∧ (¬ (v3 = true) → ((mz_ib v1 3) ∧ ((mz_ib v2 550) ∧ ((mz_ib v2 550) ∧ (cp_146_32 (mz_wI (mz_wI N (9 + v1.toNatClampNeg) v2 (mz_gI N 3 v2)) (5 + v1.toNatClampNeg) v2 (mz_gI (mz_wI N (9 + v1.toNatClampNeg) v2 (mz_gI N 3 v2)) 3 v2))))))))))
/-! 145 KeptHouse.settle (IIZ)I -/
noncomputable def cf_145_19 (s0 : Bool) (v1 : Int32) (v2 : Int32) (v3 : Bool) (N : mz_N) : (Nat × Int32 × mz_N) := if (cf_142_0 s0) = 0 then (if (cf_143_0 v1 v2 N) = (-1) then (0, (-1), N) else (0, (cf_112_0 v1 (cf_146_0 v1 (cf_143_0 v1 v2 N) v3 N)), (cf_146_0 v1 (cf_143_0 v1 v2 N) v3 N))) else ((cf_142_0 s0), 0, N)
def cp_145_19 (s0 : Bool) (v1 : Int32) (v2 : Int32) (v3 : Bool) (N : mz_N) : Prop := ((cf_142_0 s0) = 0 → ((cp_143_0 v1 v2 N) ∧ (((cf_143_0 v1 v2 N) = (-1) → True) ∧ (¬ ((cf_143_0 v1 v2 N) = (-1)) → ((cp_146_0 v1 (cf_143_0 v1 v2 N) v3 N) ∧ (cp_112_0 v1 (cf_146_0 v1 (cf_143_0 v1 v2 N) v3 N))))))) ∧ (¬ ((cf_142_0 s0) = 0) → True)
noncomputable def cf_145_0 (v1 : Int32) (v2 : Int32) (v3 : Bool) (N : mz_N) : (Nat × Int32 × mz_N) := if (cf_104_0 N) = 0 then (if (cf_105_0 v1 0 2) = 0 then (if v2 < 0 then (cf_145_19 false v1 v2 v3 N) else (cf_145_19 true v1 v2 v3 N)) else ((cf_105_0 v1 0 2), 0, N)) else ((cf_104_0 N), 0, N)
def cp_145_0 (v1 : Int32) (v2 : Int32) (v3 : Bool) (N : mz_N) : Prop := (cp_104_0 N) ∧ (((cf_104_0 N) = 0 → ((cp_105_0 v1 0 2) ∧ (((cf_105_0 v1 0 2) = 0 → ((v2 < 0 → (cp_145_19 false v1 v2 v3 N)) ∧ (¬ (v2 < 0) → (cp_145_19 true v1 v2 v3 N)))) ∧ (¬ ((cf_105_0 v1 0 2) = 0) → True)))) ∧ (¬ ((cf_104_0 N) = 0) → True))
/-! 144 KeptHouseLaw.settle (LKeptHouse;IIZ[J)I -/
noncomputable def cf_144_23 (N : mz_N) (t : Nat) : (Int32 × mz_N × Nat) := (0, N, t)
def cp_144_23 (N : mz_N) (t : Nat) : Prop := True
noncomputable def cf_144_0 (v1 : Int32) (v2 : Int32) (v3 : Bool) (N : mz_N) (t : Nat) : (Int32 × mz_N × Nat) := if (cf_145_0 v1 v2 v3 N).1 = 0 then (cf_144_23 (mz_wL ((cf_145_0 v1 v2 v3 N).2.2) 342 0 (((cf_145_0 v1 v2 v3 N).2.1).toInt64)) t) else (if (cf_145_0 v1 v2 v3 N).1 = 1 then (1, (cf_145_0 v1 v2 v3 N).2.2, t + 1) else (2, (cf_145_0 v1 v2 v3 N).2.2, t + 1))
def cp_144_0 (v1 : Int32) (v2 : Int32) (v3 : Bool) (N : mz_N) (t : Nat) : Prop := (cp_145_0 v1 v2 v3 N) ∧ ((t < 1000) ∧ (((cf_145_0 v1 v2 v3 N).1 = 0 → (cp_144_23 (mz_wL ((cf_145_0 v1 v2 v3 N).2.2) 342 0 (((cf_145_0 v1 v2 v3 N).2.1).toInt64)) t)) ∧ (¬ ((cf_145_0 v1 v2 v3 N).1 = 0) → (((cf_145_0 v1 v2 v3 N).1 = 1 → True) ∧ (¬ ((cf_145_0 v1 v2 v3 N).1 = 1) → ((cf_145_0 v1 v2 v3 N).1 = 2))))))
/-! 148 KeptHouse.edge (II)I -/
noncomputable def cf_148_0 (v1 : Int32) (v2 : Int32) (N : mz_N) : (Nat × Int32) := if (cf_104_0 N) = 0 then (if (cf_105_0 v1 0 4) = 0 then (if (cf_105_0 v2 0 109) = 0 then (0, (mz_gI N 3 ((v1 * 110) + v2))) else ((cf_105_0 v2 0 109), 0)) else ((cf_105_0 v1 0 4), 0)) else ((cf_104_0 N), 0)
def cp_148_0 (v1 : Int32) (v2 : Int32) (N : mz_N) : Prop := (cp_104_0 N) ∧ (((cf_104_0 N) = 0 → ((cp_105_0 v1 0 4) ∧ (((cf_105_0 v1 0 4) = 0 → ((cp_105_0 v2 0 109) ∧ (((cf_105_0 v2 0 109) = 0 → (mz_ib ((v1 * 110) + v2) 550)) ∧ (¬ ((cf_105_0 v2 0 109) = 0) → True)))) ∧ (¬ ((cf_105_0 v1 0 4) = 0) → True)))) ∧ (¬ ((cf_104_0 N) = 0) → True))
/-! 147 KeptHouseLaw.edge (LKeptHouse;II[J)I -/
noncomputable def cf_147_0 (v1 : Int32) (v2 : Int32) (N : mz_N) (t : Nat) : (Int32 × mz_N × Nat) := if (cf_148_0 v1 v2 N).1 = 0 then (0, mz_wL N 342 0 (((cf_148_0 v1 v2 N).2).toInt64), t) else (if (cf_148_0 v1 v2 N).1 = 1 then (1, N, t + 1) else (2, N, t + 1))
def cp_147_0 (v1 : Int32) (v2 : Int32) (N : mz_N) (t : Nat) : Prop := (cp_148_0 v1 v2 N) ∧ ((t < 1000) ∧ (((cf_148_0 v1 v2 N).1 = 0 → True) ∧ (¬ ((cf_148_0 v1 v2 N).1 = 0) → (((cf_148_0 v1 v2 N).1 = 1 → True) ∧ (¬ ((cf_148_0 v1 v2 N).1 = 1) → ((cf_148_0 v1 v2 N).1 = 2))))))
/-! 150 KeptHouse.draft (III)I -/
noncomputable def cf_150_0 (v1 : Int32) (v2 : Int32) (v3 : Int32) (N : mz_N) : (Nat × Int32) := if (cf_104_0 N) = 0 then (if (cf_105_0 v1 0 2) = 0 then (if (cf_105_0 v2 0 4) = 0 then (if (cf_105_0 v3 0 109) = 0 then (0, (mz_gI N (5 + v1.toNatClampNeg) ((v2 * 110) + v3))) else ((cf_105_0 v3 0 109), 0)) else ((cf_105_0 v2 0 4), 0)) else ((cf_105_0 v1 0 2), 0)) else ((cf_104_0 N), 0)
def cp_150_0 (v1 : Int32) (v2 : Int32) (v3 : Int32) (N : mz_N) : Prop := (cp_104_0 N) ∧ (((cf_104_0 N) = 0 → ((cp_105_0 v1 0 2) ∧ (((cf_105_0 v1 0 2) = 0 → ((cp_105_0 v2 0 4) ∧ (((cf_105_0 v2 0 4) = 0 → ((cp_105_0 v3 0 109) ∧ (((cf_105_0 v3 0 109) = 0 → ((mz_ib v1 3) ∧ (mz_ib ((v2 * 110) + v3) 550))) ∧ (¬ ((cf_105_0 v3 0 109) = 0) → True)))) ∧ (¬ ((cf_105_0 v2 0 4) = 0) → True)))) ∧ (¬ ((cf_105_0 v1 0 2) = 0) → True)))) ∧ (¬ ((cf_104_0 N) = 0) → True))
/-! 149 KeptHouseLaw.draft (LKeptHouse;III[J)I -/
noncomputable def cf_149_0 (v1 : Int32) (v2 : Int32) (v3 : Int32) (N : mz_N) (t : Nat) : (Int32 × mz_N × Nat) := if (cf_150_0 v1 v2 v3 N).1 = 0 then (0, mz_wL N 342 0 (((cf_150_0 v1 v2 v3 N).2).toInt64), t) else (if (cf_150_0 v1 v2 v3 N).1 = 1 then (1, N, t + 1) else (2, N, t + 1))
def cp_149_0 (v1 : Int32) (v2 : Int32) (v3 : Int32) (N : mz_N) (t : Nat) : Prop := (cp_150_0 v1 v2 v3 N) ∧ ((t < 1000) ∧ (((cf_150_0 v1 v2 v3 N).1 = 0 → True) ∧ (¬ ((cf_150_0 v1 v2 v3 N).1 = 0) → (((cf_150_0 v1 v2 v3 N).1 = 1 → True) ∧ (¬ ((cf_150_0 v1 v2 v3 N).1 = 1) → ((cf_150_0 v1 v2 v3 N).1 = 2))))))
/-! 152 KeptHouse.version ()I -/
noncomputable def cf_152_0 (N : mz_N) : (Nat × Int32) := if (cf_104_0 N) = 0 then (0, (N.1 2 3)) else ((cf_104_0 N), 0)
def cp_152_0 (N : mz_N) : Prop := cp_104_0 N
/-! 151 KeptHouseLaw.version (LKeptHouse;[J)I -/
noncomputable def cf_151_0 (N : mz_N) (t : Nat) : (Int32 × mz_N × Nat) := if (cf_152_0 N).1 = 0 then (0, mz_wL N 342 0 (((cf_152_0 N).2).toInt64), t) else (1, N, t + 1)
def cp_151_0 (N : mz_N) (t : Nat) : Prop := (cp_152_0 N) ∧ ((t < 1000) ∧ (((cf_152_0 N).1 = 0 → True) ∧ (¬ ((cf_152_0 N).1 = 0) → ((cf_152_0 N).1 = 2))))
/-! 154 KeptHouse.spaces ()I -/
noncomputable def cf_154_0 (N : mz_N) : (Nat × Int32) := if (cf_104_0 N) = 0 then (0, (N.1 2 7)) else ((cf_104_0 N), 0)
def cp_154_0 (N : mz_N) : Prop := cp_104_0 N
/-! 153 KeptHouseLaw.spaces (LKeptHouse;[J)I -/
noncomputable def cf_153_0 (N : mz_N) (t : Nat) : (Int32 × mz_N × Nat) := if (cf_154_0 N).1 = 0 then (0, mz_wL N 342 0 (((cf_154_0 N).2).toInt64), t) else (1, N, t + 1)
def cp_153_0 (N : mz_N) (t : Nat) : Prop := (cp_154_0 N) ∧ ((t < 1000) ∧ (((cf_154_0 N).1 = 0 → True) ∧ (¬ ((cf_154_0 N).1 = 0) → ((cf_154_0 N).1 = 2))))
/-! 158 KeptHouse$Climate.sumOf (LKeptHouse$Plan;[JI)J -/
noncomputable def cq_158_17 (a2 : Nat) (v3 : Int32) (v6 : Int32) (N : mz_N) (s : Int64 × Int32) : ((Int64 × Int32) ⊕ (Int64)) := if s.2 < (mz_gI N 19 v3) then (.inl ((s.1 + (mz_gL N a2 (mz_gI N 30 (v6 + s.2)))), (s.2 + 1))) else (.inr s.1)
def cd_158_17 (a2 : Nat) (v3 : Int32) (v6 : Int32) (N : mz_N) (s : Int64 × Int32) : Prop := (mz_ib v3 40) ∧ ((s.2 < (mz_gI N 19 v3) → ((mz_ib (v6 + s.2) 240) ∧ (mz_ib (mz_gI N 30 (v6 + s.2)) 240))) ∧ (¬ (s.2 < (mz_gI N 19 v3)) → True))
noncomputable def cf_158_17 (a2 : Nat) (v3 : Int32) (v4 : Int64) (v6 : Int32) (v7 : Int32) (N : mz_N) : (Int64) := mz_run (cq_158_17 a2 v3 v6 N) (v4, v7)
def cp_158_17 (a2 : Nat) (v3 : Int32) (v4 : Int64) (v6 : Int32) (v7 : Int32) (N : mz_N) : Prop := ∃ n, mz_ok (cq_158_17 a2 v3 v6 N) (cd_158_17 a2 v3 v6 N) n (v4, v7)
noncomputable def cf_158_0 (a2 : Nat) (v3 : Int32) (N : mz_N) : (Int64) := (cf_158_17 a2 v3 0 (mz_gI N 28 v3) 0 N)
def cp_158_0 (a2 : Nat) (v3 : Int32) (N : mz_N) : Prop := (mz_ib v3 40) ∧ (cp_158_17 a2 v3 0 (mz_gI N 28 v3) 0 N)
/-! 160 java/lang/Math.floorDiv (JJ)J -/
noncomputable def cf_160_0 (v0 : Int64) (v2 : Int64) : (Int64) := if (v0 ^^^ v2) < 0 then (if ((v0 / v2) * v2) = v0 then (v0 / v2) else ((v0 / v2) - 1)) else (v0 / v2)
def cp_160_0 (v0 : Int64) (v2 : Int64) : Prop := ¬ v2 = 0
/-! 159 KeptHouse$Climate.perCells (JII)J -/
noncomputable def cf_159_0 (v0 : Int64) (v2 : Int32) (v3 : Int32) : (Int64) := if 0 < (v2 * v3) then (cf_160_0 v0 (v2.toInt64 * v3.toInt64)) else 0
def cp_159_0 (v0 : Int64) (v2 : Int32) (v3 : Int32) : Prop := (0 < (v2 * v3) → (cp_160_0 v0 (v2.toInt64 * v3.toInt64))) ∧ (¬ (0 < (v2 * v3)) → True)
/-! 157 KeptHouse$Climate.warmthOf (LKeptHouse$Plan;I)J -/
noncomputable def cf_157_0 (v2 : Int32) (N : mz_N) : (Int64) := (cf_159_0 (cf_158_0 68 v2 N) 100 (mz_gI N 19 v2))
def cp_157_0 (v2 : Int32) (N : mz_N) : Prop := (cp_158_0 68 v2 N) ∧ ((mz_ib v2 40) ∧ (cp_159_0 (cf_158_0 68 v2 N) 100 (mz_gI N 19 v2)))
/-! 156 KeptHouse.space (II)I -/
noncomputable def cf_156_0 (v1 : Int32) (v2 : Int32) (N : mz_N) : (Nat × Int32) := if (cf_104_0 N) = 0 then (if (cf_105_0 v1 0 ((N.1 2 7) - 1)) = 0 then (if (cf_105_0 v2 0 6) = 0 then (if v2 = 6 then (0, ((cf_157_0 v1 N).toInt32)) else (0, (mz_gI N (17 + v2.toNatClampNeg) v1))) else ((cf_105_0 v2 0 6), 0)) else ((cf_105_0 v1 0 ((N.1 2 7) - 1)), 0)) else ((cf_104_0 N), 0)
def cp_156_0 (v1 : Int32) (v2 : Int32) (N : mz_N) : Prop := (cp_104_0 N) ∧ (((cf_104_0 N) = 0 → ((cp_105_0 v1 0 ((N.1 2 7) - 1)) ∧ (((cf_105_0 v1 0 ((N.1 2 7) - 1)) = 0 → ((cp_105_0 v2 0 6) ∧ (((cf_105_0 v2 0 6) = 0 → ((v2 = 6 → (cp_157_0 v1 N)) ∧ (¬ (v2 = 6) → ((mz_ib v2 13) ∧ (mz_ib v1 40))))) ∧ (¬ ((cf_105_0 v2 0 6) = 0) → True)))) ∧ (¬ ((cf_105_0 v1 0 ((N.1 2 7) - 1)) = 0) → True)))) ∧ (¬ ((cf_104_0 N) = 0) → True))
/-! 155 KeptHouseLaw.space (LKeptHouse;II[J)I -/
noncomputable def cf_155_0 (v1 : Int32) (v2 : Int32) (N : mz_N) (t : Nat) : (Int32 × mz_N × Nat) := if (cf_156_0 v1 v2 N).1 = 0 then (0, mz_wL N 342 0 (((cf_156_0 v1 v2 N).2).toInt64), t) else (if (cf_156_0 v1 v2 N).1 = 1 then (1, N, t + 1) else (2, N, t + 1))
def cp_155_0 (v1 : Int32) (v2 : Int32) (N : mz_N) (t : Nat) : Prop := (cp_156_0 v1 v2 N) ∧ ((t < 1000) ∧ (((cf_156_0 v1 v2 N).1 = 0 → True) ∧ (¬ ((cf_156_0 v1 v2 N).1 = 0) → (((cf_156_0 v1 v2 N).1 = 1 → True) ∧ (¬ ((cf_156_0 v1 v2 N).1 = 1) → ((cf_156_0 v1 v2 N).1 = 2))))))
/-! 162 KeptHouse.spaceAt (II)I -/
noncomputable def cf_162_0 (v1 : Int32) (v2 : Int32) (N : mz_N) : (Nat × Int32) := if (cf_104_0 N) = 0 then (if (cf_105_0 v1 0 4) = 0 then (if (cf_105_0 v2 0 47) = 0 then (0, (mz_gI N 15 ((v1 * 48) + v2))) else ((cf_105_0 v2 0 47), 0)) else ((cf_105_0 v1 0 4), 0)) else ((cf_104_0 N), 0)
def cp_162_0 (v1 : Int32) (v2 : Int32) (N : mz_N) : Prop := (cp_104_0 N) ∧ (((cf_104_0 N) = 0 → ((cp_105_0 v1 0 4) ∧ (((cf_105_0 v1 0 4) = 0 → ((cp_105_0 v2 0 47) ∧ (((cf_105_0 v2 0 47) = 0 → (mz_ib ((v1 * 48) + v2) 240)) ∧ (¬ ((cf_105_0 v2 0 47) = 0) → True)))) ∧ (¬ ((cf_105_0 v1 0 4) = 0) → True)))) ∧ (¬ ((cf_104_0 N) = 0) → True))
/-! 161 KeptHouseLaw.spaceAt (LKeptHouse;II[J)I -/
noncomputable def cf_161_0 (v1 : Int32) (v2 : Int32) (N : mz_N) (t : Nat) : (Int32 × mz_N × Nat) := if (cf_162_0 v1 v2 N).1 = 0 then (0, mz_wL N 342 0 (((cf_162_0 v1 v2 N).2).toInt64), t) else (if (cf_162_0 v1 v2 N).1 = 1 then (1, N, t + 1) else (2, N, t + 1))
def cp_161_0 (v1 : Int32) (v2 : Int32) (N : mz_N) (t : Nat) : Prop := (cp_162_0 v1 v2 N) ∧ ((t < 1000) ∧ (((cf_162_0 v1 v2 N).1 = 0 → True) ∧ (¬ ((cf_162_0 v1 v2 N).1 = 0) → (((cf_162_0 v1 v2 N).1 = 1 → True) ∧ (¬ ((cf_162_0 v1 v2 N).1 = 1) → ((cf_162_0 v1 v2 N).1 = 2))))))
/-! 166 KeptHouse$Plan.areBoth (IIII)Z -/
noncomputable def cf_166_10 (v0 : Int32) (v1 : Int32) (v2 : Int32) (v3 : Int32) : (Bool) := if v0 = v3 then (if v1 = v2 then true else false) else false
def cp_166_10 (v0 : Int32) (v1 : Int32) (v2 : Int32) (v3 : Int32) : Prop := True
noncomputable def cf_166_0 (v0 : Int32) (v1 : Int32) (v2 : Int32) (v3 : Int32) : (Bool) := if v0 = v2 then (if v1 = v3 then true else (cf_166_10 v0 v1 v2 v3)) else (cf_166_10 v0 v1 v2 v3)
def cp_166_0 (v0 : Int32) (v1 : Int32) (v2 : Int32) (v3 : Int32) : Prop := (v0 = v2 → ((v1 = v3 → True) ∧ (¬ (v1 = v3) → (cp_166_10 v0 v1 v2 v3)))) ∧ (¬ (v0 = v2) → (cp_166_10 v0 v1 v2 v3))
/-! 165 KeptHouse$Plan.countStacked (II)I -/
noncomputable def cf_165_44 (v1 : Int32) (v2 : Int32) (v3 : Int32) (v4 : Int32) (N : mz_N) : ((Int32 × Int32) ⊕ (Int32)) := (.inl (v3, (v4 + 1)))
def cp_165_44 (v1 : Int32) (v2 : Int32) (v3 : Int32) (v4 : Int32) (N : mz_N) : Prop := True
noncomputable def cq_165_5 (v1 : Int32) (v2 : Int32) (N : mz_N) (s : Int32 × Int32) : ((Int32 × Int32) ⊕ (Int32)) := if (s.2 + 48) < 240 then (if (cf_166_0 (mz_gI N 15 s.2) (mz_gI N 15 (s.2 + 48)) v1 v2) = true then (cf_165_44 v1 v2 (s.1 + 1) s.2 N) else (cf_165_44 v1 v2 s.1 s.2 N)) else (.inr s.1)
def cd_165_5 (v1 : Int32) (v2 : Int32) (N : mz_N) (s : Int32 × Int32) : Prop := ((s.2 + 48) < 240 → ((mz_ib s.2 240) ∧ ((mz_ib (s.2 + 48) 240) ∧ ((cp_166_0 (mz_gI N 15 s.2) (mz_gI N 15 (s.2 + 48)) v1 v2) ∧ (((cf_166_0 (mz_gI N 15 s.2) (mz_gI N 15 (s.2 + 48)) v1 v2) = true → (cp_165_44 v1 v2 (s.1 + 1) s.2 N)) ∧ (¬ ((cf_166_0 (mz_gI N 15 s.2) (mz_gI N 15 (s.2 + 48)) v1 v2) = true) → (cp_165_44 v1 v2 s.1 s.2 N))))))) ∧ (¬ ((s.2 + 48) < 240) → True)
noncomputable def cf_165_5 (v1 : Int32) (v2 : Int32) (v3 : Int32) (v4 : Int32) (N : mz_N) : (Int32) := mz_run (cq_165_5 v1 v2 N) (v3, v4)
def cp_165_5 (v1 : Int32) (v2 : Int32) (v3 : Int32) (v4 : Int32) (N : mz_N) : Prop := ∃ n, mz_ok (cq_165_5 v1 v2 N) (cd_165_5 v1 v2 N) n (v3, v4)
noncomputable def cf_165_0 (v1 : Int32) (v2 : Int32) (N : mz_N) : (Int32) := (cf_165_5 v1 v2 0 0 N)
def cp_165_0 (v1 : Int32) (v2 : Int32) (N : mz_N) : Prop := cp_165_5 v1 v2 0 0 N
/-! 167 KeptHouse$Plan.countWalls (III)I -/
noncomputable def cf_167_88 (v1 : Int32) (v2 : Int32) (v3 : Int32) (v4 : Int32) (v5 : Int32) (N : mz_N) : ((Int32 × Int32) ⊕ (Int32)) := (.inl (v4, (v5 + 1)))
def cp_167_88 (v1 : Int32) (v2 : Int32) (v3 : Int32) (v4 : Int32) (v5 : Int32) (N : mz_N) : Prop := True
noncomputable def cq_167_6 (v1 : Int32) (v2 : Int32) (v3 : Int32) (N : mz_N) (s : Int32 × Int32) : ((Int32 × Int32) ⊕ (Int32)) := if s.2 < 550 then (if (mz_gI N 3 s.2) = v3 then (if (cf_21_0 (mz_irem s.2 110)) = (-1) then (if (cf_166_0 (mz_gI N 15 (((s.2 / 110) * 48) + (cf_84_0 (mz_irem s.2 110)))) (mz_gI N 15 (((s.2 / 110) * 48) + (cf_85_0 (mz_irem s.2 110)))) v1 v2) = true then (cf_167_88 v1 v2 v3 (s.1 + 1) s.2 N) else (cf_167_88 v1 v2 v3 s.1 s.2 N)) else (cf_167_88 v1 v2 v3 s.1 s.2 N)) else (cf_167_88 v1 v2 v3 s.1 s.2 N)) else (.inr s.1)
def cd_167_6 (v1 : Int32) (v2 : Int32) (v3 : Int32) (N : mz_N) (s : Int32 × Int32) : Prop := (s.2 < 550 → ((mz_ib s.2 550) ∧ (((mz_gI N 3 s.2) = v3 → (((cf_21_0 (mz_irem s.2 110)) = (-1) → ((mz_ib (((s.2 / 110) * 48) + (cf_84_0 (mz_irem s.2 110))) 240) ∧ ((mz_ib (((s.2 / 110) * 48) + (cf_85_0 (mz_irem s.2 110))) 240) ∧ ((cp_166_0 (mz_gI N 15 (((s.2 / 110) * 48) + (cf_84_0 (mz_irem s.2 110)))) (mz_gI N 15 (((s.2 / 110) * 48) + (cf_85_0 (mz_irem s.2 110)))) v1 v2) ∧ (((cf_166_0 (mz_gI N 15 (((s.2 / 110) * 48) + (cf_84_0 (mz_irem s.2 110)))) (mz_gI N 15 (((s.2 / 110) * 48) + (cf_85_0 (mz_irem s.2 110)))) v1 v2) = true → (cp_167_88 v1 v2 v3 (s.1 + 1) s.2 N)) ∧ (¬ ((cf_166_0 (mz_gI N 15 (((s.2 / 110) * 48) + (cf_84_0 (mz_irem s.2 110)))) (mz_gI N 15 (((s.2 / 110) * 48) + (cf_85_0 (mz_irem s.2 110)))) v1 v2) = true) → (cp_167_88 v1 v2 v3 s.1 s.2 N))))))) ∧ (¬ ((cf_21_0 (mz_irem s.2 110)) = (-1)) → (cp_167_88 v1 v2 v3 s.1 s.2 N)))) ∧ (¬ ((mz_gI N 3 s.2) = v3) → (cp_167_88 v1 v2 v3 s.1 s.2 N))))) ∧ (¬ (s.2 < 550) → True)
noncomputable def cf_167_6 (v1 : Int32) (v2 : Int32) (v3 : Int32) (v4 : Int32) (v5 : Int32) (N : mz_N) : (Int32) := mz_run (cq_167_6 v1 v2 v3 N) (v4, v5)
def cp_167_6 (v1 : Int32) (v2 : Int32) (v3 : Int32) (v4 : Int32) (v5 : Int32) (N : mz_N) : Prop := ∃ n, mz_ok (cq_167_6 v1 v2 v3 N) (cd_167_6 v1 v2 v3 N) n (v4, v5)
noncomputable def cf_167_0 (v1 : Int32) (v2 : Int32) (v3 : Int32) (N : mz_N) : (Int32) := (cf_167_6 v1 v2 v3 0 0 N)
def cp_167_0 (v1 : Int32) (v2 : Int32) (v3 : Int32) (N : mz_N) : Prop := cp_167_6 v1 v2 v3 0 0 N
/-! 164 KeptHouse.between (III)I -/
noncomputable def cf_164_0 (v1 : Int32) (v2 : Int32) (v3 : Int32) (N : mz_N) : (Nat × Int32) := if (cf_104_0 N) = 0 then (if (cf_105_0 v1 0 ((N.1 2 7) - 1)) = 0 then (if (cf_105_0 v2 0 ((N.1 2 7) - 1)) = 0 then (if (cf_105_0 v3 0 3) = 0 then (if v1 = v2 then (0, 0) else (if v3 = 0 then (0, (cf_165_0 v1 v2 N)) else (0, (cf_167_0 v1 v2 v3 N)))) else ((cf_105_0 v3 0 3), 0)) else ((cf_105_0 v2 0 ((N.1 2 7) - 1)), 0)) else ((cf_105_0 v1 0 ((N.1 2 7) - 1)), 0)) else ((cf_104_0 N), 0)
def cp_164_0 (v1 : Int32) (v2 : Int32) (v3 : Int32) (N : mz_N) : Prop := (cp_104_0 N) ∧ (((cf_104_0 N) = 0 → ((cp_105_0 v1 0 ((N.1 2 7) - 1)) ∧ (((cf_105_0 v1 0 ((N.1 2 7) - 1)) = 0 → ((cp_105_0 v2 0 ((N.1 2 7) - 1)) ∧ (((cf_105_0 v2 0 ((N.1 2 7) - 1)) = 0 → ((cp_105_0 v3 0 3) ∧ (((cf_105_0 v3 0 3) = 0 → ((v1 = v2 → True) ∧ (¬ (v1 = v2) → ((v3 = 0 → (cp_165_0 v1 v2 N)) ∧ (¬ (v3 = 0) → (cp_167_0 v1 v2 v3 N)))))) ∧ (¬ ((cf_105_0 v3 0 3) = 0) → True)))) ∧ (¬ ((cf_105_0 v2 0 ((N.1 2 7) - 1)) = 0) → True)))) ∧ (¬ ((cf_105_0 v1 0 ((N.1 2 7) - 1)) = 0) → True)))) ∧ (¬ ((cf_104_0 N) = 0) → True))
/-! 163 KeptHouseLaw.between (LKeptHouse;III[J)I -/
noncomputable def cf_163_0 (v1 : Int32) (v2 : Int32) (v3 : Int32) (N : mz_N) (t : Nat) : (Int32 × mz_N × Nat) := if (cf_164_0 v1 v2 v3 N).1 = 0 then (0, mz_wL N 342 0 (((cf_164_0 v1 v2 v3 N).2).toInt64), t) else (if (cf_164_0 v1 v2 v3 N).1 = 1 then (1, N, t + 1) else (2, N, t + 1))
def cp_163_0 (v1 : Int32) (v2 : Int32) (v3 : Int32) (N : mz_N) (t : Nat) : Prop := (cp_164_0 v1 v2 v3 N) ∧ ((t < 1000) ∧ (((cf_164_0 v1 v2 v3 N).1 = 0 → True) ∧ (¬ ((cf_164_0 v1 v2 v3 N).1 = 0) → (((cf_164_0 v1 v2 v3 N).1 = 1 → True) ∧ (¬ ((cf_164_0 v1 v2 v3 N).1 = 1) → ((cf_164_0 v1 v2 v3 N).1 = 2))))))
/-! 170 KeptHouse$Plan.isFlat (I)Z -/
noncomputable def cf_170_10 (v0 : Int32) : (Bool) := if v0 = 15 then true else false
def cp_170_10 (v0 : Int32) : Prop := True
noncomputable def cf_170_0 (v0 : Int32) : (Bool) := if v0 < 0 then (cf_170_10 v0) else (if v0 < 10 then true else (cf_170_10 v0))
def cp_170_0 (v0 : Int32) : Prop := (v0 < 0 → (cp_170_10 v0)) ∧ (¬ (v0 < 0) → ((v0 < 10 → True) ∧ (¬ (v0 < 10) → (cp_170_10 v0))))
/-! 171 KeptHouse.keep (III)I -/
noncomputable def cf_171_0 (v1 : Int32) (v2 : Int32) (v3 : Int32) (N : mz_N) (b : Bool) : (Int32 × mz_N) := if ((cf_121_0 (cf_119_0 v1 v2 (cf_117_0 N)) b).1) = true then (v3, (cf_121_0 (cf_119_0 v1 v2 (cf_117_0 N)) b).2) else ((-1001), (cf_121_0 (cf_119_0 v1 v2 (cf_117_0 N)) b).2)
def cp_171_0 (v1 : Int32) (v2 : Int32) (v3 : Int32) (N : mz_N) (b : Bool) : Prop := (cp_119_0 v1 v2 (cf_117_0 N)) ∧ (cp_121_0 (cf_119_0 v1 v2 (cf_117_0 N)) b)
/-! 169 KeptHouse.flat (III)I -/
noncomputable def cf_169_0 (v1 : Int32) (v2 : Int32) (v3 : Int32) (N : mz_N) (b : Bool) : (Nat × Int32 × mz_N) := if (cf_104_0 N) = 0 then (if (cf_105_0 v1 0 4) = 0 then (if (cf_105_0 v2 0 47) = 0 then (if (cf_142_0 (cf_170_0 v3)) = 0 then (0, ((cf_171_0 2 v1 (mz_gI N 37 ((v1 * 48) + v2)) (cf_77_0 (mz_wI N 37 ((v1 * 48) + v2) v3)) b).1), (cf_171_0 2 v1 (mz_gI N 37 ((v1 * 48) + v2)) (cf_77_0 (mz_wI N 37 ((v1 * 48) + v2) v3)) b).2) else ((cf_142_0 (cf_170_0 v3)), 0, N)) else ((cf_105_0 v2 0 47), 0, N)) else ((cf_105_0 v1 0 4), 0, N)) else ((cf_104_0 N), 0, N)
def cp_169_0 (v1 : Int32) (v2 : Int32) (v3 : Int32) (N : mz_N) (b : Bool) : Prop := (cp_104_0 N) ∧ (((cf_104_0 N) = 0 → ((cp_105_0 v1 0 4) ∧ (((cf_105_0 v1 0 4) = 0 → ((cp_105_0 v2 0 47) ∧ (((cf_105_0 v2 0 47) = 0 → ((cp_170_0 v3) ∧ (((cf_142_0 (cf_170_0 v3)) = 0 → ((mz_ib ((v1 * 48) + v2) 240) ∧ ((mz_ib ((v1 * 48) + v2) 240) ∧ ((cp_77_0 (mz_wI N 37 ((v1 * 48) + v2) v3)) ∧ (cp_171_0 2 v1 (mz_gI N 37 ((v1 * 48) + v2)) (cf_77_0 (mz_wI N 37 ((v1 * 48) + v2) v3)) b))))) ∧ (¬ ((cf_142_0 (cf_170_0 v3)) = 0) → True)))) ∧ (¬ ((cf_105_0 v2 0 47) = 0) → True)))) ∧ (¬ ((cf_105_0 v1 0 4) = 0) → True)))) ∧ (¬ ((cf_104_0 N) = 0) → True))
/-! 168 KeptHouseLaw.flat (LKeptHouse;III[J)I -/
noncomputable def cf_168_23 (N : mz_N) (b : Bool) (t : Nat) : (Int32 × mz_N × Nat) := (0, N, t)
def cp_168_23 (N : mz_N) (b : Bool) (t : Nat) : Prop := True
noncomputable def cf_168_0 (v1 : Int32) (v2 : Int32) (v3 : Int32) (N : mz_N) (b : Bool) (t : Nat) : (Int32 × mz_N × Nat) := if (cf_169_0 v1 v2 v3 N b).1 = 0 then (cf_168_23 (mz_wL ((cf_169_0 v1 v2 v3 N b).2.2) 342 0 (((cf_169_0 v1 v2 v3 N b).2.1).toInt64)) b t) else (if (cf_169_0 v1 v2 v3 N b).1 = 1 then (1, (cf_169_0 v1 v2 v3 N b).2.2, t + 1) else (2, (cf_169_0 v1 v2 v3 N b).2.2, t + 1))
def cp_168_0 (v1 : Int32) (v2 : Int32) (v3 : Int32) (N : mz_N) (b : Bool) (t : Nat) : Prop := (cp_169_0 v1 v2 v3 N b) ∧ ((t < 1000) ∧ (((cf_169_0 v1 v2 v3 N b).1 = 0 → (cp_168_23 (mz_wL ((cf_169_0 v1 v2 v3 N b).2.2) 342 0 (((cf_169_0 v1 v2 v3 N b).2.1).toInt64)) b t)) ∧ (¬ ((cf_169_0 v1 v2 v3 N b).1 = 0) → (((cf_169_0 v1 v2 v3 N b).1 = 1 → True) ∧ (¬ ((cf_169_0 v1 v2 v3 N b).1 = 1) → ((cf_169_0 v1 v2 v3 N b).1 = 2))))))
/-! 173 KeptHouse.people (III)I -/
noncomputable def cf_173_0 (v1 : Int32) (v2 : Int32) (v3 : Int32) (N : mz_N) (b : Bool) : (Nat × Int32 × mz_N) := if (cf_104_0 N) = 0 then (if (cf_105_0 v1 0 9) = 0 then (if (cf_105_0 v2 0 23) = 0 then (if (cf_105_0 v3 0 20) = 0 then (0, ((cf_171_0 3 v1 (mz_gI N 40 ((v1 * 24) + v2)) (mz_wI N 40 ((v1 * 24) + v2) v3) b).1), (cf_171_0 3 v1 (mz_gI N 40 ((v1 * 24) + v2)) (mz_wI N 40 ((v1 * 24) + v2) v3) b).2) else ((cf_105_0 v3 0 20), 0, N)) else ((cf_105_0 v2 0 23), 0, N)) else ((cf_105_0 v1 0 9), 0, N)) else ((cf_104_0 N), 0, N)
def cp_173_0 (v1 : Int32) (v2 : Int32) (v3 : Int32) (N : mz_N) (b : Bool) : Prop := (cp_104_0 N) ∧ (((cf_104_0 N) = 0 → ((cp_105_0 v1 0 9) ∧ (((cf_105_0 v1 0 9) = 0 → ((cp_105_0 v2 0 23) ∧ (((cf_105_0 v2 0 23) = 0 → ((cp_105_0 v3 0 20) ∧ (((cf_105_0 v3 0 20) = 0 → ((mz_ib ((v1 * 24) + v2) 240) ∧ ((mz_ib ((v1 * 24) + v2) 240) ∧ (cp_171_0 3 v1 (mz_gI N 40 ((v1 * 24) + v2)) (mz_wI N 40 ((v1 * 24) + v2) v3) b)))) ∧ (¬ ((cf_105_0 v3 0 20) = 0) → True)))) ∧ (¬ ((cf_105_0 v2 0 23) = 0) → True)))) ∧ (¬ ((cf_105_0 v1 0 9) = 0) → True)))) ∧ (¬ ((cf_104_0 N) = 0) → True))
/-! 172 KeptHouseLaw.people (LKeptHouse;III[J)I -/
noncomputable def cf_172_23 (N : mz_N) (b : Bool) (t : Nat) : (Int32 × mz_N × Nat) := (0, N, t)
def cp_172_23 (N : mz_N) (b : Bool) (t : Nat) : Prop := True
noncomputable def cf_172_0 (v1 : Int32) (v2 : Int32) (v3 : Int32) (N : mz_N) (b : Bool) (t : Nat) : (Int32 × mz_N × Nat) := if (cf_173_0 v1 v2 v3 N b).1 = 0 then (cf_172_23 (mz_wL ((cf_173_0 v1 v2 v3 N b).2.2) 342 0 (((cf_173_0 v1 v2 v3 N b).2.1).toInt64)) b t) else (if (cf_173_0 v1 v2 v3 N b).1 = 1 then (1, (cf_173_0 v1 v2 v3 N b).2.2, t + 1) else (2, (cf_173_0 v1 v2 v3 N b).2.2, t + 1))
def cp_172_0 (v1 : Int32) (v2 : Int32) (v3 : Int32) (N : mz_N) (b : Bool) (t : Nat) : Prop := (cp_173_0 v1 v2 v3 N b) ∧ ((t < 1000) ∧ (((cf_173_0 v1 v2 v3 N b).1 = 0 → (cp_172_23 (mz_wL ((cf_173_0 v1 v2 v3 N b).2.2) 342 0 (((cf_173_0 v1 v2 v3 N b).2.1).toInt64)) b t)) ∧ (¬ ((cf_173_0 v1 v2 v3 N b).1 = 0) → (((cf_173_0 v1 v2 v3 N b).1 = 1 → True) ∧ (¬ ((cf_173_0 v1 v2 v3 N b).1 = 1) → ((cf_173_0 v1 v2 v3 N b).1 = 2))))))
/-! 175 KeptHouse.weather (II)I -/
noncomputable def cf_175_0 (v1 : Int32) (v2 : Int32) (N : mz_N) (b : Bool) : (Nat × Int32 × mz_N) := if (cf_104_0 N) = 0 then (if (cf_105_0 v1 0 23) = 0 then (if (cf_105_0 v2 (-400) 500) = 0 then (0, ((cf_171_0 4 (v1 / 12) (mz_gI N 66 v1) (mz_wI N 66 v1 v2) b).1), (cf_171_0 4 (v1 / 12) (mz_gI N 66 v1) (mz_wI N 66 v1 v2) b).2) else ((cf_105_0 v2 (-400) 500), 0, N)) else ((cf_105_0 v1 0 23), 0, N)) else ((cf_104_0 N), 0, N)
def cp_175_0 (v1 : Int32) (v2 : Int32) (N : mz_N) (b : Bool) : Prop := (cp_104_0 N) ∧ (((cf_104_0 N) = 0 → ((cp_105_0 v1 0 23) ∧ (((cf_105_0 v1 0 23) = 0 → ((cp_105_0 v2 (-400) 500) ∧ (((cf_105_0 v2 (-400) 500) = 0 → ((mz_ib v1 24) ∧ ((mz_ib v1 24) ∧ (cp_171_0 4 (v1 / 12) (mz_gI N 66 v1) (mz_wI N 66 v1 v2) b)))) ∧ (¬ ((cf_105_0 v2 (-400) 500) = 0) → True)))) ∧ (¬ ((cf_105_0 v1 0 23) = 0) → True)))) ∧ (¬ ((cf_104_0 N) = 0) → True))
/-! 174 KeptHouseLaw.weather (LKeptHouse;II[J)I -/
noncomputable def cf_174_21 (N : mz_N) (b : Bool) (t : Nat) : (Int32 × mz_N × Nat) := (0, N, t)
def cp_174_21 (N : mz_N) (b : Bool) (t : Nat) : Prop := True
noncomputable def cf_174_0 (v1 : Int32) (v2 : Int32) (N : mz_N) (b : Bool) (t : Nat) : (Int32 × mz_N × Nat) := if (cf_175_0 v1 v2 N b).1 = 0 then (cf_174_21 (mz_wL ((cf_175_0 v1 v2 N b).2.2) 342 0 (((cf_175_0 v1 v2 N b).2.1).toInt64)) b t) else (if (cf_175_0 v1 v2 N b).1 = 1 then (1, (cf_175_0 v1 v2 N b).2.2, t + 1) else (2, (cf_175_0 v1 v2 N b).2.2, t + 1))
def cp_174_0 (v1 : Int32) (v2 : Int32) (N : mz_N) (b : Bool) (t : Nat) : Prop := (cp_175_0 v1 v2 N b) ∧ ((t < 1000) ∧ (((cf_175_0 v1 v2 N b).1 = 0 → (cp_174_21 (mz_wL ((cf_175_0 v1 v2 N b).2.2) 342 0 (((cf_175_0 v1 v2 N b).2.1).toInt64)) b t)) ∧ (¬ ((cf_175_0 v1 v2 N b).1 = 0) → (((cf_175_0 v1 v2 N b).1 = 1 → True) ∧ (¬ ((cf_175_0 v1 v2 N b).1 = 1) → ((cf_175_0 v1 v2 N b).1 = 2))))))
/-! 177 KeptHouse.sun (III)I -/
noncomputable def cf_177_0 (v1 : Int32) (v2 : Int32) (v3 : Int32) (N : mz_N) (b : Bool) : (Nat × Int32 × mz_N) := if (cf_104_0 N) = 0 then (if (cf_105_0 v1 0 3) = 0 then (if (cf_105_0 v2 0 23) = 0 then (if (cf_105_0 v3 0 200) = 0 then (0, ((cf_171_0 5 v1 (mz_gI N 67 ((v1 * 24) + v2)) (mz_wI N 67 ((v1 * 24) + v2) v3) b).1), (cf_171_0 5 v1 (mz_gI N 67 ((v1 * 24) + v2)) (mz_wI N 67 ((v1 * 24) + v2) v3) b).2) else ((cf_105_0 v3 0 200), 0, N)) else ((cf_105_0 v2 0 23), 0, N)) else ((cf_105_0 v1 0 3), 0, N)) else ((cf_104_0 N), 0, N)
def cp_177_0 (v1 : Int32) (v2 : Int32) (v3 : Int32) (N : mz_N) (b : Bool) : Prop := (cp_104_0 N) ∧ (((cf_104_0 N) = 0 → ((cp_105_0 v1 0 3) ∧ (((cf_105_0 v1 0 3) = 0 → ((cp_105_0 v2 0 23) ∧ (((cf_105_0 v2 0 23) = 0 → ((cp_105_0 v3 0 200) ∧ (((cf_105_0 v3 0 200) = 0 → ((mz_ib ((v1 * 24) + v2) 96) ∧ ((mz_ib ((v1 * 24) + v2) 96) ∧ (cp_171_0 5 v1 (mz_gI N 67 ((v1 * 24) + v2)) (mz_wI N 67 ((v1 * 24) + v2) v3) b)))) ∧ (¬ ((cf_105_0 v3 0 200) = 0) → True)))) ∧ (¬ ((cf_105_0 v2 0 23) = 0) → True)))) ∧ (¬ ((cf_105_0 v1 0 3) = 0) → True)))) ∧ (¬ ((cf_104_0 N) = 0) → True))
/-! 176 KeptHouseLaw.sun (LKeptHouse;III[J)I -/
noncomputable def cf_176_23 (N : mz_N) (b : Bool) (t : Nat) : (Int32 × mz_N × Nat) := (0, N, t)
def cp_176_23 (N : mz_N) (b : Bool) (t : Nat) : Prop := True
noncomputable def cf_176_0 (v1 : Int32) (v2 : Int32) (v3 : Int32) (N : mz_N) (b : Bool) (t : Nat) : (Int32 × mz_N × Nat) := if (cf_177_0 v1 v2 v3 N b).1 = 0 then (cf_176_23 (mz_wL ((cf_177_0 v1 v2 v3 N b).2.2) 342 0 (((cf_177_0 v1 v2 v3 N b).2.1).toInt64)) b t) else (if (cf_177_0 v1 v2 v3 N b).1 = 1 then (1, (cf_177_0 v1 v2 v3 N b).2.2, t + 1) else (2, (cf_177_0 v1 v2 v3 N b).2.2, t + 1))
def cp_176_0 (v1 : Int32) (v2 : Int32) (v3 : Int32) (N : mz_N) (b : Bool) (t : Nat) : Prop := (cp_177_0 v1 v2 v3 N b) ∧ ((t < 1000) ∧ (((cf_177_0 v1 v2 v3 N b).1 = 0 → (cp_176_23 (mz_wL ((cf_177_0 v1 v2 v3 N b).2.2) 342 0 (((cf_177_0 v1 v2 v3 N b).2.1).toInt64)) b t)) ∧ (¬ ((cf_177_0 v1 v2 v3 N b).1 = 0) → (((cf_177_0 v1 v2 v3 N b).1 = 1 → True) ∧ (¬ ((cf_177_0 v1 v2 v3 N b).1 = 1) → ((cf_177_0 v1 v2 v3 N b).1 = 2))))))
/-! 179 KeptHouse.rate (III)I -/
noncomputable def cf_179_105 (N : mz_N) (b : Bool) : (Nat × Int32 × mz_N) := (0, (-1001), N)
def cp_179_105 (N : mz_N) (b : Bool) : Prop := True
noncomputable def cf_179_0 (v1 : Int32) (v2 : Int32) (v3 : Int32) (N : mz_N) (b : Bool) : (Nat × Int32 × mz_N) := if (cf_104_0 N) = 0 then (if (cf_105_0 v1 0 10) = 0 then (if (cf_105_0 v2 1 500) = 0 then (if (cf_105_0 v3 0 9) = 0 then (if ((cf_121_0 (cf_119_0 7 1 (cf_119_0 7 0 (cf_117_0 (mz_wI (mz_wI N 62 v1 v2) 63 v1 v3)))) b).1) = true then (0, (mz_gI N 62 v1), (cf_121_0 (cf_119_0 7 1 (cf_119_0 7 0 (cf_117_0 (mz_wI (mz_wI N 62 v1 v2) 63 v1 v3)))) b).2) else (cf_179_105 ((cf_121_0 (cf_119_0 7 1 (cf_119_0 7 0 (cf_117_0 (mz_wI (mz_wI N 62 v1 v2) 63 v1 v3)))) b).2) b)) else ((cf_105_0 v3 0 9), 0, N)) else ((cf_105_0 v2 1 500), 0, N)) else ((cf_105_0 v1 0 10), 0, N)) else ((cf_104_0 N), 0, N)
def cp_179_0 (v1 : Int32) (v2 : Int32) (v3 : Int32) (N : mz_N) (b : Bool) : Prop := (cp_104_0 N) ∧ (((cf_104_0 N) = 0 → ((cp_105_0 v1 0 10) ∧ (((cf_105_0 v1 0 10) = 0 → ((cp_105_0 v2 1 500) ∧ (((cf_105_0 v2 1 500) = 0 → ((cp_105_0 v3 0 9) ∧ (((cf_105_0 v3 0 9) = 0 → ((mz_ib v1 11) ∧ ((mz_ib v1 11) ∧ ((mz_ib v1 11) ∧ ((cp_119_0 7 0 (cf_117_0 (mz_wI (mz_wI N 62 v1 v2) 63 v1 v3))) ∧ ((cp_119_0 7 1 (cf_119_0 7 0 (cf_117_0 (mz_wI (mz_wI N 62 v1 v2) 63 v1 v3)))) ∧ ((cp_121_0 (cf_119_0 7 1 (cf_119_0 7 0 (cf_117_0 (mz_wI (mz_wI N 62 v1 v2) 63 v1 v3)))) b) ∧ ((((cf_121_0 (cf_119_0 7 1 (cf_119_0 7 0 (cf_117_0 (mz_wI (mz_wI N 62 v1 v2) 63 v1 v3)))) b).1) = true → True) ∧ (¬ (((cf_121_0 (cf_119_0 7 1 (cf_119_0 7 0 (cf_117_0 (mz_wI (mz_wI N 62 v1 v2) 63 v1 v3)))) b).1) = true) → (cp_179_105 ((cf_121_0 (cf_119_0 7 1 (cf_119_0 7 0 (cf_117_0 (mz_wI (mz_wI N 62 v1 v2) 63 v1 v3)))) b).2) b)))))))))) ∧ (¬ ((cf_105_0 v3 0 9) = 0) → True)))) ∧ (¬ ((cf_105_0 v2 1 500) = 0) → True)))) ∧ (¬ ((cf_105_0 v1 0 10) = 0) → True)))) ∧ (¬ ((cf_104_0 N) = 0) → True))
/-! 178 KeptHouseLaw.rate (LKeptHouse;III[J)I -/
noncomputable def cf_178_23 (N : mz_N) (b : Bool) (t : Nat) : (Int32 × mz_N × Nat) := (0, N, t)
def cp_178_23 (N : mz_N) (b : Bool) (t : Nat) : Prop := True
noncomputable def cf_178_0 (v1 : Int32) (v2 : Int32) (v3 : Int32) (N : mz_N) (b : Bool) (t : Nat) : (Int32 × mz_N × Nat) := if (cf_179_0 v1 v2 v3 N b).1 = 0 then (cf_178_23 (mz_wL ((cf_179_0 v1 v2 v3 N b).2.2) 342 0 (((cf_179_0 v1 v2 v3 N b).2.1).toInt64)) b t) else (if (cf_179_0 v1 v2 v3 N b).1 = 1 then (1, (cf_179_0 v1 v2 v3 N b).2.2, t + 1) else (2, (cf_179_0 v1 v2 v3 N b).2.2, t + 1))
def cp_178_0 (v1 : Int32) (v2 : Int32) (v3 : Int32) (N : mz_N) (b : Bool) (t : Nat) : Prop := (cp_179_0 v1 v2 v3 N b) ∧ ((t < 1000) ∧ (((cf_179_0 v1 v2 v3 N b).1 = 0 → (cp_178_23 (mz_wL ((cf_179_0 v1 v2 v3 N b).2.2) 342 0 (((cf_179_0 v1 v2 v3 N b).2.1).toInt64)) b t)) ∧ (¬ ((cf_179_0 v1 v2 v3 N b).1 = 0) → (((cf_179_0 v1 v2 v3 N b).1 = 1 → True) ∧ (¬ ((cf_179_0 v1 v2 v3 N b).1 = 1) → ((cf_179_0 v1 v2 v3 N b).1 = 2))))))
/-! 182 KeptHouse$Books.mostOf (I)I -/
noncomputable def cf_182_0 (v0 : Int32) : (Int32) := if v0 = 0 then 20000 else 1000
def cp_182_0 (v0 : Int32) : Prop := True
/-! 181 KeptHouse.price (II)I -/
noncomputable def cf_181_0 (v1 : Int32) (v2 : Int32) (N : mz_N) (b : Bool) : (Nat × Int32 × mz_N) := if (cf_104_0 N) = 0 then (if (cf_105_0 v1 0 3) = 0 then (if (cf_105_0 v2 0 (cf_182_0 v1)) = 0 then (0, ((cf_171_0 10 0 (mz_gI N 215 v1) (mz_wI N 215 v1 v2) b).1), (cf_171_0 10 0 (mz_gI N 215 v1) (mz_wI N 215 v1 v2) b).2) else ((cf_105_0 v2 0 (cf_182_0 v1)), 0, N)) else ((cf_105_0 v1 0 3), 0, N)) else ((cf_104_0 N), 0, N)
def cp_181_0 (v1 : Int32) (v2 : Int32) (N : mz_N) (b : Bool) : Prop := (cp_104_0 N) ∧ (((cf_104_0 N) = 0 → ((cp_105_0 v1 0 3) ∧ (((cf_105_0 v1 0 3) = 0 → ((cp_105_0 v2 0 (cf_182_0 v1)) ∧ (((cf_105_0 v2 0 (cf_182_0 v1)) = 0 → ((mz_ib v1 4) ∧ ((mz_ib v1 4) ∧ (cp_171_0 10 0 (mz_gI N 215 v1) (mz_wI N 215 v1 v2) b)))) ∧ (¬ ((cf_105_0 v2 0 (cf_182_0 v1)) = 0) → True)))) ∧ (¬ ((cf_105_0 v1 0 3) = 0) → True)))) ∧ (¬ ((cf_104_0 N) = 0) → True))
/-! 180 KeptHouseLaw.price (LKeptHouse;II[J)I -/
noncomputable def cf_180_21 (N : mz_N) (b : Bool) (t : Nat) : (Int32 × mz_N × Nat) := (0, N, t)
def cp_180_21 (N : mz_N) (b : Bool) (t : Nat) : Prop := True
noncomputable def cf_180_0 (v1 : Int32) (v2 : Int32) (N : mz_N) (b : Bool) (t : Nat) : (Int32 × mz_N × Nat) := if (cf_181_0 v1 v2 N b).1 = 0 then (cf_180_21 (mz_wL ((cf_181_0 v1 v2 N b).2.2) 342 0 (((cf_181_0 v1 v2 N b).2.1).toInt64)) b t) else (if (cf_181_0 v1 v2 N b).1 = 1 then (1, (cf_181_0 v1 v2 N b).2.2, t + 1) else (2, (cf_181_0 v1 v2 N b).2.2, t + 1))
def cp_180_0 (v1 : Int32) (v2 : Int32) (N : mz_N) (b : Bool) (t : Nat) : Prop := (cp_181_0 v1 v2 N b) ∧ ((t < 1000) ∧ (((cf_181_0 v1 v2 N b).1 = 0 → (cp_180_21 (mz_wL ((cf_181_0 v1 v2 N b).2.2) 342 0 (((cf_181_0 v1 v2 N b).2.1).toInt64)) b t)) ∧ (¬ ((cf_181_0 v1 v2 N b).1 = 0) → (((cf_181_0 v1 v2 N b).1 = 1 → True) ∧ (¬ ((cf_181_0 v1 v2 N b).1 = 1) → ((cf_181_0 v1 v2 N b).1 = 2))))))
/-! 184 KeptHouse.life (II)I -/
noncomputable def cf_184_0 (v1 : Int32) (v2 : Int32) (N : mz_N) (b : Bool) : (Nat × Int32 × mz_N) := if (cf_104_0 N) = 0 then (if (cf_105_0 v1 0 2) = 0 then (if (cf_105_0 v2 1 100000) = 0 then (0, ((cf_171_0 11 v1 (mz_gI N 125 v1) (mz_wI N 125 v1 v2) b).1), (cf_171_0 11 v1 (mz_gI N 125 v1) (mz_wI N 125 v1 v2) b).2) else ((cf_105_0 v2 1 100000), 0, N)) else ((cf_105_0 v1 0 2), 0, N)) else ((cf_104_0 N), 0, N)
def cp_184_0 (v1 : Int32) (v2 : Int32) (N : mz_N) (b : Bool) : Prop := (cp_104_0 N) ∧ (((cf_104_0 N) = 0 → ((cp_105_0 v1 0 2) ∧ (((cf_105_0 v1 0 2) = 0 → ((cp_105_0 v2 1 100000) ∧ (((cf_105_0 v2 1 100000) = 0 → ((mz_ib v1 3) ∧ ((mz_ib v1 3) ∧ (cp_171_0 11 v1 (mz_gI N 125 v1) (mz_wI N 125 v1 v2) b)))) ∧ (¬ ((cf_105_0 v2 1 100000) = 0) → True)))) ∧ (¬ ((cf_105_0 v1 0 2) = 0) → True)))) ∧ (¬ ((cf_104_0 N) = 0) → True))
/-! 183 KeptHouseLaw.life (LKeptHouse;II[J)I -/
noncomputable def cf_183_21 (N : mz_N) (b : Bool) (t : Nat) : (Int32 × mz_N × Nat) := (0, N, t)
def cp_183_21 (N : mz_N) (b : Bool) (t : Nat) : Prop := True
noncomputable def cf_183_0 (v1 : Int32) (v2 : Int32) (N : mz_N) (b : Bool) (t : Nat) : (Int32 × mz_N × Nat) := if (cf_184_0 v1 v2 N b).1 = 0 then (cf_183_21 (mz_wL ((cf_184_0 v1 v2 N b).2.2) 342 0 (((cf_184_0 v1 v2 N b).2.1).toInt64)) b t) else (if (cf_184_0 v1 v2 N b).1 = 1 then (1, (cf_184_0 v1 v2 N b).2.2, t + 1) else (2, (cf_184_0 v1 v2 N b).2.2, t + 1))
def cp_183_0 (v1 : Int32) (v2 : Int32) (N : mz_N) (b : Bool) (t : Nat) : Prop := (cp_184_0 v1 v2 N b) ∧ ((t < 1000) ∧ (((cf_184_0 v1 v2 N b).1 = 0 → (cp_183_21 (mz_wL ((cf_184_0 v1 v2 N b).2.2) 342 0 (((cf_184_0 v1 v2 N b).2.1).toInt64)) b t)) ∧ (¬ ((cf_184_0 v1 v2 N b).1 = 0) → (((cf_184_0 v1 v2 N b).1 = 1 → True) ∧ (¬ ((cf_184_0 v1 v2 N b).1 = 1) → ((cf_184_0 v1 v2 N b).1 = 2))))))
/-! 187 KeptHouse.mustAllow (Z)V -/
noncomputable def cf_187_0 (v0 : Bool) : (Nat) := if v0 = true then 0 else 2
def cp_187_0 (v0 : Bool) : Prop := True
/-! 186 KeptHouse.type (I)I -/
noncomputable def cf_186_62 (N : mz_N) : (Nat × Int32 × mz_N) := (0, (N.1 41 1), N)
def cp_186_62 (N : mz_N) : Prop := True
noncomputable def cf_186_30 (s0 : Bool) (v1 : Int32) (N : mz_N) : (Nat × Int32 × mz_N) := if (cf_187_0 s0) = 0 then (cf_186_62 (mz_pI (mz_wI N 42 (N.1 41 1) v1) 41 1 (((mz_wI N 42 (N.1 41 1) v1).1 41 1) + 1))) else ((cf_187_0 s0), 0, N)
def cp_186_30 (s0 : Bool) (v1 : Int32) (N : mz_N) : Prop := ((cf_187_0 s0) = 0 → ((mz_ib (N.1 41 1) 196) ∧ (cp_186_62 (mz_pI (mz_wI N 42 (N.1 41 1) v1) 41 1 (((mz_wI N 42 (N.1 41 1) v1).1 41 1) + 1))))) ∧ (¬ ((cf_187_0 s0) = 0) → True)
noncomputable def cf_186_0 (v1 : Int32) (N : mz_N) : (Nat × Int32 × mz_N) := if (cf_104_0 N) = 0 then (if (cf_105_0 v1 32 126) = 0 then (if (N.1 41 1) < 196 then (cf_186_30 true v1 N) else (cf_186_30 false v1 N)) else ((cf_105_0 v1 32 126), 0, N)) else ((cf_104_0 N), 0, N)
def cp_186_0 (v1 : Int32) (N : mz_N) : Prop := (cp_104_0 N) ∧ (((cf_104_0 N) = 0 → ((cp_105_0 v1 32 126) ∧ (((cf_105_0 v1 32 126) = 0 → (((N.1 41 1) < 196 → (cp_186_30 true v1 N)) ∧ (¬ ((N.1 41 1) < 196) → (cp_186_30 false v1 N)))) ∧ (¬ ((cf_105_0 v1 32 126) = 0) → True)))) ∧ (¬ ((cf_104_0 N) = 0) → True))
/-! 185 KeptHouseLaw.type (LKeptHouse;I[J)I -/
noncomputable def cf_185_0 (v1 : Int32) (N : mz_N) (t : Nat) : (Int32 × mz_N × Nat) := if (cf_186_0 v1 N).1 = 0 then (0, mz_wL ((cf_186_0 v1 N).2.2) 342 0 (((cf_186_0 v1 N).2.1).toInt64), t) else (if (cf_186_0 v1 N).1 = 1 then (1, (cf_186_0 v1 N).2.2, t + 1) else (2, (cf_186_0 v1 N).2.2, t + 1))
def cp_185_0 (v1 : Int32) (N : mz_N) (t : Nat) : Prop := (cp_186_0 v1 N) ∧ ((t < 1000) ∧ (((cf_186_0 v1 N).1 = 0 → True) ∧ (¬ ((cf_186_0 v1 N).1 = 0) → (((cf_186_0 v1 N).1 = 1 → True) ∧ (¬ ((cf_186_0 v1 N).1 = 1) → ((cf_186_0 v1 N).1 = 2))))))
/-! 189 KeptHouse.wipe ()I -/
noncomputable def cf_189_0 (N : mz_N) : (Nat × Int32 × mz_N) := if (cf_104_0 N) = 0 then (0, (N.1 41 1), mz_pI N 41 1 0) else ((cf_104_0 N), 0, N)
def cp_189_0 (N : mz_N) : Prop := cp_104_0 N
/-! 188 KeptHouseLaw.wipe (LKeptHouse;[J)I -/
noncomputable def cf_188_0 (N : mz_N) (t : Nat) : (Int32 × mz_N × Nat) := if (cf_189_0 N).1 = 0 then (0, mz_wL ((cf_189_0 N).2.2) 342 0 (((cf_189_0 N).2.1).toInt64), t) else (1, (cf_189_0 N).2.2, t + 1)
def cp_188_0 (N : mz_N) (t : Nat) : Prop := (cp_189_0 N) ∧ ((t < 1000) ∧ (((cf_189_0 N).1 = 0 → True) ∧ (¬ ((cf_189_0 N).1 = 0) → ((cf_189_0 N).1 = 2))))
/-! 192 KeptHouse$Program.tryTyped ()Z -/
noncomputable def cf_192_29 (N : mz_N) (b : Bool) : (Bool × mz_N × Bool) := (false, mz_pI N 41 5 (N.1 (mz_ot b) 7), b)
def cp_192_29 (N : mz_N) (b : Bool) : Prop := True
noncomputable def cf_192_0 (N : mz_N) (b : Bool) : (Bool × mz_N × Bool) := if ((cf_23_0 (mz_ot b) 42 (N.1 41 1) N).1) = true then (true, (cf_76_0 (mz_pI (mz_pI ((cf_23_0 (mz_ot b) 42 (N.1 41 1) N).2) 41 4 (-1)) 41 5 (-1)) b).1, (cf_76_0 (mz_pI (mz_pI ((cf_23_0 (mz_ot b) 42 (N.1 41 1) N).2) 41 4 (-1)) 41 5 (-1)) b).2) else (cf_192_29 (mz_pI ((cf_23_0 (mz_ot b) 42 (N.1 41 1) N).2) 41 4 (((cf_23_0 (mz_ot b) 42 (N.1 41 1) N).2).1 (mz_ot b) 6)) b)
def cp_192_0 (N : mz_N) (b : Bool) : Prop := (cp_23_0 (mz_ot b) 42 (N.1 41 1) N) ∧ ((((cf_23_0 (mz_ot b) 42 (N.1 41 1) N).1) = true → (cp_76_0 (mz_pI (mz_pI ((cf_23_0 (mz_ot b) 42 (N.1 41 1) N).2) 41 4 (-1)) 41 5 (-1)) b)) ∧ (¬ (((cf_23_0 (mz_ot b) 42 (N.1 41 1) N).1) = true) → (cp_192_29 (mz_pI ((cf_23_0 (mz_ot b) 42 (N.1 41 1) N).2) 41 4 (((cf_23_0 (mz_ot b) 42 (N.1 41 1) N).2).1 (mz_ot b) 6)) b)))
/-! 191 KeptHouse.load ()I -/
noncomputable def cq_191_27 (b : Bool) (s : Int32 × mz_N) : ((Int32 × mz_N) ⊕ (Nat × Int32 × mz_N × Bool)) := if s.1 < 8 then (.inl ((s.1 + 1), (cf_119_0 6 s.1 s.2))) else (if ((cf_121_0 s.2 b).1) = true then (.inr (0, (((cf_121_0 s.2 b).2).1 (mz_lv b) 5), (cf_121_0 s.2 b).2, b)) else (.inr (0, (-1001), (cf_121_0 s.2 b).2, b)))
def cd_191_27 (b : Bool) (s : Int32 × mz_N) : Prop := (s.1 < 8 → (cp_119_0 6 s.1 s.2)) ∧ (¬ (s.1 < 8) → (cp_121_0 s.2 b))
noncomputable def cf_191_27 (v1 : Int32) (N : mz_N) (b : Bool) : (Nat × Int32 × mz_N × Bool) := mz_run (cq_191_27 b) (v1, N)
def cp_191_27 (v1 : Int32) (N : mz_N) (b : Bool) : Prop := ∃ n, mz_ok (cq_191_27 b) (cd_191_27 b) n (v1, N)
noncomputable def cf_191_0 (N : mz_N) (b : Bool) : (Nat × Int32 × mz_N × Bool) := if (cf_104_0 N) = 0 then (if ((cf_192_0 N b).1) = true then (cf_191_27 0 (cf_117_0 ((cf_192_0 N b).2.1)) ((cf_192_0 N b).2.2)) else (0, (-1004), (cf_192_0 N b).2.1, (cf_192_0 N b).2.2)) else ((cf_104_0 N), 0, N, b)
def cp_191_0 (N : mz_N) (b : Bool) : Prop := (cp_104_0 N) ∧ (((cf_104_0 N) = 0 → ((cp_192_0 N b) ∧ ((((cf_192_0 N b).1) = true → (cp_191_27 0 (cf_117_0 ((cf_192_0 N b).2.1)) ((cf_192_0 N b).2.2))) ∧ (¬ (((cf_192_0 N b).1) = true) → True)))) ∧ (¬ ((cf_104_0 N) = 0) → True))
/-! 190 KeptHouseLaw.load (LKeptHouse;[J)I -/
noncomputable def cf_190_0 (N : mz_N) (b : Bool) (t : Nat) : (Int32 × mz_N × Bool × Nat) := if (cf_191_0 N b).1 = 0 then (0, mz_wL ((cf_191_0 N b).2.2.1) 342 0 (((cf_191_0 N b).2.1).toInt64), (cf_191_0 N b).2.2.2, t) else (1, (cf_191_0 N b).2.2.1, (cf_191_0 N b).2.2.2, t + 1)
def cp_190_0 (N : mz_N) (b : Bool) (t : Nat) : Prop := (cp_191_0 N b) ∧ ((t < 1000) ∧ (((cf_191_0 N b).1 = 0 → True) ∧ (¬ ((cf_191_0 N b).1 = 0) → ((cf_191_0 N b).1 = 2))))
