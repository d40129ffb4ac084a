/-! PURE (2): written by program: what each method comes to: its value, what it needs. -/
/-! 354 KeptHouse.part (II)I -/
noncomputable def cf_354_0 (v1 : Int32) (v2 : Int32) (N : mz_N) : (Nat × Int32) := if (cf_104_0 N) = 0 then (if (cf_105_0 v1 0 2) = 0 then (if (cf_105_0 v2 0 3) = 0 then (0, (mz_gI N (125 + v2.toNatClampNeg) v1)) else ((cf_105_0 v2 0 3), 0)) else ((cf_105_0 v1 0 2), 0)) else ((cf_104_0 N), 0)
def cp_354_0 (v1 : Int32) (v2 : Int32) (N : mz_N) : Prop := (cp_104_0 N) ∧ (((cf_104_0 N) = 0 → ((cp_105_0 v1 0 2) ∧ (((cf_105_0 v1 0 2) = 0 → ((cp_105_0 v2 0 3) ∧ (((cf_105_0 v2 0 3) = 0 → ((mz_ib v2 4) ∧ (mz_ib v1 3))) ∧ (¬ ((cf_105_0 v2 0 3) = 0) → True)))) ∧ (¬ ((cf_105_0 v1 0 2) = 0) → True)))) ∧ (¬ ((cf_104_0 N) = 0) → True))
/-! 353 KeptHouseLaw.part (LKeptHouse;II[J)I -/
noncomputable def cf_353_0 (v1 : Int32) (v2 : Int32) (N : mz_N) (t : Nat) : (Int32 × mz_N × Nat) := if (cf_354_0 v1 v2 N).1 = 0 then (0, mz_wL N 342 0 (((cf_354_0 v1 v2 N).2).toInt64), t) else (if (cf_354_0 v1 v2 N).1 = 1 then (1, N, t + 1) else (2, N, t + 1))
def cp_353_0 (v1 : Int32) (v2 : Int32) (N : mz_N) (t : Nat) : Prop := (cp_354_0 v1 v2 N) ∧ ((t < 1000) ∧ (((cf_354_0 v1 v2 N).1 = 0 → True) ∧ (¬ ((cf_354_0 v1 v2 N).1 = 0) → (((cf_354_0 v1 v2 N).1 = 1 → True) ∧ (¬ ((cf_354_0 v1 v2 N).1 = 1) → ((cf_354_0 v1 v2 N).1 = 2))))))
/-! 356 KeptHouse.meter (II)I -/
noncomputable def cf_356_0 (v1 : Int32) (v2 : Int32) (N : mz_N) : (Nat × Int32) := if (cf_104_0 N) = 0 then (if (cf_105_0 v1 0 10) = 0 then (if (cf_105_0 v2 0 2) = 0 then (0, (mz_gI N (210 + v2.toNatClampNeg) v1)) else ((cf_105_0 v2 0 2), 0)) else ((cf_105_0 v1 0 10), 0)) else ((cf_104_0 N), 0)
def cp_356_0 (v1 : Int32) (v2 : Int32) (N : mz_N) : Prop := (cp_104_0 N) ∧ (((cf_104_0 N) = 0 → ((cp_105_0 v1 0 10) ∧ (((cf_105_0 v1 0 10) = 0 → ((cp_105_0 v2 0 2) ∧ (((cf_105_0 v2 0 2) = 0 → ((mz_ib v2 3) ∧ (mz_ib v1 11))) ∧ (¬ ((cf_105_0 v2 0 2) = 0) → True)))) ∧ (¬ ((cf_105_0 v1 0 10) = 0) → True)))) ∧ (¬ ((cf_104_0 N) = 0) → True))
/-! 355 KeptHouseLaw.meter (LKeptHouse;II[J)I -/
noncomputable def cf_355_0 (v1 : Int32) (v2 : Int32) (N : mz_N) (t : Nat) : (Int32 × mz_N × Nat) := if (cf_356_0 v1 v2 N).1 = 0 then (0, mz_wL N 342 0 (((cf_356_0 v1 v2 N).2).toInt64), t) else (if (cf_356_0 v1 v2 N).1 = 1 then (1, N, t + 1) else (2, N, t + 1))
def cp_355_0 (v1 : Int32) (v2 : Int32) (N : mz_N) (t : Nat) : Prop := (cp_356_0 v1 v2 N) ∧ ((t < 1000) ∧ (((cf_356_0 v1 v2 N).1 = 0 → True) ∧ (¬ ((cf_356_0 v1 v2 N).1 = 0) → (((cf_356_0 v1 v2 N).1 = 1 → True) ∧ (¬ ((cf_356_0 v1 v2 N).1 = 1) → ((cf_356_0 v1 v2 N).1 = 2))))))
/-! 358 KeptHouse.account (II)J -/
noncomputable def cf_358_0 (v1 : Int32) (v2 : Int32) (N : mz_N) : (Nat × Int64) := if (cf_104_0 N) = 0 then (if (cf_105_0 v1 0 9) = 0 then (if (cf_105_0 v2 0 1) = 0 then (if v2 = 0 then (0, (mz_gL N 213 v1)) else (0, (mz_gL N 214 v1))) else ((cf_105_0 v2 0 1), 0)) else ((cf_105_0 v1 0 9), 0)) else ((cf_104_0 N), 0)
def cp_358_0 (v1 : Int32) (v2 : Int32) (N : mz_N) : Prop := (cp_104_0 N) ∧ (((cf_104_0 N) = 0 → ((cp_105_0 v1 0 9) ∧ (((cf_105_0 v1 0 9) = 0 → ((cp_105_0 v2 0 1) ∧ (((cf_105_0 v2 0 1) = 0 → ((v2 = 0 → (mz_ib v1 10)) ∧ (¬ (v2 = 0) → (mz_ib v1 10)))) ∧ (¬ ((cf_105_0 v2 0 1) = 0) → True)))) ∧ (¬ ((cf_105_0 v1 0 9) = 0) → True)))) ∧ (¬ ((cf_104_0 N) = 0) → True))
/-! 357 KeptHouseLaw.account (LKeptHouse;II[J)I -/
noncomputable def cf_357_0 (v1 : Int32) (v2 : Int32) (N : mz_N) (t : Nat) : (Int32 × mz_N × Nat) := if (cf_358_0 v1 v2 N).1 = 0 then (0, mz_wL N 342 0 ((cf_358_0 v1 v2 N).2), t) else (if (cf_358_0 v1 v2 N).1 = 1 then (1, N, t + 1) else (2, N, t + 1))
def cp_357_0 (v1 : Int32) (v2 : Int32) (N : mz_N) (t : Nat) : Prop := (cp_358_0 v1 v2 N) ∧ ((t < 1000) ∧ (((cf_358_0 v1 v2 N).1 = 0 → True) ∧ (¬ ((cf_358_0 v1 v2 N).1 = 0) → (((cf_358_0 v1 v2 N).1 = 1 → True) ∧ (¬ ((cf_358_0 v1 v2 N).1 = 1) → ((cf_358_0 v1 v2 N).1 = 2))))))
/-! 360 KeptHouse.money (I)J -/
noncomputable def cf_360_0 (v1 : Int32) (N : mz_N) : (Nat × Int64) := if (cf_104_0 N) = 0 then (if (cf_105_0 v1 0 3) = 0 then (if v1 = 0 then (0, (N.2 208 1)) else (if v1 = 1 then (0, (N.2 208 2)) else (if v1 = 2 then (0, ((N.1 208 3).toInt64)) else (0, ((N.1 208 4).toInt64))))) else ((cf_105_0 v1 0 3), 0)) else ((cf_104_0 N), 0)
def cp_360_0 (v1 : Int32) (N : mz_N) : Prop := (cp_104_0 N) ∧ (((cf_104_0 N) = 0 → (cp_105_0 v1 0 3)) ∧ (¬ ((cf_104_0 N) = 0) → True))
/-! 359 KeptHouseLaw.money (LKeptHouse;I[J)I -/
noncomputable def cf_359_0 (v1 : Int32) (N : mz_N) (t : Nat) : (Int32 × mz_N × Nat) := if (cf_360_0 v1 N).1 = 0 then (0, mz_wL N 342 0 ((cf_360_0 v1 N).2), t) else (if (cf_360_0 v1 N).1 = 1 then (1, N, t + 1) else (2, N, t + 1))
def cp_359_0 (v1 : Int32) (N : mz_N) (t : Nat) : Prop := (cp_360_0 v1 N) ∧ ((t < 1000) ∧ (((cf_360_0 v1 N).1 = 0 → True) ∧ (¬ ((cf_360_0 v1 N).1 = 0) → (((cf_360_0 v1 N).1 = 1 → True) ∧ (¬ ((cf_360_0 v1 N).1 = 1) → ((cf_360_0 v1 N).1 = 2))))))
/-! 362 KeptHouse.pay (II)I -/
noncomputable def cf_362_64 (N : mz_N) (b : Bool) : (Nat × Int32 × mz_N) := if ((cf_121_0 (cf_119_0 9 0 N) b).1) = true then (0, 0, (cf_121_0 (cf_119_0 9 0 N) b).2) else (0, (-1001), (cf_121_0 (cf_119_0 9 0 N) b).2)
def cp_362_64 (N : mz_N) (b : Bool) : Prop := (cp_119_0 9 0 N) ∧ (cp_121_0 (cf_119_0 9 0 N) b)
noncomputable def cf_362_0 (v1 : Int32) (v2 : Int32) (N : mz_N) (b : Bool) : (Nat × Int32 × mz_N) := if (cf_104_0 N) = 0 then (if (cf_105_0 v1 0 9) = 0 then (if (cf_105_0 v2 1 100000000) = 0 then (cf_362_64 (cf_119_0 8 v1 (cf_117_0 (mz_pL (mz_wL N 213 v1 ((mz_gL N 213 v1) + v2.toInt64)) 208 1 (((mz_wL N 213 v1 ((mz_gL N 213 v1) + v2.toInt64)).2 208 1) + v2.toInt64)))) b) else ((cf_105_0 v2 1 100000000), 0, N)) else ((cf_105_0 v1 0 9), 0, N)) else ((cf_104_0 N), 0, N)
def cp_362_0 (v1 : Int32) (v2 : Int32) (N : mz_N) (b : Bool) : Prop := (cp_104_0 N) ∧ (((cf_104_0 N) = 0 → ((cp_105_0 v1 0 9) ∧ (((cf_105_0 v1 0 9) = 0 → ((cp_105_0 v2 1 100000000) ∧ (((cf_105_0 v2 1 100000000) = 0 → ((mz_ib v1 10) ∧ ((mz_ib v1 10) ∧ ((cp_119_0 8 v1 (cf_117_0 (mz_pL (mz_wL N 213 v1 ((mz_gL N 213 v1) + v2.toInt64)) 208 1 (((mz_wL N 213 v1 ((mz_gL N 213 v1) + v2.toInt64)).2 208 1) + v2.toInt64)))) ∧ (cp_362_64 (cf_119_0 8 v1 (cf_117_0 (mz_pL (mz_wL N 213 v1 ((mz_gL N 213 v1) + v2.toInt64)) 208 1 (((mz_wL N 213 v1 ((mz_gL N 213 v1) + v2.toInt64)).2 208 1) + v2.toInt64)))) b))))) ∧ (¬ ((cf_105_0 v2 1 100000000) = 0) → True)))) ∧ (¬ ((cf_105_0 v1 0 9) = 0) → True)))) ∧ (¬ ((cf_104_0 N) = 0) → True))
/-! 361 KeptHouseLaw.pay (LKeptHouse;II[J)I -/
noncomputable def cf_361_21 (N : mz_N) (b : Bool) (t : Nat) : (Int32 × mz_N × Nat) := (0, N, t)
def cp_361_21 (N : mz_N) (b : Bool) (t : Nat) : Prop := True
noncomputable def cf_361_0 (v1 : Int32) (v2 : Int32) (N : mz_N) (b : Bool) (t : Nat) : (Int32 × mz_N × Nat) := if (cf_362_0 v1 v2 N b).1 = 0 then (cf_361_21 (mz_wL ((cf_362_0 v1 v2 N b).2.2) 342 0 (((cf_362_0 v1 v2 N b).2.1).toInt64)) b t) else (if (cf_362_0 v1 v2 N b).1 = 1 then (1, (cf_362_0 v1 v2 N b).2.2, t + 1) else (2, (cf_362_0 v1 v2 N b).2.2, t + 1))
def cp_361_0 (v1 : Int32) (v2 : Int32) (N : mz_N) (b : Bool) (t : Nat) : Prop := (cp_362_0 v1 v2 N b) ∧ ((t < 1000) ∧ (((cf_362_0 v1 v2 N b).1 = 0 → (cp_361_21 (mz_wL ((cf_362_0 v1 v2 N b).2.2) 342 0 (((cf_362_0 v1 v2 N b).2.1).toInt64)) b t)) ∧ (¬ ((cf_362_0 v1 v2 N b).1 = 0) → (((cf_362_0 v1 v2 N b).1 = 1 → True) ∧ (¬ ((cf_362_0 v1 v2 N b).1 = 1) → ((cf_362_0 v1 v2 N b).1 = 2))))))
/-! 364 KeptHouse.crash (I)V -/
noncomputable def cf_364_0 (v1 : Int32) (N : mz_N) : (Nat × mz_N) := if (cf_104_0 N) = 0 then (if (cf_105_0 v1 (-1) 1000) = 0 then (0, mz_pI N 219 8 v1) else ((cf_105_0 v1 (-1) 1000), N)) else ((cf_104_0 N), N)
def cp_364_0 (v1 : Int32) (N : mz_N) : Prop := (cp_104_0 N) ∧ (((cf_104_0 N) = 0 → (cp_105_0 v1 (-1) 1000)) ∧ (¬ ((cf_104_0 N) = 0) → True))
/-! 363 KeptHouseLaw.crash (LKeptHouse;I)I -/
noncomputable def cf_363_0 (v1 : Int32) (N : mz_N) (t : Nat) : (Int32 × mz_N × Nat) := if (cf_364_0 v1 N).1 = 0 then (0, (cf_364_0 v1 N).2, t) else (if (cf_364_0 v1 N).1 = 1 then (1, (cf_364_0 v1 N).2, t + 1) else (2, (cf_364_0 v1 N).2, t + 1))
def cp_363_0 (v1 : Int32) (N : mz_N) (t : Nat) : Prop := (cp_364_0 v1 N) ∧ ((t < 1000) ∧ (((cf_364_0 v1 N).1 = 0 → True) ∧ (¬ ((cf_364_0 v1 N).1 = 0) → (((cf_364_0 v1 N).1 = 1 → True) ∧ (¬ ((cf_364_0 v1 N).1 = 1) → ((cf_364_0 v1 N).1 = 2))))))
/-! 366 KeptHouse.rows (I)I -/
noncomputable def cf_366_0 (v1 : Int32) (N : mz_N) : (Nat × Int32) := if (cf_104_0 N) = 0 then (if (cf_105_0 v1 0 3) = 0 then (if v1 = 0 then (0, (N.1 219 4)) else (if v1 = 1 then (0, (N.1 219 5)) else (if v1 = 2 then (0, (N.1 219 6)) else (0, (cf_138_0 224 N))))) else ((cf_105_0 v1 0 3), 0)) else ((cf_104_0 N), 0)
def cp_366_0 (v1 : Int32) (N : mz_N) : Prop := (cp_104_0 N) ∧ (((cf_104_0 N) = 0 → ((cp_105_0 v1 0 3) ∧ (((cf_105_0 v1 0 3) = 0 → ((v1 = 0 → True) ∧ (¬ (v1 = 0) → ((v1 = 1 → True) ∧ (¬ (v1 = 1) → ((v1 = 2 → True) ∧ (¬ (v1 = 2) → (cp_138_0 224 N)))))))) ∧ (¬ ((cf_105_0 v1 0 3) = 0) → True)))) ∧ (¬ ((cf_104_0 N) = 0) → True))
/-! 365 KeptHouseLaw.rows (LKeptHouse;I[J)I -/
noncomputable def cf_365_0 (v1 : Int32) (N : mz_N) (t : Nat) : (Int32 × mz_N × Nat) := if (cf_366_0 v1 N).1 = 0 then (0, mz_wL N 342 0 (((cf_366_0 v1 N).2).toInt64), t) else (if (cf_366_0 v1 N).1 = 1 then (1, N, t + 1) else (2, N, t + 1))
def cp_365_0 (v1 : Int32) (N : mz_N) (t : Nat) : Prop := (cp_366_0 v1 N) ∧ ((t < 1000) ∧ (((cf_366_0 v1 N).1 = 0 → True) ∧ (¬ ((cf_366_0 v1 N).1 = 0) → (((cf_366_0 v1 N).1 = 1 → True) ∧ (¬ ((cf_366_0 v1 N).1 = 1) → ((cf_366_0 v1 N).1 = 2))))))
/-! 368 KeptHouse.disk (III)I -/
noncomputable def cf_368_0 (v1 : Int32) (v2 : Int32) (v3 : Int32) (N : mz_N) : (Nat × Int32) := if (cf_104_0 N) = 0 then (if (cf_105_0 v1 0 1) = 0 then (if (cf_105_0 v2 0 199) = 0 then (if (cf_105_0 v3 0 47) = 0 then (0, (mz_gI N (221 + v1.toNatClampNeg) ((v2 * 48) + v3))) else ((cf_105_0 v3 0 47), 0)) else ((cf_105_0 v2 0 199), 0)) else ((cf_105_0 v1 0 1), 0)) else ((cf_104_0 N), 0)
def cp_368_0 (v1 : Int32) (v2 : Int32) (v3 : Int32) (N : mz_N) : Prop := (cp_104_0 N) ∧ (((cf_104_0 N) = 0 → ((cp_105_0 v1 0 1) ∧ (((cf_105_0 v1 0 1) = 0 → ((cp_105_0 v2 0 199) ∧ (((cf_105_0 v2 0 199) = 0 → ((cp_105_0 v3 0 47) ∧ (((cf_105_0 v3 0 47) = 0 → ((mz_ib v1 2) ∧ (mz_ib ((v2 * 48) + v3) 9600))) ∧ (¬ ((cf_105_0 v3 0 47) = 0) → True)))) ∧ (¬ ((cf_105_0 v2 0 199) = 0) → True)))) ∧ (¬ ((cf_105_0 v1 0 1) = 0) → True)))) ∧ (¬ ((cf_104_0 N) = 0) → True))
/-! 367 KeptHouseLaw.disk (LKeptHouse;III[J)I -/
noncomputable def cf_367_0 (v1 : Int32) (v2 : Int32) (v3 : Int32) (N : mz_N) (t : Nat) : (Int32 × mz_N × Nat) := if (cf_368_0 v1 v2 v3 N).1 = 0 then (0, mz_wL N 342 0 (((cf_368_0 v1 v2 v3 N).2).toInt64), t) else (if (cf_368_0 v1 v2 v3 N).1 = 1 then (1, N, t + 1) else (2, N, t + 1))
def cp_367_0 (v1 : Int32) (v2 : Int32) (v3 : Int32) (N : mz_N) (t : Nat) : Prop := (cp_368_0 v1 v2 v3 N) ∧ ((t < 1000) ∧ (((cf_368_0 v1 v2 v3 N).1 = 0 → True) ∧ (¬ ((cf_368_0 v1 v2 v3 N).1 = 0) → (((cf_368_0 v1 v2 v3 N).1 = 1 → True) ∧ (¬ ((cf_368_0 v1 v2 v3 N).1 = 1) → ((cf_368_0 v1 v2 v3 N).1 = 2))))))
/-! 371 KeptHouse$Keeper.makeTape ()V -/
noncomputable def cf_371_92 (v1 : Int32) (v2 : Int32) (N : mz_N) : ((Int32 × Int32 × mz_N) ⊕ (mz_N)) := (.inl (v1, (v2 + 1), N))
def cp_371_92 (v1 : Int32) (v2 : Int32) (N : mz_N) : Prop := True
noncomputable def cf_371_89 (v1 : Int32) (v2 : Int32) (N : mz_N) : ((Int32 × Int32 × mz_N) ⊕ (mz_N)) := (cf_371_92 (v1 + 30) v2 N)
def cp_371_89 (v1 : Int32) (v2 : Int32) (N : mz_N) : Prop := cp_371_92 (v1 + 30) v2 N
noncomputable def cf_371_124 (N : mz_N) : (mz_N) := N
def cp_371_124 (N : mz_N) : Prop := True
noncomputable def cq_371_24  (s : Int32 × Int32 × mz_N) : ((Int32 × Int32 × mz_N) ⊕ (mz_N)) := if s.2.1 < 135 then (if (mz_gI s.2.2 224 s.2.1) = 1 then (cf_371_89 s.1 s.2.1 (mz_yI (mz_wI (mz_wI s.2.2 228 s.1 (cf_55_0 s.2.1)) 228 (s.1 + 1) (cf_56_0 s.2.1)) 223 (s.2.1 * 28) 228 (s.1 + 2) 28)) else (cf_371_92 s.1 s.2.1 s.2.2)) else (.inr (cf_371_124 (mz_pI (cf_14_0 228 4056 s.1 4 ((cf_16_0 228 4056 0 s.1 s.2.2).toInt64) s.2.2) 1 10 (s.1 + 4))))
def cd_371_24  (s : Int32 × Int32 × mz_N) : Prop := (s.2.1 < 135 → ((mz_ib s.2.1 135) ∧ (((mz_gI s.2.2 224 s.2.1) = 1 → ((cp_55_0 s.2.1) ∧ ((mz_ib s.1 4056) ∧ ((cp_56_0 s.2.1) ∧ ((mz_ib (s.1 + 1) 4056) ∧ ((mz_cpk (s.2.1 * 28) (s.1 + 2) 28 3780 4056) ∧ (cp_371_89 s.1 s.2.1 (mz_yI (mz_wI (mz_wI s.2.2 228 s.1 (cf_55_0 s.2.1)) 228 (s.1 + 1) (cf_56_0 s.2.1)) 223 (s.2.1 * 28) 228 (s.1 + 2) 28)))))))) ∧ (¬ ((mz_gI s.2.2 224 s.2.1) = 1) → (cp_371_92 s.1 s.2.1 s.2.2))))) ∧ (¬ (s.2.1 < 135) → ((cp_16_0 228 4056 0 s.1 s.2.2) ∧ ((cp_14_0 228 4056 s.1 4 ((cf_16_0 228 4056 0 s.1 s.2.2).toInt64) s.2.2) ∧ (cp_371_124 (mz_pI (cf_14_0 228 4056 s.1 4 ((cf_16_0 228 4056 0 s.1 s.2.2).toInt64) s.2.2) 1 10 (s.1 + 4))))))
noncomputable def cf_371_24 (v1 : Int32) (v2 : Int32) (N : mz_N) : (mz_N) := mz_run (cq_371_24 ) (v1, v2, N)
def cp_371_24 (v1 : Int32) (v2 : Int32) (N : mz_N) : Prop := ∃ n, mz_ok (cq_371_24 ) (cd_371_24 ) n (v1, v2, N)
noncomputable def cf_371_0 (N : mz_N) : (mz_N) := (cf_371_24 2 0 (cf_14_0 228 4056 0 2 ((cf_138_0 224 N).toInt64) N))
def cp_371_0 (N : mz_N) : Prop := (cp_138_0 224 N) ∧ ((cp_14_0 228 4056 0 2 ((cf_138_0 224 N).toInt64) N) ∧ (cp_371_24 2 0 (cf_14_0 228 4056 0 2 ((cf_138_0 224 N).toInt64) N)))
/-! 370 KeptHouse.image ()I -/
noncomputable def cf_370_0 (N : mz_N) : (Nat × Int32 × mz_N) := if (cf_104_0 N) = 0 then (0, ((cf_371_0 N).1 1 10), (cf_371_0 N)) else ((cf_104_0 N), 0, N)
def cp_370_0 (N : mz_N) : Prop := (cp_104_0 N) ∧ (((cf_104_0 N) = 0 → (cp_371_0 N)) ∧ (¬ ((cf_104_0 N) = 0) → True))
/-! 369 KeptHouseLaw.image (LKeptHouse;[J)I -/
noncomputable def cf_369_0 (N : mz_N) (t : Nat) : (Int32 × mz_N × Nat) := if (cf_370_0 N).1 = 0 then (0, mz_wL ((cf_370_0 N).2.2) 342 0 (((cf_370_0 N).2.1).toInt64), t) else (1, (cf_370_0 N).2.2, t + 1)
def cp_369_0 (N : mz_N) (t : Nat) : Prop := (cp_370_0 N) ∧ ((t < 1000) ∧ (((cf_370_0 N).1 = 0 → True) ∧ (¬ ((cf_370_0 N).1 = 0) → ((cf_370_0 N).1 = 2))))
/-! 373 KeptHouse.tape (I)I -/
noncomputable def cf_373_0 (v1 : Int32) (N : mz_N) : (Nat × Int32) := if (cf_104_0 N) = 0 then (if (cf_105_0 v1 0 ((N.1 1 10) - 1)) = 0 then (0, (mz_gI N 228 v1)) else ((cf_105_0 v1 0 ((N.1 1 10) - 1)), 0)) else ((cf_104_0 N), 0)
def cp_373_0 (v1 : Int32) (N : mz_N) : Prop := (cp_104_0 N) ∧ (((cf_104_0 N) = 0 → ((cp_105_0 v1 0 ((N.1 1 10) - 1)) ∧ (((cf_105_0 v1 0 ((N.1 1 10) - 1)) = 0 → (mz_ib v1 4056)) ∧ (¬ ((cf_105_0 v1 0 ((N.1 1 10) - 1)) = 0) → True)))) ∧ (¬ ((cf_104_0 N) = 0) → True))
/-! 372 KeptHouseLaw.tape (LKeptHouse;I[J)I -/
noncomputable def cf_372_0 (v1 : Int32) (N : mz_N) (t : Nat) : (Int32 × mz_N × Nat) := if (cf_373_0 v1 N).1 = 0 then (0, mz_wL N 342 0 (((cf_373_0 v1 N).2).toInt64), t) else (if (cf_373_0 v1 N).1 = 1 then (1, N, t + 1) else (2, N, t + 1))
def cp_372_0 (v1 : Int32) (N : mz_N) (t : Nat) : Prop := (cp_373_0 v1 N) ∧ ((t < 1000) ∧ (((cf_373_0 v1 N).1 = 0 → True) ∧ (¬ ((cf_373_0 v1 N).1 = 0) → (((cf_373_0 v1 N).1 = 1 → True) ∧ (¬ ((cf_373_0 v1 N).1 = 1) → ((cf_373_0 v1 N).1 = 2))))))
/-! 375 KeptHouse.feed (I)I -/
noncomputable def cf_375_62 (N : mz_N) : (Nat × Int32 × mz_N) := (0, (N.1 1 12), N)
def cp_375_62 (N : mz_N) : Prop := True
noncomputable def cf_375_30 (s0 : Bool) (v1 : Int32) (N : mz_N) : (Nat × Int32 × mz_N) := if (cf_187_0 s0) = 0 then (cf_375_62 (mz_pI (mz_wI N 229 (N.1 1 12) v1) 1 12 (((mz_wI N 229 (N.1 1 12) v1).1 1 12) + 1))) else ((cf_187_0 s0), 0, N)
def cp_375_30 (s0 : Bool) (v1 : Int32) (N : mz_N) : Prop := ((cf_187_0 s0) = 0 → ((mz_ib (N.1 1 12) 4100) ∧ (cp_375_62 (mz_pI (mz_wI N 229 (N.1 1 12) v1) 1 12 (((mz_wI N 229 (N.1 1 12) v1).1 1 12) + 1))))) ∧ (¬ ((cf_187_0 s0) = 0) → True)
noncomputable def cf_375_0 (v1 : Int32) (N : mz_N) : (Nat × Int32 × mz_N) := if (cf_104_0 N) = 0 then (if (cf_105_0 v1 0 255) = 0 then (if (N.1 1 12) < 4100 then (cf_375_30 true v1 N) else (cf_375_30 false v1 N)) else ((cf_105_0 v1 0 255), 0, N)) else ((cf_104_0 N), 0, N)
def cp_375_0 (v1 : Int32) (N : mz_N) : Prop := (cp_104_0 N) ∧ (((cf_104_0 N) = 0 → ((cp_105_0 v1 0 255) ∧ (((cf_105_0 v1 0 255) = 0 → (((N.1 1 12) < 4100 → (cp_375_30 true v1 N)) ∧ (¬ ((N.1 1 12) < 4100) → (cp_375_30 false v1 N)))) ∧ (¬ ((cf_105_0 v1 0 255) = 0) → True)))) ∧ (¬ ((cf_104_0 N) = 0) → True))
/-! 374 KeptHouseLaw.feed (LKeptHouse;I[J)I -/
noncomputable def cf_374_0 (v1 : Int32) (N : mz_N) (t : Nat) : (Int32 × mz_N × Nat) := if (cf_375_0 v1 N).1 = 0 then (0, mz_wL ((cf_375_0 v1 N).2.2) 342 0 (((cf_375_0 v1 N).2.1).toInt64), t) else (if (cf_375_0 v1 N).1 = 1 then (1, (cf_375_0 v1 N).2.2, t + 1) else (2, (cf_375_0 v1 N).2.2, t + 1))
def cp_374_0 (v1 : Int32) (N : mz_N) (t : Nat) : Prop := (cp_375_0 v1 N) ∧ ((t < 1000) ∧ (((cf_375_0 v1 N).1 = 0 → True) ∧ (¬ ((cf_375_0 v1 N).1 = 0) → (((cf_375_0 v1 N).1 = 1 → True) ∧ (¬ ((cf_375_0 v1 N).1 = 1) → ((cf_375_0 v1 N).1 = 2))))))
/-! 378 KeptHouse$Keeper.copyTape ()V -/
noncomputable def cf_378_0 (N : mz_N) : (mz_N) := mz_pI (mz_yI N 228 0 229 (N.1 1 12) (mz_imin (N.1 1 10) (4100 - (N.1 1 12)))) 1 12 (((mz_yI N 228 0 229 (N.1 1 12) (mz_imin (N.1 1 10) (4100 - (N.1 1 12)))).1 1 12) + (mz_imin (N.1 1 10) (4100 - (N.1 1 12))))
def cp_378_0 (N : mz_N) : Prop := mz_cpk 0 (N.1 1 12) (mz_imin (N.1 1 10) (4100 - (N.1 1 12))) 4056 4100
/-! 377 KeptHouse.copy ()I -/
noncomputable def cf_377_0 (N : mz_N) : (Nat × Int32 × mz_N) := if (cf_104_0 N) = 0 then (0, ((cf_378_0 N).1 1 12), (cf_378_0 N)) else ((cf_104_0 N), 0, N)
def cp_377_0 (N : mz_N) : Prop := (cp_104_0 N) ∧ (((cf_104_0 N) = 0 → (cp_378_0 N)) ∧ (¬ ((cf_104_0 N) = 0) → True))
/-! 376 KeptHouseLaw.copy (LKeptHouse;[J)I -/
noncomputable def cf_376_0 (N : mz_N) (t : Nat) : (Int32 × mz_N × Nat) := if (cf_377_0 N).1 = 0 then (0, mz_wL ((cf_377_0 N).2.2) 342 0 (((cf_377_0 N).2.1).toInt64), t) else (1, (cf_377_0 N).2.2, t + 1)
def cp_376_0 (N : mz_N) (t : Nat) : Prop := (cp_377_0 N) ∧ ((t < 1000) ∧ (((cf_377_0 N).1 = 0 → True) ∧ (¬ ((cf_377_0 N).1 = 0) → ((cf_377_0 N).1 = 2))))
/-! 380 KeptHouse.poke (II)I -/
noncomputable def cf_380_0 (v1 : Int32) (v2 : Int32) (N : mz_N) : (Nat × Int32 × mz_N) := if (cf_104_0 N) = 0 then (if (cf_105_0 v1 0 ((N.1 1 12) - 1)) = 0 then (if (cf_105_0 v2 0 255) = 0 then (0, (mz_gI N 229 v1), mz_wI N 229 v1 v2) else ((cf_105_0 v2 0 255), 0, N)) else ((cf_105_0 v1 0 ((N.1 1 12) - 1)), 0, N)) else ((cf_104_0 N), 0, N)
def cp_380_0 (v1 : Int32) (v2 : Int32) (N : mz_N) : Prop := (cp_104_0 N) ∧ (((cf_104_0 N) = 0 → ((cp_105_0 v1 0 ((N.1 1 12) - 1)) ∧ (((cf_105_0 v1 0 ((N.1 1 12) - 1)) = 0 → ((cp_105_0 v2 0 255) ∧ (((cf_105_0 v2 0 255) = 0 → ((mz_ib v1 4100) ∧ (mz_ib v1 4100))) ∧ (¬ ((cf_105_0 v2 0 255) = 0) → True)))) ∧ (¬ ((cf_105_0 v1 0 ((N.1 1 12) - 1)) = 0) → True)))) ∧ (¬ ((cf_104_0 N) = 0) → True))
/-! 379 KeptHouseLaw.poke (LKeptHouse;II[J)I -/
noncomputable def cf_379_21 (N : mz_N) (t : Nat) : (Int32 × mz_N × Nat) := (0, N, t)
def cp_379_21 (N : mz_N) (t : Nat) : Prop := True
noncomputable def cf_379_0 (v1 : Int32) (v2 : Int32) (N : mz_N) (t : Nat) : (Int32 × mz_N × Nat) := if (cf_380_0 v1 v2 N).1 = 0 then (cf_379_21 (mz_wL ((cf_380_0 v1 v2 N).2.2) 342 0 (((cf_380_0 v1 v2 N).2.1).toInt64)) t) else (if (cf_380_0 v1 v2 N).1 = 1 then (1, (cf_380_0 v1 v2 N).2.2, t + 1) else (2, (cf_380_0 v1 v2 N).2.2, t + 1))
def cp_379_0 (v1 : Int32) (v2 : Int32) (N : mz_N) (t : Nat) : Prop := (cp_380_0 v1 v2 N) ∧ ((t < 1000) ∧ (((cf_380_0 v1 v2 N).1 = 0 → (cp_379_21 (mz_wL ((cf_380_0 v1 v2 N).2.2) 342 0 (((cf_380_0 v1 v2 N).2.1).toInt64)) t)) ∧ (¬ ((cf_380_0 v1 v2 N).1 = 0) → (((cf_380_0 v1 v2 N).1 = 1 → True) ∧ (¬ ((cf_380_0 v1 v2 N).1 = 1) → ((cf_380_0 v1 v2 N).1 = 2))))))
/-! 382 KeptHouse.empty ()I -/
noncomputable def cf_382_0 (N : mz_N) : (Nat × Int32 × mz_N) := if (cf_104_0 N) = 0 then (0, (N.1 1 12), mz_pI N 1 12 0) else ((cf_104_0 N), 0, N)
def cp_382_0 (N : mz_N) : Prop := cp_104_0 N
/-! 381 KeptHouseLaw.empty (LKeptHouse;[J)I -/
noncomputable def cf_381_0 (N : mz_N) (t : Nat) : (Int32 × mz_N × Nat) := if (cf_382_0 N).1 = 0 then (0, mz_wL ((cf_382_0 N).2.2) 342 0 (((cf_382_0 N).2.1).toInt64), t) else (1, (cf_382_0 N).2.2, t + 1)
def cp_381_0 (N : mz_N) (t : Nat) : Prop := (cp_382_0 N) ∧ ((t < 1000) ∧ (((cf_382_0 N).1 = 0 → True) ∧ (¬ ((cf_382_0 N).1 = 0) → ((cf_382_0 N).1 = 2))))
/-! 386 KeptHouse$Keeper.layOut (I)Z -/
noncomputable def cf_386_84 (v1 : Int32) (v3 : Int32) (v5 : Int32) (N : mz_N) : ((Int32 × Int32 × mz_N) ⊕ (Bool × mz_N)) := (.inl (v5, (v3 + 1), mz_wI N 231 v5 1))
def cp_386_84 (v1 : Int32) (v3 : Int32) (v5 : Int32) (N : mz_N) : Prop := mz_ib v5 135
noncomputable def cq_386_20 (v1 : Int32) (s : Int32 × Int32 × mz_N) : ((Int32 × Int32 × mz_N) ⊕ (Bool × mz_N)) := if s.2.1 < v1 then (if s.1 < (cf_98_0 (mz_gI s.2.2 229 (2 + (s.2.1 * 30))) (mz_gI s.2.2 229 ((2 + (s.2.1 * 30)) + 1))) then (cf_386_84 v1 s.2.1 (cf_98_0 (mz_gI s.2.2 229 (2 + (s.2.1 * 30))) (mz_gI s.2.2 229 ((2 + (s.2.1 * 30)) + 1))) (mz_yI s.2.2 229 ((2 + (s.2.1 * 30)) + 2) 230 ((cf_98_0 (mz_gI s.2.2 229 (2 + (s.2.1 * 30))) (mz_gI s.2.2 229 ((2 + (s.2.1 * 30)) + 1))) * 28) 28)) else (.inr (false, s.2.2))) else (.inr (true, s.2.2))
def cd_386_20 (v1 : Int32) (s : Int32 × Int32 × mz_N) : Prop := (s.2.1 < v1 → ((mz_ib (2 + (s.2.1 * 30)) 4100) ∧ ((mz_ib ((2 + (s.2.1 * 30)) + 1) 4100) ∧ ((cp_98_0 (mz_gI s.2.2 229 (2 + (s.2.1 * 30))) (mz_gI s.2.2 229 ((2 + (s.2.1 * 30)) + 1))) ∧ ((s.1 < (cf_98_0 (mz_gI s.2.2 229 (2 + (s.2.1 * 30))) (mz_gI s.2.2 229 ((2 + (s.2.1 * 30)) + 1))) → ((mz_cpk ((2 + (s.2.1 * 30)) + 2) ((cf_98_0 (mz_gI s.2.2 229 (2 + (s.2.1 * 30))) (mz_gI s.2.2 229 ((2 + (s.2.1 * 30)) + 1))) * 28) 28 4100 3780) ∧ (cp_386_84 v1 s.2.1 (cf_98_0 (mz_gI s.2.2 229 (2 + (s.2.1 * 30))) (mz_gI s.2.2 229 ((2 + (s.2.1 * 30)) + 1))) (mz_yI s.2.2 229 ((2 + (s.2.1 * 30)) + 2) 230 ((cf_98_0 (mz_gI s.2.2 229 (2 + (s.2.1 * 30))) (mz_gI s.2.2 229 ((2 + (s.2.1 * 30)) + 1))) * 28) 28)))) ∧ (¬ (s.1 < (cf_98_0 (mz_gI s.2.2 229 (2 + (s.2.1 * 30))) (mz_gI s.2.2 229 ((2 + (s.2.1 * 30)) + 1)))) → True)))))) ∧ (¬ (s.2.1 < v1) → True)
noncomputable def cf_386_20 (v1 : Int32) (v2 : Int32) (v3 : Int32) (N : mz_N) : (Bool × mz_N) := mz_run (cq_386_20 v1) (v2, v3, N)
def cp_386_20 (v1 : Int32) (v2 : Int32) (v3 : Int32) (N : mz_N) : Prop := ∃ n, mz_ok (cq_386_20 v1) (cd_386_20 v1) n (v2, v3, N)
noncomputable def cf_386_0 (v1 : Int32) (N : mz_N) : (Bool × mz_N) := (cf_386_20 v1 (-1) 0 (cf_13_0 231 135 0 (cf_13_0 230 3780 0 N)))
def cp_386_0 (v1 : Int32) (N : mz_N) : Prop := (cp_13_0 230 3780 0 N) ∧ ((cp_13_0 231 135 0 (cf_13_0 230 3780 0 N)) ∧ (cp_386_20 v1 (-1) 0 (cf_13_0 231 135 0 (cf_13_0 230 3780 0 N))))
/-! 389 KeptHouse$Plan.areEdges ([II)Z -/
noncomputable def cq_389_2 (v1 : Int32) (N : mz_N) (s : Int32) : ((Int32) ⊕ (Bool)) := if s < 110 then (if (cf_109_0 s ((mz_ishr (mz_gI N 230 (v1 + (s / 4))) (2 * (mz_irem s 4))) &&& 3)) = true then (.inl ((s + 1))) else (.inr false)) else (if (mz_gI N 230 (v1 + 27)) < 16 then (.inr true) else (.inr false))
def cd_389_2 (v1 : Int32) (N : mz_N) (s : Int32) : Prop := (s < 110 → (mz_ib (v1 + (s / 4)) 3780)) ∧ (¬ (s < 110) → (mz_ib (v1 + 27) 3780))
noncomputable def cf_389_2 (v1 : Int32) (v2 : Int32) (N : mz_N) : (Bool) := mz_run (cq_389_2 v1 N) (v2)
def cp_389_2 (v1 : Int32) (v2 : Int32) (N : mz_N) : Prop := ∃ n, mz_ok (cq_389_2 v1 N) (cd_389_2 v1 N) n (v2)
noncomputable def cf_389_0 (v1 : Int32) (N : mz_N) : (Bool) := (cf_389_2 v1 0 N)
def cp_389_0 (v1 : Int32) (N : mz_N) : Prop := cp_389_2 v1 0 N
/-! 390 KeptHouse$Plan.areFlats ([II)Z -/
noncomputable def cq_390_2 (v1 : Int32) (N : mz_N) (s : Int32) : ((Int32) ⊕ (Bool)) := if s < 48 then (if (cf_170_0 ((mz_ishr (mz_gI N 230 (v1 + (s / 2))) (4 * (mz_irem s 2))) &&& 15)) = true then (.inl ((s + 1))) else (.inr false)) else (.inr (cf_75_0 230 v1 24 N))
def cd_390_2 (v1 : Int32) (N : mz_N) (s : Int32) : Prop := (s < 48 → ((mz_ib (v1 + (s / 2)) 3780) ∧ (cp_170_0 ((mz_ishr (mz_gI N 230 (v1 + (s / 2))) (4 * (mz_irem s 2))) &&& 15)))) ∧ (¬ (s < 48) → (cp_75_0 230 v1 24 N))
noncomputable def cf_390_2 (v1 : Int32) (v2 : Int32) (N : mz_N) : (Bool) := mz_run (cq_390_2 v1 N) (v2)
def cp_390_2 (v1 : Int32) (v2 : Int32) (N : mz_N) : Prop := ∃ n, mz_ok (cq_390_2 v1 N) (cd_390_2 v1 N) n (v2)
noncomputable def cf_390_0 (v1 : Int32) (N : mz_N) : (Bool) := (cf_390_2 v1 0 N)
def cp_390_0 (v1 : Int32) (N : mz_N) : Prop := cp_390_2 v1 0 N
/-! 391 KeptHouse$Keeper.areBelow ([III)Z -/
noncomputable def cq_391_2 (v1 : Int32) (v2 : Int32) (N : mz_N) (s : Int32) : ((Int32) ⊕ (Bool)) := if s < 24 then (if v2 < (mz_gI N 230 (v1 + s)) then (.inr false) else (.inl ((s + 1)))) else (.inr (cf_75_0 230 v1 24 N))
def cd_391_2 (v1 : Int32) (v2 : Int32) (N : mz_N) (s : Int32) : Prop := (s < 24 → (mz_ib (v1 + s) 3780)) ∧ (¬ (s < 24) → (cp_75_0 230 v1 24 N))
noncomputable def cf_391_2 (v1 : Int32) (v2 : Int32) (v3 : Int32) (N : mz_N) : (Bool) := mz_run (cq_391_2 v1 v2 N) (v3)
def cp_391_2 (v1 : Int32) (v2 : Int32) (v3 : Int32) (N : mz_N) : Prop := ∃ n, mz_ok (cq_391_2 v1 v2 N) (cd_391_2 v1 v2 N) n (v3)
noncomputable def cf_391_0 (v1 : Int32) (v2 : Int32) (N : mz_N) : (Bool) := (cf_391_2 v1 v2 0 N)
def cp_391_0 (v1 : Int32) (v2 : Int32) (N : mz_N) : Prop := cp_391_2 v1 v2 0 N
/-! 393 KeptHouse$Store.isIn (JJJ)Z -/
noncomputable def cf_393_0 (v0 : Int64) (v2 : Int64) (v4 : Int64) : (Bool) := if v0 < v2 then false else (if v4 < v0 then false else true)
def cp_393_0 (v0 : Int64) (v2 : Int64) (v4 : Int64) : Prop := True
/-! 392 KeptHouse$Climate.isWeather ([II)Z -/
noncomputable def cq_392_2 (v1 : Int32) (N : mz_N) (s : Int32) : ((Int32) ⊕ (Bool)) := if s < 12 then (if (cf_393_0 (cf_61_0 230 3780 (v1 + (2 * s)) 2 N) (-400) 500) = true then (.inl ((s + 1))) else (.inr false)) else (.inr (cf_75_0 230 v1 24 N))
def cd_392_2 (v1 : Int32) (N : mz_N) (s : Int32) : Prop := (s < 12 → (cp_61_0 230 3780 (v1 + (2 * s)) 2 N)) ∧ (¬ (s < 12) → (cp_75_0 230 v1 24 N))
noncomputable def cf_392_2 (v1 : Int32) (v2 : Int32) (N : mz_N) : (Bool) := mz_run (cq_392_2 v1 N) (v2)
def cp_392_2 (v1 : Int32) (v2 : Int32) (N : mz_N) : Prop := ∃ n, mz_ok (cq_392_2 v1 N) (cd_392_2 v1 N) n (v2)
noncomputable def cf_392_0 (v1 : Int32) (N : mz_N) : (Bool) := (cf_392_2 v1 0 N)
def cp_392_0 (v1 : Int32) (N : mz_N) : Prop := cp_392_2 v1 0 N
/-! 394 KeptHouse$Supply.areRatings (I[II)Z -/
noncomputable def cf_394_75 (s1 : Int32) (s2 : Int32) (N : mz_N) : (Bool) := (cf_75_0 230 s1 s2 N)
def cp_394_75 (s1 : Int32) (s2 : Int32) (N : mz_N) : Prop := cp_75_0 230 s1 s2 N
noncomputable def cf_394_47 (s0 : Bool) (v0 : Int32) (v2 : Int32) (v3 : Int32) (N : mz_N) : ((Int32) ⊕ (Bool)) := if s0 = true then (.inl ((v3 + 1))) else (.inr false)
def cp_394_47 (s0 : Bool) (v0 : Int32) (v2 : Int32) (v3 : Int32) (N : mz_N) : Prop := True
noncomputable def cq_394_2 (v0 : Int32) (v2 : Int32) (N : mz_N) (s : Int32) : ((Int32) ⊕ (Bool)) := if s < 11 then (if v0 = 0 then (cf_394_47 (cf_393_0 (cf_61_0 230 3780 (v2 + (2 * s)) 2 N) 1 500) v0 v2 s N) else (if 9 < (mz_gI N 230 (v2 + s)) then (cf_394_47 false v0 v2 s N) else (cf_394_47 true v0 v2 s N))) else (if v0 = 0 then (.inr (cf_394_75 v2 22 N)) else (.inr (cf_394_75 v2 11 N)))
def cd_394_2 (v0 : Int32) (v2 : Int32) (N : mz_N) (s : Int32) : Prop := (s < 11 → ((v0 = 0 → ((cp_61_0 230 3780 (v2 + (2 * s)) 2 N) ∧ (cp_394_47 (cf_393_0 (cf_61_0 230 3780 (v2 + (2 * s)) 2 N) 1 500) v0 v2 s N))) ∧ (¬ (v0 = 0) → ((mz_ib (v2 + s) 3780) ∧ ((9 < (mz_gI N 230 (v2 + s)) → (cp_394_47 false v0 v2 s N)) ∧ (¬ (9 < (mz_gI N 230 (v2 + s))) → (cp_394_47 true v0 v2 s N))))))) ∧ (¬ (s < 11) → ((v0 = 0 → (cp_394_75 v2 22 N)) ∧ (¬ (v0 = 0) → (cp_394_75 v2 11 N))))
noncomputable def cf_394_2 (v0 : Int32) (v2 : Int32) (v3 : Int32) (N : mz_N) : (Bool) := mz_run (cq_394_2 v0 v2 N) (v3)
def cp_394_2 (v0 : Int32) (v2 : Int32) (v3 : Int32) (N : mz_N) : Prop := ∃ n, mz_ok (cq_394_2 v0 v2 N) (cd_394_2 v0 v2 N) n (v3)
noncomputable def cf_394_0 (v0 : Int32) (v2 : Int32) (N : mz_N) : (Bool) := (cf_394_2 v0 v2 0 N)
def cp_394_0 (v0 : Int32) (v2 : Int32) (N : mz_N) : Prop := cp_394_2 v0 v2 0 N
/-! 396 KeptHouse$Books.isSum ([II)Z -/
noncomputable def cf_396_0 (v1 : Int32) (N : mz_N) : (Bool) := (cf_393_0 (cf_61_0 230 3780 v1 8 N) (-1000000000000000) 1000000000000000)
def cp_396_0 (v1 : Int32) (N : mz_N) : Prop := cp_61_0 230 3780 v1 8 N
/-! 397 KeptHouse$Books.isAmount ([II)Z -/
noncomputable def cf_397_0 (v1 : Int32) (N : mz_N) : (Bool) := (cf_393_0 (cf_61_0 230 3780 v1 4 N) 0 100000000)
def cp_397_0 (v1 : Int32) (N : mz_N) : Prop := cp_61_0 230 3780 v1 4 N
/-! 395 KeptHouse$Books.isFlatRow ([II)Z -/
noncomputable def cf_395_0 (v1 : Int32) (N : mz_N) : (Bool) := if (cf_396_0 v1 N) = true then (if (cf_396_0 (v1 + 8) N) = true then (if (cf_397_0 (v1 + 16) N) = true then (if (cf_397_0 (v1 + 20) N) = true then (if (cf_397_0 (v1 + 24) N) = true then true else false) else false) else false) else false) else false
def cp_395_0 (v1 : Int32) (N : mz_N) : Prop := (cp_396_0 v1 N) ∧ (((cf_396_0 v1 N) = true → ((cp_396_0 (v1 + 8) N) ∧ (((cf_396_0 (v1 + 8) N) = true → ((cp_397_0 (v1 + 16) N) ∧ (((cf_397_0 (v1 + 16) N) = true → ((cp_397_0 (v1 + 20) N) ∧ (((cf_397_0 (v1 + 20) N) = true → (cp_397_0 (v1 + 24) N)) ∧ (¬ ((cf_397_0 (v1 + 20) N) = true) → True)))) ∧ (¬ ((cf_397_0 (v1 + 16) N) = true) → True)))) ∧ (¬ ((cf_396_0 (v1 + 8) N) = true) → True)))) ∧ (¬ ((cf_396_0 v1 N) = true) → True))
/-! 398 KeptHouse$Books.isCashRow ([II)Z -/
noncomputable def cf_398_0 (v1 : Int32) (N : mz_N) : (Bool) := if (cf_393_0 (cf_61_0 230 3780 v1 4 N) 0 1000000) = true then (if (cf_396_0 (v1 + 4) N) = true then (if (cf_396_0 (v1 + 12) N) = true then (if (cf_397_0 (v1 + 20) N) = true then (if (cf_397_0 (v1 + 24) N) = true then true else false) else false) else false) else false) else false
def cp_398_0 (v1 : Int32) (N : mz_N) : Prop := (cp_61_0 230 3780 v1 4 N) ∧ (((cf_393_0 (cf_61_0 230 3780 v1 4 N) 0 1000000) = true → ((cp_396_0 (v1 + 4) N) ∧ (((cf_396_0 (v1 + 4) N) = true → ((cp_396_0 (v1 + 12) N) ∧ (((cf_396_0 (v1 + 12) N) = true → ((cp_397_0 (v1 + 20) N) ∧ (((cf_397_0 (v1 + 20) N) = true → (cp_397_0 (v1 + 24) N)) ∧ (¬ ((cf_397_0 (v1 + 20) N) = true) → True)))) ∧ (¬ ((cf_396_0 (v1 + 12) N) = true) → True)))) ∧ (¬ ((cf_396_0 (v1 + 4) N) = true) → True)))) ∧ (¬ ((cf_393_0 (cf_61_0 230 3780 v1 4 N) 0 1000000) = true) → True))
/-! 399 KeptHouse$Books.isPriceRow ([II)Z -/
noncomputable def cq_399_2 (v1 : Int32) (N : mz_N) (s : Int32) : ((Int32) ⊕ (Bool)) := if s < 4 then (if (cf_393_0 (cf_61_0 230 3780 ((v1 + 8) + (4 * s)) 4 N) 0 ((cf_182_0 s).toInt64)) = true then (.inl ((s + 1))) else (.inr false)) else (if (cf_397_0 v1 N) = true then (if (cf_397_0 (v1 + 4) N) = true then (if (cf_75_0 230 v1 24 N) = true then (.inr true) else (.inr false)) else (.inr false)) else (.inr false))
def cd_399_2 (v1 : Int32) (N : mz_N) (s : Int32) : Prop := (s < 4 → (cp_61_0 230 3780 ((v1 + 8) + (4 * s)) 4 N)) ∧ (¬ (s < 4) → ((cp_397_0 v1 N) ∧ (((cf_397_0 v1 N) = true → ((cp_397_0 (v1 + 4) N) ∧ (((cf_397_0 (v1 + 4) N) = true → (cp_75_0 230 v1 24 N)) ∧ (¬ ((cf_397_0 (v1 + 4) N) = true) → True)))) ∧ (¬ ((cf_397_0 v1 N) = true) → True))))
noncomputable def cf_399_2 (v1 : Int32) (v2 : Int32) (N : mz_N) : (Bool) := mz_run (cq_399_2 v1 N) (v2)
def cp_399_2 (v1 : Int32) (v2 : Int32) (N : mz_N) : Prop := ∃ n, mz_ok (cq_399_2 v1 N) (cd_399_2 v1 N) n (v2)
noncomputable def cf_399_0 (v1 : Int32) (N : mz_N) : (Bool) := (cf_399_2 v1 0 N)
def cp_399_0 (v1 : Int32) (N : mz_N) : Prop := cp_399_2 v1 0 N
/-! 400 KeptHouse$Care.isPartRow ([II)Z -/
noncomputable def cf_400_0 (v1 : Int32) (N : mz_N) : (Bool) := if (cf_393_0 (cf_61_0 230 3780 v1 4 N) 1 100000) = true then (if (cf_393_0 (cf_61_0 230 3780 (v1 + 4) 4 N) 0 100000000) = true then (if (cf_393_0 (cf_61_0 230 3780 (v1 + 8) 4 N) 0 99) = true then (if (mz_gI N 230 (v1 + 12)) < 2 then (if (cf_75_0 230 v1 13 N) = true then true else false) else false) else false) else false) else false
def cp_400_0 (v1 : Int32) (N : mz_N) : Prop := (cp_61_0 230 3780 v1 4 N) ∧ (((cf_393_0 (cf_61_0 230 3780 v1 4 N) 1 100000) = true → ((cp_61_0 230 3780 (v1 + 4) 4 N) ∧ (((cf_393_0 (cf_61_0 230 3780 (v1 + 4) 4 N) 0 100000000) = true → ((cp_61_0 230 3780 (v1 + 8) 4 N) ∧ (((cf_393_0 (cf_61_0 230 3780 (v1 + 8) 4 N) 0 99) = true → ((mz_ib (v1 + 12) 3780) ∧ (((mz_gI N 230 (v1 + 12)) < 2 → (cp_75_0 230 v1 13 N)) ∧ (¬ ((mz_gI N 230 (v1 + 12)) < 2) → True)))) ∧ (¬ ((cf_393_0 (cf_61_0 230 3780 (v1 + 8) 4 N) 0 99) = true) → True)))) ∧ (¬ ((cf_393_0 (cf_61_0 230 3780 (v1 + 4) 4 N) 0 100000000) = true) → True)))) ∧ (¬ ((cf_393_0 (cf_61_0 230 3780 v1 4 N) 1 100000) = true) → True))
/-! 401 KeptHouse$Care.isTicketRow ([II)Z -/
noncomputable def cf_401_0 (v1 : Int32) (N : mz_N) : (Bool) := if (mz_gI N 230 v1) = 0 then (cf_75_0 230 v1 0 N) else (if (mz_gI N 230 v1) = 1 then (if (mz_gI N 230 (v1 + 1)) < 5 then (if (mz_gI N 230 (v1 + 2)) < 48 then (if 3 < (mz_gI N 230 (v1 + 3)) then false else (if (cf_393_0 (cf_61_0 230 3780 (v1 + 4) 4 N) 0 2000000) = true then (if (cf_393_0 (cf_61_0 230 3780 (v1 + 8) 4 N) 0 1000000000) = true then (if (cf_75_0 230 v1 12 N) = true then true else false) else false) else false)) else false) else false) else false)
def cp_401_0 (v1 : Int32) (N : mz_N) : Prop := (mz_ib v1 3780) ∧ (((mz_gI N 230 v1) = 0 → (cp_75_0 230 v1 0 N)) ∧ (¬ ((mz_gI N 230 v1) = 0) → ((mz_ib v1 3780) ∧ (((mz_gI N 230 v1) = 1 → ((mz_ib (v1 + 1) 3780) ∧ (((mz_gI N 230 (v1 + 1)) < 5 → ((mz_ib (v1 + 2) 3780) ∧ (((mz_gI N 230 (v1 + 2)) < 48 → ((mz_ib (v1 + 3) 3780) ∧ ((3 < (mz_gI N 230 (v1 + 3)) → True) ∧ (¬ (3 < (mz_gI N 230 (v1 + 3))) → ((cp_61_0 230 3780 (v1 + 4) 4 N) ∧ (((cf_393_0 (cf_61_0 230 3780 (v1 + 4) 4 N) 0 2000000) = true → ((cp_61_0 230 3780 (v1 + 8) 4 N) ∧ (((cf_393_0 (cf_61_0 230 3780 (v1 + 8) 4 N) 0 1000000000) = true → (cp_75_0 230 v1 12 N)) ∧ (¬ ((cf_393_0 (cf_61_0 230 3780 (v1 + 8) 4 N) 0 1000000000) = true) → True)))) ∧ (¬ ((cf_393_0 (cf_61_0 230 3780 (v1 + 4) 4 N) 0 2000000) = true) → True))))))) ∧ (¬ ((mz_gI N 230 (v1 + 2)) < 48) → True)))) ∧ (¬ ((mz_gI N 230 (v1 + 1)) < 5) → True)))) ∧ (¬ ((mz_gI N 230 v1) = 1) → True)))))
/-! 402 KeptHouse$Access.isDoorRow ([II)Z -/
noncomputable def cf_402_0 (v1 : Int32) (N : mz_N) : (Bool) := if (mz_gI N 230 v1) = 1 then (if (mz_gI N 230 (v1 + 1)) < 5 then (if (mz_gI N 230 (v1 + 2)) < 110 then (if (cf_300_0 (mz_gI N 230 (v1 + 1)) (mz_gI N 230 (v1 + 2))) = true then (if (cf_75_0 230 v1 3 N) = true then true else false) else false) else false) else false) else false
def cp_402_0 (v1 : Int32) (N : mz_N) : Prop := (mz_ib v1 3780) ∧ (((mz_gI N 230 v1) = 1 → ((mz_ib (v1 + 1) 3780) ∧ (((mz_gI N 230 (v1 + 1)) < 5 → ((mz_ib (v1 + 2) 3780) ∧ (((mz_gI N 230 (v1 + 2)) < 110 → ((mz_ib (v1 + 1) 3780) ∧ ((mz_ib (v1 + 2) 3780) ∧ (((cf_300_0 (mz_gI N 230 (v1 + 1)) (mz_gI N 230 (v1 + 2))) = true → (cp_75_0 230 v1 3 N)) ∧ (¬ ((cf_300_0 (mz_gI N 230 (v1 + 1)) (mz_gI N 230 (v1 + 2))) = true) → True))))) ∧ (¬ ((mz_gI N 230 (v1 + 2)) < 110) → True)))) ∧ (¬ ((mz_gI N 230 (v1 + 1)) < 5) → True)))) ∧ (¬ ((mz_gI N 230 v1) = 1) → True))
/-! 403 KeptHouse$Access.isCardRow ([II)Z -/
noncomputable def cf_403_0 (v1 : Int32) (N : mz_N) : (Bool) := if (mz_gI N 230 v1) = 1 then (if (mz_gI N 230 (v1 + 1)) < 24 then (if (mz_gI N 230 (v1 + 2)) < 24 then (if (mz_gI N 230 (v1 + 3)) < 2 then (if (cf_393_0 (cf_61_0 230 3780 (v1 + 4) 4 N) 0 1048575) = true then (if (cf_75_0 230 v1 8 N) = true then true else false) else false) else false) else false) else false) else false
def cp_403_0 (v1 : Int32) (N : mz_N) : Prop := (mz_ib v1 3780) ∧ (((mz_gI N 230 v1) = 1 → ((mz_ib (v1 + 1) 3780) ∧ (((mz_gI N 230 (v1 + 1)) < 24 → ((mz_ib (v1 + 2) 3780) ∧ (((mz_gI N 230 (v1 + 2)) < 24 → ((mz_ib (v1 + 3) 3780) ∧ (((mz_gI N 230 (v1 + 3)) < 2 → ((cp_61_0 230 3780 (v1 + 4) 4 N) ∧ (((cf_393_0 (cf_61_0 230 3780 (v1 + 4) 4 N) 0 1048575) = true → (cp_75_0 230 v1 8 N)) ∧ (¬ ((cf_393_0 (cf_61_0 230 3780 (v1 + 4) 4 N) 0 1048575) = true) → True)))) ∧ (¬ ((mz_gI N 230 (v1 + 3)) < 2) → True)))) ∧ (¬ ((mz_gI N 230 (v1 + 2)) < 24) → True)))) ∧ (¬ ((mz_gI N 230 (v1 + 1)) < 24) → True)))) ∧ (¬ ((mz_gI N 230 v1) = 1) → True))
/-! 388 KeptHouse$Keeper.isLegal (II[II)Z -/
noncomputable def cf_388_0 (v0 : Int32) (v1 : Int32) (v3 : Int32) (N : mz_N) : (Bool) := if v0 = 1 then (cf_389_0 v3 N) else (if v0 = 2 then (cf_390_0 v3 N) else (if v0 = 3 then (cf_391_0 v3 20 N) else (if v0 = 4 then (cf_392_0 v3 N) else (if v0 = 5 then (cf_391_0 v3 200 N) else (if v0 = 6 then true else (if v0 = 7 then (cf_394_0 v1 v3 N) else (if v0 = 8 then (cf_395_0 v3 N) else (if v0 = 9 then (cf_398_0 v3 N) else (if v0 = 10 then (cf_399_0 v3 N) else (if v0 = 11 then (cf_400_0 v3 N) else (if v0 = 12 then (cf_401_0 v3 N) else (if v0 = 13 then (cf_402_0 v3 N) else (if v0 = 14 then (cf_403_0 v3 N) else (if (mz_gI N 230 v3) = 1 then (if (cf_324_0 (mz_gI N 230 (v3 + 1)) (mz_gI N 230 (v3 + 2))) = true then (if (cf_75_0 230 v3 3 N) = true then true else false) else false) else false))))))))))))))
def cp_388_0 (v0 : Int32) (v1 : Int32) (v3 : Int32) (N : mz_N) : Prop := (v0 = 1 → (cp_389_0 v3 N)) ∧ (¬ (v0 = 1) → ((v0 = 2 → (cp_390_0 v3 N)) ∧ (¬ (v0 = 2) → ((v0 = 3 → (cp_391_0 v3 20 N)) ∧ (¬ (v0 = 3) → ((v0 = 4 → (cp_392_0 v3 N)) ∧ (¬ (v0 = 4) → ((v0 = 5 → (cp_391_0 v3 200 N)) ∧ (¬ (v0 = 5) → ((v0 = 6 → True) ∧ (¬ (v0 = 6) → ((v0 = 7 → (cp_394_0 v1 v3 N)) ∧ (¬ (v0 = 7) → ((v0 = 8 → (cp_395_0 v3 N)) ∧ (¬ (v0 = 8) → ((v0 = 9 → (cp_398_0 v3 N)) ∧ (¬ (v0 = 9) → ((v0 = 10 → (cp_399_0 v3 N)) ∧ (¬ (v0 = 10) → ((v0 = 11 → (cp_400_0 v3 N)) ∧ (¬ (v0 = 11) → ((v0 = 12 → (cp_401_0 v3 N)) ∧ (¬ (v0 = 12) → ((v0 = 13 → (cp_402_0 v3 N)) ∧ (¬ (v0 = 13) → ((v0 = 14 → (cp_403_0 v3 N)) ∧ (¬ (v0 = 14) → ((mz_ib v3 3780) ∧ (((mz_gI N 230 v3) = 1 → ((mz_ib (v3 + 1) 3780) ∧ ((mz_ib (v3 + 2) 3780) ∧ (((cf_324_0 (mz_gI N 230 (v3 + 1)) (mz_gI N 230 (v3 + 2))) = true → (cp_75_0 230 v3 3 N)) ∧ (¬ ((cf_324_0 (mz_gI N 230 (v3 + 1)) (mz_gI N 230 (v3 + 2))) = true) → True))))) ∧ (¬ ((mz_gI N 230 v3) = 1) → True))))))))))))))))))))))))))))))
/-! 404 KeptHouse$Keeper.hasFewSpaces ()Z -/
noncomputable def cf_404_46 (v1 : Int32) (N : mz_N) : ((Int32 × mz_N) ⊕ (Bool × mz_N)) := (.inl ((v1 + 1), N))
def cp_404_46 (v1 : Int32) (N : mz_N) : Prop := True
noncomputable def cq_404_12  (s : Int32 × mz_N) : ((Int32 × mz_N) ⊕ (Bool × mz_N)) := if s.1 < 5 then (if (mz_gI s.2 231 s.1) = 1 then (cf_404_46 s.1 (cf_58_0 230 12 s.1 (s.1 * 28) s.2)) else (cf_404_46 s.1 s.2)) else (if 40 < ((cf_116_0 s.2).1) then (.inr (false, (cf_116_0 s.2).2)) else (.inr (true, (cf_116_0 s.2).2)))
def cd_404_12  (s : Int32 × mz_N) : Prop := (s.1 < 5 → ((mz_ib s.1 135) ∧ (((mz_gI s.2 231 s.1) = 1 → ((cp_58_0 230 12 s.1 (s.1 * 28) s.2) ∧ (cp_404_46 s.1 (cf_58_0 230 12 s.1 (s.1 * 28) s.2)))) ∧ (¬ ((mz_gI s.2 231 s.1) = 1) → (cp_404_46 s.1 s.2))))) ∧ (¬ (s.1 < 5) → (cp_116_0 s.2))
noncomputable def cf_404_12 (v1 : Int32) (N : mz_N) : (Bool × mz_N) := mz_run (cq_404_12 ) (v1, N)
def cp_404_12 (v1 : Int32) (N : mz_N) : Prop := ∃ n, mz_ok (cq_404_12 ) (cd_404_12 ) n (v1, N)
noncomputable def cf_404_0 (N : mz_N) : (Bool × mz_N) := (cf_404_12 0 (cf_19_0 12 N))
def cp_404_0 (N : mz_N) : Prop := (cp_19_0 12 N) ∧ (cp_404_12 0 (cf_19_0 12 N))
/-! 405 KeptHouse$Keeper.areNumbersApart ()Z -/
noncomputable def cf_405_87 (v1 : Int32) (v2 : Int32) (N : mz_N) : ((Int32) ⊕ ((Int32) ⊕ (Bool))) := (.inl ((v2 + 1)))
def cp_405_87 (v1 : Int32) (v2 : Int32) (N : mz_N) : Prop := True
noncomputable def cq_405_12 (v1 : Int32) (N : mz_N) (s : Int32) : ((Int32) ⊕ ((Int32) ⊕ (Bool))) := if s < 16 then (if (mz_gI N 230 ((51 + v1) * 28)) = 1 then (if (mz_gI N 230 ((51 + s) * 28)) = 1 then (if (cf_61_0 230 3780 (((51 + v1) * 28) + 8) 4 N) = (cf_61_0 230 3780 (((51 + s) * 28) + 8) 4 N) then (.inr (.inr false)) else (cf_405_87 v1 s N)) else (cf_405_87 v1 s N)) else (cf_405_87 v1 s N)) else (.inr (.inl ((v1 + 1))))
def cd_405_12 (v1 : Int32) (N : mz_N) (s : Int32) : Prop := (s < 16 → ((mz_ib ((51 + v1) * 28) 3780) ∧ (((mz_gI N 230 ((51 + v1) * 28)) = 1 → ((mz_ib ((51 + s) * 28) 3780) ∧ (((mz_gI N 230 ((51 + s) * 28)) = 1 → ((cp_61_0 230 3780 (((51 + v1) * 28) + 8) 4 N) ∧ ((cp_61_0 230 3780 (((51 + s) * 28) + 8) 4 N) ∧ (((cf_61_0 230 3780 (((51 + v1) * 28) + 8) 4 N) = (cf_61_0 230 3780 (((51 + s) * 28) + 8) 4 N) → True) ∧ (¬ ((cf_61_0 230 3780 (((51 + v1) * 28) + 8) 4 N) = (cf_61_0 230 3780 (((51 + s) * 28) + 8) 4 N)) → (cp_405_87 v1 s N)))))) ∧ (¬ ((mz_gI N 230 ((51 + s) * 28)) = 1) → (cp_405_87 v1 s N))))) ∧ (¬ ((mz_gI N 230 ((51 + v1) * 28)) = 1) → (cp_405_87 v1 s N))))) ∧ (¬ (s < 16) → True)
noncomputable def cf_405_12 (v1 : Int32) (v2 : Int32) (N : mz_N) : ((Int32) ⊕ (Bool)) := mz_run (cq_405_12 v1 N) (v2)
def cp_405_12 (v1 : Int32) (v2 : Int32) (N : mz_N) : Prop := ∃ n, mz_ok (cq_405_12 v1 N) (cd_405_12 v1 N) n (v2)
noncomputable def cq_405_2 (N : mz_N) (s : Int32) : ((Int32) ⊕ (Bool)) := if s < 16 then (cf_405_12 s (s + 1) N) else (.inr true)
def cd_405_2 (N : mz_N) (s : Int32) : Prop := (s < 16 → (cp_405_12 s (s + 1) N)) ∧ (¬ (s < 16) → True)
noncomputable def cf_405_2 (v1 : Int32) (N : mz_N) : (Bool) := mz_run (cq_405_2 N) (v1)
def cp_405_2 (v1 : Int32) (N : mz_N) : Prop := ∃ n, mz_ok (cq_405_2 N) (cd_405_2 N) n (v1)
noncomputable def cf_405_0 (N : mz_N) : (Bool) := (cf_405_2 0 N)
def cp_405_0 (N : mz_N) : Prop := cp_405_2 0 N
/-! 387 KeptHouse$Keeper.isWithinBounds ()Z -/
noncomputable def cf_387_43 (v1 : Int32) (N : mz_N) (b : Bool) : ((Int32) ⊕ (Bool × mz_N)) := (.inl ((v1 + 1)))
def cp_387_43 (v1 : Int32) (N : mz_N) (b : Bool) : Prop := True
noncomputable def cf_387_111 (N : mz_N) (b : Bool) : (Bool × mz_N) := (false, N)
def cp_387_111 (N : mz_N) (b : Bool) : Prop := True
noncomputable def cq_387_2 (N : mz_N) (b : Bool) (s : Int32) : ((Int32) ⊕ (Bool × mz_N)) := if s < 135 then (if (mz_gI N 231 s) = 1 then (if (cf_388_0 (cf_55_0 s) (cf_56_0 s) (s * 28) N) = true then (cf_387_43 s N b) else (.inr (false, N))) else (cf_387_43 s N b)) else (if ((cf_404_0 N).1) = true then (if (cf_405_0 ((cf_404_0 N).2)) = true then (if ((cf_74_0 230 728 ((cf_404_0 N).2)).1) = true then (if ((cf_23_0 (mz_ot b) 55 (((cf_74_0 230 728 ((cf_404_0 N).2)).2).1 41 9) ((cf_74_0 230 728 ((cf_404_0 N).2)).2)).1) = true then (.inr (true, (cf_23_0 (mz_ot b) 55 (((cf_74_0 230 728 ((cf_404_0 N).2)).2).1 41 9) ((cf_74_0 230 728 ((cf_404_0 N).2)).2)).2)) else (.inr (cf_387_111 ((cf_23_0 (mz_ot b) 55 (((cf_74_0 230 728 ((cf_404_0 N).2)).2).1 41 9) ((cf_74_0 230 728 ((cf_404_0 N).2)).2)).2) b))) else (.inr (cf_387_111 ((cf_74_0 230 728 ((cf_404_0 N).2)).2) b))) else (.inr (cf_387_111 ((cf_404_0 N).2) b))) else (.inr (cf_387_111 ((cf_404_0 N).2) b)))
def cd_387_2 (N : mz_N) (b : Bool) (s : Int32) : Prop := (s < 135 → ((mz_ib s 135) ∧ (((mz_gI N 231 s) = 1 → ((cp_55_0 s) ∧ ((cp_56_0 s) ∧ ((cp_388_0 (cf_55_0 s) (cf_56_0 s) (s * 28) N) ∧ (((cf_388_0 (cf_55_0 s) (cf_56_0 s) (s * 28) N) = true → (cp_387_43 s N b)) ∧ (¬ ((cf_388_0 (cf_55_0 s) (cf_56_0 s) (s * 28) N) = true) → True)))))) ∧ (¬ ((mz_gI N 231 s) = 1) → (cp_387_43 s N b))))) ∧ (¬ (s < 135) → ((cp_404_0 N) ∧ ((((cf_404_0 N).1) = true → ((cp_405_0 ((cf_404_0 N).2)) ∧ (((cf_405_0 ((cf_404_0 N).2)) = true → ((cp_74_0 230 728 ((cf_404_0 N).2)) ∧ ((((cf_74_0 230 728 ((cf_404_0 N).2)).1) = true → ((cp_23_0 (mz_ot b) 55 (((cf_74_0 230 728 ((cf_404_0 N).2)).2).1 41 9) ((cf_74_0 230 728 ((cf_404_0 N).2)).2)) ∧ ((((cf_23_0 (mz_ot b) 55 (((cf_74_0 230 728 ((cf_404_0 N).2)).2).1 41 9) ((cf_74_0 230 728 ((cf_404_0 N).2)).2)).1) = true → True) ∧ (¬ (((cf_23_0 (mz_ot b) 55 (((cf_74_0 230 728 ((cf_404_0 N).2)).2).1 41 9) ((cf_74_0 230 728 ((cf_404_0 N).2)).2)).1) = true) → (cp_387_111 ((cf_23_0 (mz_ot b) 55 (((cf_74_0 230 728 ((cf_404_0 N).2)).2).1 41 9) ((cf_74_0 230 728 ((cf_404_0 N).2)).2)).2) b))))) ∧ (¬ (((cf_74_0 230 728 ((cf_404_0 N).2)).1) = true) → (cp_387_111 ((cf_74_0 230 728 ((cf_404_0 N).2)).2) b))))) ∧ (¬ ((cf_405_0 ((cf_404_0 N).2)) = true) → (cp_387_111 ((cf_404_0 N).2) b))))) ∧ (¬ (((cf_404_0 N).1) = true) → (cp_387_111 ((cf_404_0 N).2) b)))))
noncomputable def cf_387_2 (v1 : Int32) (N : mz_N) (b : Bool) : (Bool × mz_N) := mz_run (cq_387_2 N b) (v1)
def cp_387_2 (v1 : Int32) (N : mz_N) (b : Bool) : Prop := ∃ n, mz_ok (cq_387_2 N b) (cd_387_2 N b) n (v1)
noncomputable def cf_387_0 (N : mz_N) (b : Bool) : (Bool × mz_N) := (cf_387_2 0 N b)
def cp_387_0 (N : mz_N) (b : Bool) : Prop := cp_387_2 0 N b
/-! 385 KeptHouse$Keeper.judgeReel ()I -/
noncomputable def cf_385_99 (N : mz_N) (b : Bool) : (Int32 × mz_N) := (4, N)
def cp_385_99 (N : mz_N) (b : Bool) : Prop := True
noncomputable def cf_385_0 (N : mz_N) (b : Bool) : (Int32 × mz_N) := if (N.1 1 12) < 2 then (1, N) else (if (N.1 1 12) = (6 + (((mz_gI N 229 0) + (256 * (mz_gI N 229 1))) * 30)) then (if (cf_16_0 229 4100 0 ((N.1 1 12) - 4) N) = ((cf_61_0 229 4100 ((N.1 1 12) - 4) 4 N).toInt32) then (if ((cf_386_0 ((mz_gI N 229 0) + (256 * (mz_gI N 229 1))) N).1) = true then (if ((cf_387_0 ((cf_386_0 ((mz_gI N 229 0) + (256 * (mz_gI N 229 1))) N).2) b).1) = true then (0, (cf_387_0 ((cf_386_0 ((mz_gI N 229 0) + (256 * (mz_gI N 229 1))) N).2) b).2) else (cf_385_99 ((cf_387_0 ((cf_386_0 ((mz_gI N 229 0) + (256 * (mz_gI N 229 1))) N).2) b).2) b)) else (3, (cf_386_0 ((mz_gI N 229 0) + (256 * (mz_gI N 229 1))) N).2)) else (2, N)) else (1, N))
def cp_385_0 (N : mz_N) (b : Bool) : Prop := ((N.1 1 12) < 2 → True) ∧ (¬ ((N.1 1 12) < 2) → (((N.1 1 12) = (6 + (((mz_gI N 229 0) + (256 * (mz_gI N 229 1))) * 30)) → ((cp_16_0 229 4100 0 ((N.1 1 12) - 4) N) ∧ ((cp_61_0 229 4100 ((N.1 1 12) - 4) 4 N) ∧ (((cf_16_0 229 4100 0 ((N.1 1 12) - 4) N) = ((cf_61_0 229 4100 ((N.1 1 12) - 4) 4 N).toInt32) → ((cp_386_0 ((mz_gI N 229 0) + (256 * (mz_gI N 229 1))) N) ∧ ((((cf_386_0 ((mz_gI N 229 0) + (256 * (mz_gI N 229 1))) N).1) = true → ((cp_387_0 ((cf_386_0 ((mz_gI N 229 0) + (256 * (mz_gI N 229 1))) N).2) b) ∧ ((((cf_387_0 ((cf_386_0 ((mz_gI N 229 0) + (256 * (mz_gI N 229 1))) N).2) b).1) = true → True) ∧ (¬ (((cf_387_0 ((cf_386_0 ((mz_gI N 229 0) + (256 * (mz_gI N 229 1))) N).2) b).1) = true) → (cp_385_99 ((cf_387_0 ((cf_386_0 ((mz_gI N 229 0) + (256 * (mz_gI N 229 1))) N).2) b).2) b))))) ∧ (¬ (((cf_386_0 ((mz_gI N 229 0) + (256 * (mz_gI N 229 1))) N).1) = true) → True)))) ∧ (¬ ((cf_16_0 229 4100 0 ((N.1 1 12) - 4) N) = ((cf_61_0 229 4100 ((N.1 1 12) - 4) 4 N).toInt32)) → True))))) ∧ (¬ ((N.1 1 12) = (6 + (((mz_gI N 229 0) + (256 * (mz_gI N 229 1))) * 30))) → True)))
/-! 407 KeptHouse$Store.replaceKeys ([I[I)V -/
noncomputable def cf_407_0 (N : mz_N) : (mz_N) := mz_yI (mz_yI N 230 0 223 0 3780) 231 0 224 0 135
def cp_407_0 (N : mz_N) : Prop := True
/-! 406 KeptHouse$Keeper.takeReel ()Z -/
noncomputable def cf_406_0 (N : mz_N) : (Bool × mz_N) := if ((cf_137_0 230 231 N).1) = true then (true, (cf_407_0 ((cf_137_0 230 231 N).2))) else (false, (cf_137_0 230 231 N).2)
def cp_406_0 (N : mz_N) : Prop := cp_137_0 230 231 N
/-! 384 KeptHouse.put ()I -/
noncomputable def cf_384_0 (N : mz_N) (b : Bool) : (Nat × Int32 × mz_N × Bool) := if (cf_104_0 N) = 0 then (if ((cf_385_0 N b).1) = 0 then (if ((cf_406_0 ((cf_385_0 N b).2)).1) = true then (0, 0, (cf_17_0 ((cf_406_0 ((cf_385_0 N b).2)).2) b).1, (cf_17_0 ((cf_406_0 ((cf_385_0 N b).2)).2) b).2) else (0, (-1001), (cf_406_0 ((cf_385_0 N b).2)).2, b)) else (0, ((cf_385_0 N b).1), (cf_385_0 N b).2, b)) else ((cf_104_0 N), 0, N, b)
def cp_384_0 (N : mz_N) (b : Bool) : Prop := (cp_104_0 N) ∧ (((cf_104_0 N) = 0 → ((cp_385_0 N b) ∧ ((((cf_385_0 N b).1) = 0 → ((cp_406_0 ((cf_385_0 N b).2)) ∧ ((((cf_406_0 ((cf_385_0 N b).2)).1) = true → (cp_17_0 ((cf_406_0 ((cf_385_0 N b).2)).2) b)) ∧ (¬ (((cf_406_0 ((cf_385_0 N b).2)).1) = true) → True)))) ∧ (¬ (((cf_385_0 N b).1) = 0) → True)))) ∧ (¬ ((cf_104_0 N) = 0) → True))
/-! 383 KeptHouseLaw.put (LKeptHouse;[J)I -/
noncomputable def cf_383_0 (N : mz_N) (b : Bool) (t : Nat) : (Int32 × mz_N × Bool × Nat) := if (cf_384_0 N b).1 = 0 then (0, mz_wL ((cf_384_0 N b).2.2.1) 342 0 (((cf_384_0 N b).2.1).toInt64), (cf_384_0 N b).2.2.2, t) else (1, (cf_384_0 N b).2.2.1, (cf_384_0 N b).2.2.2, t + 1)
def cp_383_0 (N : mz_N) (b : Bool) (t : Nat) : Prop := (cp_384_0 N b) ∧ ((t < 1000) ∧ (((cf_384_0 N b).1 = 0 → True) ∧ (¬ ((cf_384_0 N b).1 = 0) → ((cf_384_0 N b).1 = 2))))
/-! 410 KeptHouseModel.set (IIJ)V -/
noncomputable def cf_410_27 (v1 : Int32) (v2 : Int32) (v3 : Int64) (v5 : Int32) (N : mz_N) : ((Int32 × mz_N) ⊕ (mz_N)) := (.inl ((v5 + 1), N))
def cp_410_27 (v1 : Int32) (v2 : Int32) (v3 : Int64) (v5 : Int32) (N : mz_N) : Prop := True
noncomputable def cq_410_3 (v1 : Int32) (v2 : Int32) (v3 : Int64) (s : Int32 × mz_N) : ((Int32 × mz_N) ⊕ (mz_N)) := if s.1 < v2 then (cf_410_27 v1 v2 v3 s.1 (mz_wI s.2 332 (v1 + s.1) (mz_nb (mz_i2b ((mz_lshr v3 (8 * s.1)).toInt32))))) else (.inr s.2)
def cd_410_3 (v1 : Int32) (v2 : Int32) (v3 : Int64) (s : Int32 × mz_N) : Prop := (s.1 < v2 → ((mz_ib (v1 + s.1) 28) ∧ (cp_410_27 v1 v2 v3 s.1 (mz_wI s.2 332 (v1 + s.1) (mz_nb (mz_i2b ((mz_lshr v3 (8 * s.1)).toInt32))))))) ∧ (¬ (s.1 < v2) → True)
noncomputable def cf_410_3 (v1 : Int32) (v2 : Int32) (v3 : Int64) (v5 : Int32) (N : mz_N) : (mz_N) := mz_run (cq_410_3 v1 v2 v3) (v5, N)
def cp_410_3 (v1 : Int32) (v2 : Int32) (v3 : Int64) (v5 : Int32) (N : mz_N) : Prop := ∃ n, mz_ok (cq_410_3 v1 v2 v3) (cd_410_3 v1 v2 v3) n (v5, N)
noncomputable def cf_410_0 (v1 : Int32) (v2 : Int32) (v3 : Int64) (N : mz_N) : (mz_N) := (cf_410_3 v1 v2 v3 0 N)
def cp_410_0 (v1 : Int32) (v2 : Int32) (v3 : Int64) (N : mz_N) : Prop := cp_410_3 v1 v2 v3 0 N
/-! 412 KeptHouseModel.setIn ([BIIJ)V -/
noncomputable def cf_412_24 (a0 : Nat) (n0 : Nat) (v1 : Int32) (v2 : Int32) (v3 : Int64) (v5 : Int32) (N : mz_N) : ((Int32 × mz_N) ⊕ (mz_N)) := (.inl ((v5 + 1), N))
def cp_412_24 (a0 : Nat) (n0 : Nat) (v1 : Int32) (v2 : Int32) (v3 : Int64) (v5 : Int32) (N : mz_N) : Prop := True
noncomputable def cq_412_3 (a0 : Nat) (n0 : Nat) (v1 : Int32) (v2 : Int32) (v3 : Int64) (s : Int32 × mz_N) : ((Int32 × mz_N) ⊕ (mz_N)) := if s.1 < v2 then (cf_412_24 a0 n0 v1 v2 v3 s.1 (mz_wI s.2 a0 (v1 + s.1) (mz_nb (mz_i2b ((mz_lshr v3 (8 * s.1)).toInt32))))) else (.inr s.2)
def cd_412_3 (a0 : Nat) (n0 : Nat) (v1 : Int32) (v2 : Int32) (v3 : Int64) (s : Int32 × mz_N) : Prop := (s.1 < v2 → ((mz_ib (v1 + s.1) n0) ∧ (cp_412_24 a0 n0 v1 v2 v3 s.1 (mz_wI s.2 a0 (v1 + s.1) (mz_nb (mz_i2b ((mz_lshr v3 (8 * s.1)).toInt32))))))) ∧ (¬ (s.1 < v2) → True)
noncomputable def cf_412_3 (a0 : Nat) (n0 : Nat) (v1 : Int32) (v2 : Int32) (v3 : Int64) (v5 : Int32) (N : mz_N) : (mz_N) := mz_run (cq_412_3 a0 n0 v1 v2 v3) (v5, N)
def cp_412_3 (a0 : Nat) (n0 : Nat) (v1 : Int32) (v2 : Int32) (v3 : Int64) (v5 : Int32) (N : mz_N) : Prop := ∃ n, mz_ok (cq_412_3 a0 n0 v1 v2 v3) (cd_412_3 a0 n0 v1 v2 v3) n (v5, N)
noncomputable def cf_412_0 (a0 : Nat) (n0 : Nat) (v1 : Int32) (v2 : Int32) (v3 : Int64) (N : mz_N) : (mz_N) := (cf_412_3 a0 n0 v1 v2 v3 0 N)
def cp_412_0 (a0 : Nat) (n0 : Nat) (v1 : Int32) (v2 : Int32) (v3 : Int64) (N : mz_N) : Prop := cp_412_3 a0 n0 v1 v2 v3 0 N
/-! 413 KeptHouseModel.crcOf ([BII)I -/
noncomputable def cf_413_54 (a0 : Nat) (n0 : Nat) (s0 : Int32) (v1 : Int32) (v2 : Int32) (v4 : Int32) (v5 : Int32) (N : mz_N) : ((Int32 × Int32) ⊕ ((Int32 × Int32) ⊕ (Int32))) := (.inl (s0, (v5 + 1)))
def cp_413_54 (a0 : Nat) (n0 : Nat) (s0 : Int32) (v1 : Int32) (v2 : Int32) (v4 : Int32) (v5 : Int32) (N : mz_N) : Prop := True
noncomputable def cq_413_27 (a0 : Nat) (n0 : Nat) (v1 : Int32) (v2 : Int32) (v4 : Int32) (N : mz_N) (s : Int32 × Int32) : ((Int32 × Int32) ⊕ ((Int32 × Int32) ⊕ (Int32))) := if s.2 < 8 then (if (s.1 &&& 1) = 1 then (cf_413_54 a0 n0 ((mz_iushr s.1 1) ^^^ (-306674912)) v1 v2 v4 s.2 N) else (cf_413_54 a0 n0 (mz_iushr s.1 1) v1 v2 v4 s.2 N)) else (.inr (.inl (s.1, (v4 + 1))))
def cd_413_27 (a0 : Nat) (n0 : Nat) (v1 : Int32) (v2 : Int32) (v4 : Int32) (N : mz_N) (s : Int32 × Int32) : Prop := (s.2 < 8 → (((s.1 &&& 1) = 1 → (cp_413_54 a0 n0 ((mz_iushr s.1 1) ^^^ (-306674912)) v1 v2 v4 s.2 N)) ∧ (¬ ((s.1 &&& 1) = 1) → (cp_413_54 a0 n0 (mz_iushr s.1 1) v1 v2 v4 s.2 N)))) ∧ (¬ (s.2 < 8) → True)
noncomputable def cf_413_27 (a0 : Nat) (n0 : Nat) (v1 : Int32) (v2 : Int32) (v3 : Int32) (v4 : Int32) (v5 : Int32) (N : mz_N) : ((Int32 × Int32) ⊕ (Int32)) := mz_run (cq_413_27 a0 n0 v1 v2 v4 N) (v3, v5)
def cp_413_27 (a0 : Nat) (n0 : Nat) (v1 : Int32) (v2 : Int32) (v3 : Int32) (v4 : Int32) (v5 : Int32) (N : mz_N) : Prop := ∃ n, mz_ok (cq_413_27 a0 n0 v1 v2 v4 N) (cd_413_27 a0 n0 v1 v2 v4 N) n (v3, v5)
noncomputable def cq_413_5 (a0 : Nat) (n0 : Nat) (v1 : Int32) (v2 : Int32) (N : mz_N) (s : Int32 × Int32) : ((Int32 × Int32) ⊕ (Int32)) := if s.2 < v2 then (cf_413_27 a0 n0 v1 v2 (s.1 ^^^ ((mz_gI N a0 (v1 + s.2)) &&& 255)) s.2 0 N) else (.inr (s.1 ^^^ (-1)))
def cd_413_5 (a0 : Nat) (n0 : Nat) (v1 : Int32) (v2 : Int32) (N : mz_N) (s : Int32 × Int32) : Prop := (s.2 < v2 → ((mz_ib (v1 + s.2) n0) ∧ (cp_413_27 a0 n0 v1 v2 (s.1 ^^^ ((mz_gI N a0 (v1 + s.2)) &&& 255)) s.2 0 N))) ∧ (¬ (s.2 < v2) → True)
noncomputable def cf_413_5 (a0 : Nat) (n0 : Nat) (v1 : Int32) (v2 : Int32) (v3 : Int32) (v4 : Int32) (N : mz_N) : (Int32) := mz_run (cq_413_5 a0 n0 v1 v2 N) (v3, v4)
def cp_413_5 (a0 : Nat) (n0 : Nat) (v1 : Int32) (v2 : Int32) (v3 : Int32) (v4 : Int32) (N : mz_N) : Prop := ∃ n, mz_ok (cq_413_5 a0 n0 v1 v2 N) (cd_413_5 a0 n0 v1 v2 N) n (v3, v4)
noncomputable def cf_413_0 (a0 : Nat) (n0 : Nat) (v1 : Int32) (v2 : Int32) (N : mz_N) : (Int32) := (cf_413_5 a0 n0 v1 v2 (-1) 0 N)
def cp_413_0 (a0 : Nat) (n0 : Nat) (v1 : Int32) (v2 : Int32) (N : mz_N) : Prop := cp_413_5 a0 n0 v1 v2 (-1) 0 N
/-! 411 KeptHouseModel.writeRow (IIIIZJ)Z -/
noncomputable def cf_411_44 (s1 : Int32) (s2 : Int32) (v1 : Int32) (v2 : Int32) (v3 : Int32) (v4 : Int32) (v5 : Bool) (v6 : Int64) (v8 : Int32) (N : mz_N) : ((Int32 × mz_N) ⊕ (Bool × mz_N)) := (.inl ((v8 + 1), mz_wI N 341 s1 (mz_nb s2)))
def cp_411_44 (s1 : Int32) (s2 : Int32) (v1 : Int32) (v2 : Int32) (v3 : Int32) (v4 : Int32) (v5 : Bool) (v6 : Int64) (v8 : Int32) (N : mz_N) : Prop := mz_ib s1 48
noncomputable def cf_411_43 (s1 : Int32) (v1 : Int32) (v2 : Int32) (v3 : Int32) (v4 : Int32) (v5 : Bool) (v6 : Int64) (v8 : Int32) (N : mz_N) : ((Int32 × mz_N) ⊕ (Bool × mz_N)) := (cf_411_44 s1 0 v1 v2 v3 v4 v5 v6 v8 N)
def cp_411_43 (s1 : Int32) (v1 : Int32) (v2 : Int32) (v3 : Int32) (v4 : Int32) (v5 : Bool) (v6 : Int64) (v8 : Int32) (N : mz_N) : Prop := cp_411_44 s1 0 v1 v2 v3 v4 v5 v6 v8 N
noncomputable def cf_411_255 (s1 : Bool) (v8 : Bool) (N : mz_N) : (Bool × mz_N) := (v8, mz_pI N 232 137 (mz_b01 s1))
def cp_411_255 (s1 : Bool) (v8 : Bool) (N : mz_N) : Prop := True
noncomputable def cf_411_250 (v8 : Bool) (N : mz_N) : (Bool × mz_N) := (cf_411_255 true v8 N)
def cp_411_250 (v8 : Bool) (N : mz_N) : Prop := cp_411_255 true v8 N
noncomputable def cf_411_233 (s1 : Int32) (s2 : Bool) (v8 : Bool) (N : mz_N) : (Bool × mz_N) := if (mz_fZ (mz_pI N 232 136 (s1 - (mz_b01 s2))) 232 137) = true then (cf_411_250 v8 (mz_pI N 232 136 (s1 - (mz_b01 s2)))) else (if v8 = true then (cf_411_255 false v8 (mz_pI N 232 136 (s1 - (mz_b01 s2)))) else (cf_411_250 v8 (mz_pI N 232 136 (s1 - (mz_b01 s2)))))
def cp_411_233 (s1 : Int32) (s2 : Bool) (v8 : Bool) (N : mz_N) : Prop := (mz_z01 ((mz_pI N 232 136 (s1 - (mz_b01 s2))).1 232 137)) ∧ (((mz_fZ (mz_pI N 232 136 (s1 - (mz_b01 s2))) 232 137) = true → (cp_411_250 v8 (mz_pI N 232 136 (s1 - (mz_b01 s2))))) ∧ (¬ ((mz_fZ (mz_pI N 232 136 (s1 - (mz_b01 s2))) 232 137) = true) → ((v8 = true → (cp_411_255 false v8 (mz_pI N 232 136 (s1 - (mz_b01 s2))))) ∧ (¬ (v8 = true) → (cp_411_250 v8 (mz_pI N 232 136 (s1 - (mz_b01 s2))))))))
noncomputable def cf_411_215 (s1 : Int32) (s2 : Bool) (v8 : Bool) (N : mz_N) : (Bool × mz_N) := if 0 < ((mz_wI N 329 s1 (mz_nb (mz_b01 s2))).1 232 136) then (cf_411_233 ((mz_wI N 329 s1 (mz_nb (mz_b01 s2))).1 232 136) true v8 (mz_wI N 329 s1 (mz_nb (mz_b01 s2)))) else (cf_411_233 ((mz_wI N 329 s1 (mz_nb (mz_b01 s2))).1 232 136) false v8 (mz_wI N 329 s1 (mz_nb (mz_b01 s2))))
def cp_411_215 (s1 : Int32) (s2 : Bool) (v8 : Bool) (N : mz_N) : Prop := (mz_ib s1 19200) ∧ ((0 < ((mz_wI N 329 s1 (mz_nb (mz_b01 s2))).1 232 136) → (cp_411_233 ((mz_wI N 329 s1 (mz_nb (mz_b01 s2))).1 232 136) true v8 (mz_wI N 329 s1 (mz_nb (mz_b01 s2))))) ∧ (¬ (0 < ((mz_wI N 329 s1 (mz_nb (mz_b01 s2))).1 232 136)) → (cp_411_233 ((mz_wI N 329 s1 (mz_nb (mz_b01 s2))).1 232 136) false v8 (mz_wI N 329 s1 (mz_nb (mz_b01 s2))))))
noncomputable def cf_411_171 (s0 : Int32) (s1 : Int32) (v8 : Bool) (v9 : Int32) (v10 : Int32) (N : mz_N) : ((Int32 × mz_N) ⊕ (Bool × mz_N)) := if s0 < s1 then (.inl ((v10 + 1), mz_wI N 329 (v9 + v10) (mz_nb (mz_gI N 341 v10)))) else (if v8 = true then (.inr (cf_411_215 (v9 + 3) false v8 N)) else (.inr (cf_411_215 (v9 + 3) true v8 N)))
def cp_411_171 (s0 : Int32) (s1 : Int32) (v8 : Bool) (v9 : Int32) (v10 : Int32) (N : mz_N) : Prop := (s0 < s1 → ((mz_ib v10 48) ∧ (mz_ib (v9 + v10) 19200))) ∧ (¬ (s0 < s1) → ((v8 = true → (cp_411_215 (v9 + 3) false v8 N)) ∧ (¬ (v8 = true) → (cp_411_215 (v9 + 3) true v8 N))))
noncomputable def cq_411_157 (v8 : Bool) (v9 : Int32) (s : Int32 × mz_N) : ((Int32 × mz_N) ⊕ (Bool × mz_N)) := if v8 = true then (cf_411_171 s.1 48 v8 v9 s.1 s.2) else (cf_411_171 s.1 24 v8 v9 s.1 s.2)
def cd_411_157 (v8 : Bool) (v9 : Int32) (s : Int32 × mz_N) : Prop := (v8 = true → (cp_411_171 s.1 48 v8 v9 s.1 s.2)) ∧ (¬ (v8 = true) → (cp_411_171 s.1 24 v8 v9 s.1 s.2))
noncomputable def cf_411_157 (v8 : Bool) (v9 : Int32) (v10 : Int32) (N : mz_N) : (Bool × mz_N) := mz_run (cq_411_157 v8 v9) (v10, N)
def cp_411_157 (v8 : Bool) (v9 : Int32) (v10 : Int32) (N : mz_N) : Prop := ∃ n, mz_ok (cq_411_157 v8 v9) (cd_411_157 v8 v9) n (v10, N)
noncomputable def cf_411_140 (s0 : Bool) (v1 : Int32) (v2 : Int32) (N : mz_N) : (Bool × mz_N) := (cf_411_157 s0 ((9600 * v1) + (48 * v2)) 0 N)
def cp_411_140 (s0 : Bool) (v1 : Int32) (v2 : Int32) (N : mz_N) : Prop := cp_411_157 s0 ((9600 * v1) + (48 * v2)) 0 N
noncomputable def cf_411_107 (v1 : Int32) (v2 : Int32) (N : mz_N) : (Bool × mz_N) := if ((cf_412_0 341 48 44 4 ((cf_413_0 341 48 0 44 N).toInt64) N).1 232 136) = 0 then (cf_411_140 false v1 v2 (cf_412_0 341 48 44 4 ((cf_413_0 341 48 0 44 N).toInt64) N)) else (cf_411_140 true v1 v2 (cf_412_0 341 48 44 4 ((cf_413_0 341 48 0 44 N).toInt64) N))
def cp_411_107 (v1 : Int32) (v2 : Int32) (N : mz_N) : Prop := (cp_413_0 341 48 0 44 N) ∧ ((cp_412_0 341 48 44 4 ((cf_413_0 341 48 0 44 N).toInt64) N) ∧ ((((cf_412_0 341 48 44 4 ((cf_413_0 341 48 0 44 N).toInt64) N).1 232 136) = 0 → (cp_411_140 false v1 v2 (cf_412_0 341 48 44 4 ((cf_413_0 341 48 0 44 N).toInt64) N))) ∧ (¬ (((cf_412_0 341 48 44 4 ((cf_413_0 341 48 0 44 N).toInt64) N).1 232 136) = 0) → (cp_411_140 true v1 v2 (cf_412_0 341 48 44 4 ((cf_413_0 341 48 0 44 N).toInt64) N)))))
noncomputable def cf_411_83 (s1 : Int32) (s2 : Bool) (v1 : Int32) (v2 : Int32) (v6 : Int64) (N : mz_N) : (Bool × mz_N) := (cf_411_107 v1 v2 (cf_412_0 341 48 8 4 v6 (cf_412_0 341 48 4 4 v2.toInt64 (mz_wI N 341 s1 (mz_nb (mz_b01 s2))))))
def cp_411_83 (s1 : Int32) (s2 : Bool) (v1 : Int32) (v2 : Int32) (v6 : Int64) (N : mz_N) : Prop := (mz_ib s1 48) ∧ ((cp_412_0 341 48 4 4 v2.toInt64 (mz_wI N 341 s1 (mz_nb (mz_b01 s2)))) ∧ ((cp_412_0 341 48 8 4 v6 (cf_412_0 341 48 4 4 v2.toInt64 (mz_wI N 341 s1 (mz_nb (mz_b01 s2))))) ∧ (cp_411_107 v1 v2 (cf_412_0 341 48 8 4 v6 (cf_412_0 341 48 4 4 v2.toInt64 (mz_wI N 341 s1 (mz_nb (mz_b01 s2))))))))
noncomputable def cq_411_3 (v1 : Int32) (v2 : Int32) (v3 : Int32) (v4 : Int32) (v5 : Bool) (v6 : Int64) (s : Int32 × mz_N) : ((Int32 × mz_N) ⊕ (Bool × mz_N)) := if s.1 < 48 then (if s.1 < 12 then (cf_411_43 s.1 v1 v2 v3 v4 v5 v6 s.1 s.2) else (if s.1 < 40 then (cf_411_44 s.1 (mz_gI s.2 332 (s.1 - 12)) v1 v2 v3 v4 v5 v6 s.1 s.2) else (cf_411_43 s.1 v1 v2 v3 v4 v5 v6 s.1 s.2))) else (if v5 = true then (.inr (cf_411_83 2 true v1 v2 v6 (mz_wI (mz_wI s.2 341 0 (mz_nb (mz_i2b v3))) 341 1 (mz_nb (mz_i2b v4))))) else (.inr (cf_411_83 2 false v1 v2 v6 (mz_wI (mz_wI s.2 341 0 (mz_nb (mz_i2b v3))) 341 1 (mz_nb (mz_i2b v4))))))
def cd_411_3 (v1 : Int32) (v2 : Int32) (v3 : Int32) (v4 : Int32) (v5 : Bool) (v6 : Int64) (s : Int32 × mz_N) : Prop := (s.1 < 48 → ((s.1 < 12 → (cp_411_43 s.1 v1 v2 v3 v4 v5 v6 s.1 s.2)) ∧ (¬ (s.1 < 12) → ((s.1 < 40 → ((mz_ib (s.1 - 12) 28) ∧ (cp_411_44 s.1 (mz_gI s.2 332 (s.1 - 12)) v1 v2 v3 v4 v5 v6 s.1 s.2))) ∧ (¬ (s.1 < 40) → (cp_411_43 s.1 v1 v2 v3 v4 v5 v6 s.1 s.2)))))) ∧ (¬ (s.1 < 48) → ((v5 = true → (cp_411_83 2 true v1 v2 v6 (mz_wI (mz_wI s.2 341 0 (mz_nb (mz_i2b v3))) 341 1 (mz_nb (mz_i2b v4))))) ∧ (¬ (v5 = true) → (cp_411_83 2 false v1 v2 v6 (mz_wI (mz_wI s.2 341 0 (mz_nb (mz_i2b v3))) 341 1 (mz_nb (mz_i2b v4)))))))
noncomputable def cf_411_3 (v1 : Int32) (v2 : Int32) (v3 : Int32) (v4 : Int32) (v5 : Bool) (v6 : Int64) (v8 : Int32) (N : mz_N) : (Bool × mz_N) := mz_run (cq_411_3 v1 v2 v3 v4 v5 v6) (v8, N)
def cp_411_3 (v1 : Int32) (v2 : Int32) (v3 : Int32) (v4 : Int32) (v5 : Bool) (v6 : Int64) (v8 : Int32) (N : mz_N) : Prop := ∃ n, mz_ok (cq_411_3 v1 v2 v3 v4 v5 v6) (cd_411_3 v1 v2 v3 v4 v5 v6) n (v8, N)
noncomputable def cf_411_0 (v1 : Int32) (v2 : Int32) (v3 : Int32) (v4 : Int32) (v5 : Bool) (v6 : Int64) (N : mz_N) : (Bool × mz_N) := (cf_411_3 v1 v2 v3 v4 v5 v6 0 N)
def cp_411_0 (v1 : Int32) (v2 : Int32) (v3 : Int32) (v4 : Int32) (v5 : Bool) (v6 : Int64) (N : mz_N) : Prop := cp_411_3 v1 v2 v3 v4 v5 v6 0 N
/-! 409 KeptHouseModel.writeHead (IJJ)Z -/
noncomputable def cq_409_3 (v1 : Int32) (v2 : Int64) (v4 : Int64) (s : Int32 × mz_N) : ((Int32 × mz_N) ⊕ (Bool × mz_N)) := if s.1 < 28 then (.inl ((s.1 + 1), mz_wI s.2 332 s.1 (mz_nb 0))) else (.inr (((cf_411_0 v1 0 0 0 true v4 (cf_410_0 0 4 v2 s.2)).1), (cf_411_0 v1 0 0 0 true v4 (cf_410_0 0 4 v2 s.2)).2))
def cd_409_3 (v1 : Int32) (v2 : Int64) (v4 : Int64) (s : Int32 × mz_N) : Prop := (s.1 < 28 → (mz_ib s.1 28)) ∧ (¬ (s.1 < 28) → ((cp_410_0 0 4 v2 s.2) ∧ (cp_411_0 v1 0 0 0 true v4 (cf_410_0 0 4 v2 s.2))))
noncomputable def cf_409_3 (v1 : Int32) (v2 : Int64) (v4 : Int64) (v6 : Int32) (N : mz_N) : (Bool × mz_N) := mz_run (cq_409_3 v1 v2 v4) (v6, N)
def cp_409_3 (v1 : Int32) (v2 : Int64) (v4 : Int64) (v6 : Int32) (N : mz_N) : Prop := ∃ n, mz_ok (cq_409_3 v1 v2 v4) (cd_409_3 v1 v2 v4) n (v6, N)
noncomputable def cf_409_0 (v1 : Int32) (v2 : Int64) (v4 : Int64) (N : mz_N) : (Bool × mz_N) := (cf_409_3 v1 v2 v4 0 N)
def cp_409_0 (v1 : Int32) (v2 : Int64) (v4 : Int64) (N : mz_N) : Prop := cp_409_3 v1 v2 v4 0 N
/-! 417 KeptHouseModel.isBorder (I)Z -/
noncomputable def cf_417_0 (v0 : Int32) : (Bool) := if v0 < 54 then (if (mz_irem v0 9) = 0 then true else (if (mz_irem v0 9) = 8 then true else false)) else (if v0 < 62 then true else (if 101 < v0 then true else false))
def cp_417_0 (v0 : Int32) : Prop := True
/-! 416 KeptHouseModel.firstPlan (I)V -/
noncomputable def cf_416_35 (s1 : Int32) (s2 : Int32) (v1 : Int32) (v2 : Int32) (N : mz_N) : ((Int32 × mz_N) ⊕ (mz_N)) := (.inl ((v2 + 1), mz_wI N 233 s1 s2))
def cp_416_35 (s1 : Int32) (s2 : Int32) (v1 : Int32) (v2 : Int32) (N : mz_N) : Prop := mz_ib s1 4400
noncomputable def cq_416_2 (v1 : Int32) (s : Int32 × mz_N) : ((Int32 × mz_N) ⊕ (mz_N)) := if s.1 < 550 then (if (cf_417_0 (mz_irem s.1 110)) = true then (cf_416_35 ((550 * v1) + s.1) 2 v1 s.1 s.2) else (cf_416_35 ((550 * v1) + s.1) 0 v1 s.1 s.2)) else (.inr s.2)
def cd_416_2 (v1 : Int32) (s : Int32 × mz_N) : Prop := (s.1 < 550 → (((cf_417_0 (mz_irem s.1 110)) = true → (cp_416_35 ((550 * v1) + s.1) 2 v1 s.1 s.2)) ∧ (¬ ((cf_417_0 (mz_irem s.1 110)) = true) → (cp_416_35 ((550 * v1) + s.1) 0 v1 s.1 s.2)))) ∧ (¬ (s.1 < 550) → True)
noncomputable def cf_416_2 (v1 : Int32) (v2 : Int32) (N : mz_N) : (mz_N) := mz_run (cq_416_2 v1) (v2, N)
def cp_416_2 (v1 : Int32) (v2 : Int32) (N : mz_N) : Prop := ∃ n, mz_ok (cq_416_2 v1) (cd_416_2 v1) n (v2, N)
noncomputable def cf_416_0 (v1 : Int32) (N : mz_N) : (mz_N) := (cf_416_2 v1 0 N)
def cp_416_0 (v1 : Int32) (N : mz_N) : Prop := cp_416_2 v1 0 N
/-! 418 KeptHouseModel.firstNumbers ()V -/
noncomputable def cq_418_245  (s : Int32 × mz_N) : ((Int32 × mz_N) ⊕ (mz_N)) := if s.1 < 2 then (.inl ((s.1 + 1), mz_wI (mz_wI (mz_wL s.2 298 s.1 (-1)) 296 s.1 0) 297 s.1 0)) else (.inr s.2)
def cd_418_245  (s : Int32 × mz_N) : Prop := (s.1 < 2 → ((mz_ib s.1 2) ∧ ((mz_ib s.1 2) ∧ (mz_ib s.1 2)))) ∧ (¬ (s.1 < 2) → True)
noncomputable def cf_418_245 (v1 : Int32) (N : mz_N) : (mz_N) := mz_run (cq_418_245 ) (v1, N)
def cp_418_245 (v1 : Int32) (N : mz_N) : Prop := ∃ n, mz_ok (cq_418_245 ) (cd_418_245 ) n (v1, N)
noncomputable def cq_418_217  (s : Int32 × mz_N) : ((Int32 × mz_N) ⊕ (mz_N)) := if s.1 < 40 then (.inl ((s.1 + 1), mz_wI (mz_wI s.2 311 s.1 (mz_b01 false)) 316 s.1 (-1))) else (.inr (cf_418_245 0 s.2))
def cd_418_217  (s : Int32 × mz_N) : Prop := (s.1 < 40 → ((mz_ib s.1 40) ∧ (mz_ib s.1 40))) ∧ (¬ (s.1 < 40) → (cp_418_245 0 s.2))
noncomputable def cf_418_217 (v1 : Int32) (N : mz_N) : (mz_N) := mz_run (cq_418_217 ) (v1, N)
def cp_418_217 (v1 : Int32) (N : mz_N) : Prop := ∃ n, mz_ok (cq_418_217 ) (cd_418_217 ) n (v1, N)
noncomputable def cq_418_196  (s : Int32 × mz_N) : ((Int32 × mz_N) ⊕ (mz_N)) := if s.1 < 20 then (.inl ((s.1 + 1), mz_wI s.2 308 s.1 (mz_b01 false))) else (.inr (cf_418_217 0 s.2))
def cd_418_196  (s : Int32 × mz_N) : Prop := (s.1 < 20 → (mz_ib s.1 20)) ∧ (¬ (s.1 < 20) → (cp_418_217 0 s.2))
noncomputable def cf_418_196 (v1 : Int32) (N : mz_N) : (mz_N) := mz_run (cq_418_196 ) (v1, N)
def cp_418_196 (v1 : Int32) (N : mz_N) : Prop := ∃ n, mz_ok (cq_418_196 ) (cd_418_196 ) n (v1, N)
noncomputable def cq_418_175  (s : Int32 × mz_N) : ((Int32 × mz_N) ⊕ (mz_N)) := if s.1 < 16 then (.inl ((s.1 + 1), mz_wI s.2 287 s.1 (mz_b01 false))) else (.inr (cf_418_196 0 s.2))
def cd_418_175  (s : Int32 × mz_N) : Prop := (s.1 < 16 → (mz_ib s.1 16)) ∧ (¬ (s.1 < 16) → (cp_418_196 0 s.2))
noncomputable def cf_418_175 (v1 : Int32) (N : mz_N) : (mz_N) := mz_run (cq_418_175 ) (v1, N)
def cp_418_175 (v1 : Int32) (N : mz_N) : Prop := ∃ n, mz_ok (cq_418_175 ) (cd_418_175 ) n (v1, N)
noncomputable def cq_418_147  (s : Int32 × mz_N) : ((Int32 × mz_N) ⊕ (mz_N)) := if s.1 < 8 then (.inl ((s.1 + 1), mz_wI (mz_wI s.2 282 s.1 (mz_b01 false)) 285 s.1 0)) else (.inr (cf_418_175 0 s.2))
def cd_418_147  (s : Int32 × mz_N) : Prop := (s.1 < 8 → ((mz_ib s.1 8) ∧ (mz_ib s.1 8))) ∧ (¬ (s.1 < 8) → (cp_418_175 0 s.2))
noncomputable def cf_418_147 (v1 : Int32) (N : mz_N) : (mz_N) := mz_run (cq_418_147 ) (v1, N)
def cp_418_147 (v1 : Int32) (N : mz_N) : Prop := ∃ n, mz_ok (cq_418_147 ) (cd_418_147 ) n (v1, N)
noncomputable def cq_418_126  (s : Int32 × mz_N) : ((Int32 × mz_N) ⊕ (mz_N)) := if s.1 < 18 then (.inl ((s.1 + 1), mz_wI s.2 279 s.1 (mz_b01 false))) else (.inr (cf_418_147 0 s.2))
def cd_418_126  (s : Int32 × mz_N) : Prop := (s.1 < 18 → (mz_ib s.1 18)) ∧ (¬ (s.1 < 18) → (cp_418_147 0 s.2))
noncomputable def cf_418_126 (v1 : Int32) (N : mz_N) : (mz_N) := mz_run (cq_418_126 ) (v1, N)
def cp_418_126 (v1 : Int32) (N : mz_N) : Prop := ∃ n, mz_ok (cq_418_126 ) (cd_418_126 ) n (v1, N)
noncomputable def cf_418_109 (N : mz_N) : (mz_N) := (cf_418_126 0 (mz_pI (mz_pI (mz_pI N 232 96 0) 232 141 0) 232 143 0))
def cp_418_109 (N : mz_N) : Prop := cp_418_126 0 (mz_pI (mz_pI (mz_pI N 232 96 0) 232 141 0) 232 143 0)
noncomputable def cf_418_89 (N : mz_N) : (mz_N) := (cf_418_109 (mz_pI (mz_pI (mz_pL (mz_pI N 232 67 (mz_b01 false)) 232 68 0) 232 72 0) 232 112 0))
def cp_418_89 (N : mz_N) : Prop := cp_418_109 (mz_pI (mz_pI (mz_pL (mz_pI N 232 67 (mz_b01 false)) 232 68 0) 232 72 0) 232 112 0)
noncomputable def cf_418_69 (N : mz_N) : (mz_N) := (cf_418_89 (mz_pL (mz_pI (mz_pI (mz_pI N 232 63 (mz_b01 false)) 232 64 (mz_b01 false)) 232 65 (mz_b01 false)) 232 66 0))
def cp_418_69 (N : mz_N) : Prop := cp_418_89 (mz_pL (mz_pI (mz_pI (mz_pI N 232 63 (mz_b01 false)) 232 64 (mz_b01 false)) 232 65 (mz_b01 false)) 232 66 0)
noncomputable def cf_418_43 (N : mz_N) : (mz_N) := (cf_418_69 (mz_pI (mz_pI (mz_pI (mz_pI N 232 54 1500) 232 55 0) 232 61 2000) 232 62 20000))
def cp_418_43 (N : mz_N) : Prop := cp_418_69 (mz_pI (mz_pI (mz_pI (mz_pI N 232 54 1500) 232 55 0) 232 61 2000) 232 62 20000)
noncomputable def cf_418_0 (N : mz_N) : (mz_N) := (cf_418_43 (mz_pI (mz_pI (mz_pI (mz_pL (mz_pL (mz_pL (mz_pL (mz_pL N 232 2 0) 232 122 0) 232 123 0) 232 124 0) 232 125 0) 232 21 5000) 232 52 (mz_b01 true)) 232 53 100))
def cp_418_0 (N : mz_N) : Prop := cp_418_43 (mz_pI (mz_pI (mz_pI (mz_pL (mz_pL (mz_pL (mz_pL (mz_pL N 232 2 0) 232 122 0) 232 123 0) 232 124 0) 232 125 0) 232 21 5000) 232 52 (mz_b01 true)) 232 53 100)
/-! 415 KeptHouseModel.firstThings ()V -/
noncomputable def cf_415_57 (v1 : Int32) (N : mz_N) : ((Int32 × mz_N) ⊕ (mz_N)) := (.inl ((v1 + 1), mz_wL (mz_wL (mz_wL N 263 v1 0) 264 v1 0) 265 v1 0))
def cp_415_57 (v1 : Int32) (N : mz_N) : Prop := (mz_ib v1 240) ∧ ((mz_ib v1 240) ∧ (mz_ib v1 240))
noncomputable def cf_415_272 (v1 : Int32) (N : mz_N) : ((Int32 × mz_N) ⊕ (mz_N)) := (.inl ((v1 + 1), N))
def cp_415_272 (v1 : Int32) (N : mz_N) : Prop := True
noncomputable def cq_415_280  (s : Int32 × mz_N) : ((Int32 × mz_N) ⊕ (mz_N)) := if s.1 < 196 then (.inl ((s.1 + 1), mz_wI s.2 252 s.1 0)) else (.inr (cf_418_0 (mz_pI (mz_pI (mz_pI s.2 232 27 0) 232 25 0) 232 36 (mz_b01 false))))
def cd_415_280  (s : Int32 × mz_N) : Prop := (s.1 < 196 → (mz_ib s.1 196)) ∧ (¬ (s.1 < 196) → (cp_418_0 (mz_pI (mz_pI (mz_pI s.2 232 27 0) 232 25 0) 232 36 (mz_b01 false))))
noncomputable def cf_415_280 (v1 : Int32) (N : mz_N) : (mz_N) := mz_run (cq_415_280 ) (v1, N)
def cp_415_280 (v1 : Int32) (N : mz_N) : Prop := ∃ n, mz_ok (cq_415_280 ) (cd_415_280 ) n (v1, N)
noncomputable def cq_415_230  (s : Int32 × mz_N) : ((Int32 × mz_N) ⊕ (mz_N)) := if s.1 < 3 then (cf_415_272 s.1 (mz_wI (mz_wI (mz_wL (mz_wI (mz_wI s.2 249 s.1 0) 250 s.1 5000) 305 s.1 0) 306 s.1 0) 307 s.1 (mz_b01 false))) else (.inr (cf_415_280 0 s.2))
def cd_415_230  (s : Int32 × mz_N) : Prop := (s.1 < 3 → ((mz_ib s.1 3) ∧ ((mz_ib s.1 3) ∧ ((mz_ib s.1 3) ∧ ((mz_ib s.1 3) ∧ ((mz_ib s.1 3) ∧ (cp_415_272 s.1 (mz_wI (mz_wI (mz_wL (mz_wI (mz_wI s.2 249 s.1 0) 250 s.1 5000) 305 s.1 0) 306 s.1 0) 307 s.1 (mz_b01 false))))))))) ∧ (¬ (s.1 < 3) → (cp_415_280 0 s.2))
noncomputable def cf_415_230 (v1 : Int32) (N : mz_N) : (mz_N) := mz_run (cq_415_230 ) (v1, N)
def cp_415_230 (v1 : Int32) (N : mz_N) : Prop := ∃ n, mz_ok (cq_415_230 ) (cd_415_230 ) n (v1, N)
noncomputable def cq_415_195  (s : Int32 × mz_N) : ((Int32 × mz_N) ⊕ (mz_N)) := if s.1 < 10 then (.inl ((s.1 + 1), mz_wI (mz_wL (mz_wL s.2 324 s.1 0) 325 s.1 0) 278 s.1 0)) else (.inr (cf_415_230 0 s.2))
def cd_415_195  (s : Int32 × mz_N) : Prop := (s.1 < 10 → ((mz_ib s.1 10) ∧ ((mz_ib s.1 10) ∧ (mz_ib s.1 10)))) ∧ (¬ (s.1 < 10) → (cp_415_230 0 s.2))
noncomputable def cf_415_195 (v1 : Int32) (N : mz_N) : (mz_N) := mz_run (cq_415_195 ) (v1, N)
def cp_415_195 (v1 : Int32) (N : mz_N) : Prop := ∃ n, mz_ok (cq_415_195 ) (cd_415_195 ) n (v1, N)
noncomputable def cf_415_159 (v1 : Int32) (N : mz_N) : ((Int32 × mz_N) ⊕ (mz_N)) := (.inl ((v1 + 1), mz_wL (mz_wL (mz_wL (mz_wI N 275 v1 (mz_b01 false)) 321 v1 0) 322 v1 0) 323 v1 0))
def cp_415_159 (v1 : Int32) (N : mz_N) : Prop := (mz_ib v1 11) ∧ ((mz_ib v1 11) ∧ ((mz_ib v1 11) ∧ (mz_ib v1 11)))
noncomputable def cq_415_117  (s : Int32 × mz_N) : ((Int32 × mz_N) ⊕ (mz_N)) := if s.1 < 11 then (cf_415_159 s.1 (mz_wI (mz_wI (mz_wI (mz_wI (mz_wI s.2 247 s.1 100) 248 s.1 0) 272 s.1 0) 273 s.1 (mz_b01 false)) 274 s.1 0)) else (.inr (cf_415_195 0 s.2))
def cd_415_117  (s : Int32 × mz_N) : Prop := (s.1 < 11 → ((mz_ib s.1 11) ∧ ((mz_ib s.1 11) ∧ ((mz_ib s.1 11) ∧ ((mz_ib s.1 11) ∧ ((mz_ib s.1 11) ∧ (cp_415_159 s.1 (mz_wI (mz_wI (mz_wI (mz_wI (mz_wI s.2 247 s.1 100) 248 s.1 0) 272 s.1 0) 273 s.1 (mz_b01 false)) 274 s.1 0)))))))) ∧ (¬ (s.1 < 11) → (cp_415_195 0 s.2))
noncomputable def cf_415_117 (v1 : Int32) (N : mz_N) : (mz_N) := mz_run (cq_415_117 ) (v1, N)
def cp_415_117 (v1 : Int32) (N : mz_N) : Prop := ∃ n, mz_ok (cq_415_117 ) (cd_415_117 ) n (v1, N)
noncomputable def cq_415_86  (s : Int32 × mz_N) : ((Int32 × mz_N) ⊕ (mz_N)) := if s.1 < 96 then (.inl ((s.1 + 1), mz_wI (mz_wI s.2 246 s.1 0) 245 (mz_irem s.1 24) 0)) else (.inr (cf_415_117 0 s.2))
def cd_415_86  (s : Int32 × mz_N) : Prop := (s.1 < 96 → ((mz_ib s.1 96) ∧ (mz_ib (mz_irem s.1 24) 24))) ∧ (¬ (s.1 < 96) → (cp_415_117 0 s.2))
noncomputable def cf_415_86 (v1 : Int32) (N : mz_N) : (mz_N) := mz_run (cq_415_86 ) (v1, N)
def cp_415_86 (v1 : Int32) (N : mz_N) : Prop := ∃ n, mz_ok (cq_415_86 ) (cd_415_86 ) n (v1, N)
noncomputable def cq_415_12  (s : Int32 × mz_N) : ((Int32 × mz_N) ⊕ (mz_N)) := if s.1 < 240 then (cf_415_57 s.1 (mz_wL (mz_wL (mz_wL (mz_wI (mz_wI s.2 234 s.1 15) 244 s.1 0) 260 s.1 18000) 261 s.1 0) 262 s.1 0)) else (.inr (cf_415_86 0 s.2))
def cd_415_12  (s : Int32 × mz_N) : Prop := (s.1 < 240 → ((mz_ib s.1 240) ∧ ((mz_ib s.1 240) ∧ ((mz_ib s.1 240) ∧ ((mz_ib s.1 240) ∧ ((mz_ib s.1 240) ∧ (cp_415_57 s.1 (mz_wL (mz_wL (mz_wL (mz_wI (mz_wI s.2 234 s.1 15) 244 s.1 0) 260 s.1 18000) 261 s.1 0) 262 s.1 0)))))))) ∧ (¬ (s.1 < 240) → (cp_415_86 0 s.2))
noncomputable def cf_415_12 (v1 : Int32) (N : mz_N) : (mz_N) := mz_run (cq_415_12 ) (v1, N)
def cp_415_12 (v1 : Int32) (N : mz_N) : Prop := ∃ n, mz_ok (cq_415_12 ) (cd_415_12 ) n (v1, N)
noncomputable def cf_415_0 (N : mz_N) : (mz_N) := (cf_415_12 0 (mz_pI (cf_416_0 0 N) 232 4 0))
def cp_415_0 (N : mz_N) : Prop := (cp_416_0 0 N) ∧ (cp_415_12 0 (mz_pI (cf_416_0 0 N) 232 4 0))
/-! 420 KeptHouseModel.baseOf (I)I -/
noncomputable def cf_420_0 (v0 : Int32) : (Int32) := if v0 = 1 then 0 else (if v0 = 2 then 5 else (if v0 = 3 then 10 else (if v0 = 4 then 20 else (if v0 = 5 then 22 else (if v0 = 6 then 26 else (if v0 = 7 then 34 else (if v0 = 8 then 36 else (if v0 = 9 then 46 else (if v0 = 10 then 47 else (if v0 = 11 then 48 else (if v0 = 12 then 51 else (if v0 = 13 then 67 else (if v0 = 14 then 87 else (if v0 = 15 then 127 else 135))))))))))))))
def cp_420_0 (v0 : Int32) : Prop := True
/-! 419 KeptHouseModel.kindOf (I)I -/
noncomputable def cq_419_2 (v0 : Int32) (s : Int32) : ((Int32) ⊕ (Int32)) := if v0 < (cf_420_0 (s + 1)) then (.inr s) else (.inl ((s + 1)))
def cd_419_2 (v0 : Int32) (s : Int32) : Prop := True
noncomputable def cf_419_2 (v0 : Int32) (v1 : Int32) : (Int32) := mz_run (cq_419_2 v0) (v1)
def cp_419_2 (v0 : Int32) (v1 : Int32) : Prop := ∃ n, mz_ok (cq_419_2 v0) (cd_419_2 v0) n (v1)
noncomputable def cf_419_0 (v0 : Int32) : (Int32) := (cf_419_2 v0 1)
def cp_419_0 (v0 : Int32) : Prop := cp_419_2 v0 1
/-! 422 KeptHouseModel.at (II)I -/
noncomputable def cf_422_0 (v1 : Int32) (v2 : Int32) (N : mz_N) : (Int32) := ((mz_gI N 331 (v1 + v2)) &&& 255)
def cp_422_0 (v1 : Int32) (v2 : Int32) (N : mz_N) : Prop := mz_ib (v1 + v2) 3780
/-! 423 KeptHouseModel.number ([BII)J -/
noncomputable def cq_423_7 (a0 : Nat) (n0 : Nat) (v1 : Int32) (N : mz_N) (s : Int64 × Int32) : ((Int64 × Int32) ⊕ (Int64)) := if s.2 < 0 then (.inr s.1) else (.inl (((mz_lshl s.1 8) ||| (((mz_gI N a0 (v1 + s.2)).toInt64) &&& 255)), (s.2 + (-1))))
def cd_423_7 (a0 : Nat) (n0 : Nat) (v1 : Int32) (N : mz_N) (s : Int64 × Int32) : Prop := (s.2 < 0 → True) ∧ (¬ (s.2 < 0) → (mz_ib (v1 + s.2) n0))
noncomputable def cf_423_7 (a0 : Nat) (n0 : Nat) (v1 : Int32) (v3 : Int64) (v5 : Int32) (N : mz_N) : (Int64) := mz_run (cq_423_7 a0 n0 v1 N) (v3, v5)
def cp_423_7 (a0 : Nat) (n0 : Nat) (v1 : Int32) (v3 : Int64) (v5 : Int32) (N : mz_N) : Prop := ∃ n, mz_ok (cq_423_7 a0 n0 v1 N) (cd_423_7 a0 n0 v1 N) n (v3, v5)
noncomputable def cf_423_0 (a0 : Nat) (n0 : Nat) (v1 : Int32) (v2 : Int32) (N : mz_N) : (Int64) := (cf_423_7 a0 n0 v1 0 (v2 - 1) N)
def cp_423_0 (a0 : Nat) (n0 : Nat) (v1 : Int32) (v2 : Int32) (N : mz_N) : Prop := cp_423_7 a0 n0 v1 0 (v2 - 1) N
/-! 425 KeptHouseModel.small (II)I -/
noncomputable def cf_425_0 (v1 : Int32) (v2 : Int32) (N : mz_N) : (Int32) := ((cf_423_0 331 3780 (v1 + v2) 4 N).toInt32)
def cp_425_0 (v1 : Int32) (v2 : Int32) (N : mz_N) : Prop := cp_423_0 331 3780 (v1 + v2) 4 N
/-! 424 KeptHouseModel.readMore (III)V -/
noncomputable def cf_424_560 (N : mz_N) : (mz_N) := N
def cp_424_560 (N : mz_N) : Prop := True
noncomputable def cf_424_513 (s1 : Int32) (s2 : Bool) (v2 : Int32) (v3 : Int32) (N : mz_N) : (mz_N) := (cf_424_560 (mz_wI (mz_wI N 315 s1 (mz_b01 s2)) 312 v2 (cf_425_0 v3 4 (mz_wI N 315 s1 (mz_b01 s2)))))
def cp_424_513 (s1 : Int32) (s2 : Bool) (v2 : Int32) (v3 : Int32) (N : mz_N) : Prop := (mz_ib s1 40) ∧ ((cp_425_0 v3 4 (mz_wI N 315 s1 (mz_b01 s2))) ∧ ((mz_ib v2 40) ∧ (cp_424_560 (mz_wI (mz_wI N 315 s1 (mz_b01 s2)) 312 v2 (cf_425_0 v3 4 (mz_wI N 315 s1 (mz_b01 s2)))))))
noncomputable def cf_424_481 (v2 : Int32) (v3 : Int32) (N : mz_N) : (mz_N) := if (cf_422_0 v3 3 (mz_wI N 314 v2 (cf_422_0 v3 2 N))) = 1 then (cf_424_513 v2 true v2 v3 (mz_wI N 314 v2 (cf_422_0 v3 2 N))) else (cf_424_513 v2 false v2 v3 (mz_wI N 314 v2 (cf_422_0 v3 2 N)))
def cp_424_481 (v2 : Int32) (v3 : Int32) (N : mz_N) : Prop := (cp_422_0 v3 2 N) ∧ ((mz_ib v2 40) ∧ ((cp_422_0 v3 3 (mz_wI N 314 v2 (cf_422_0 v3 2 N))) ∧ (((cf_422_0 v3 3 (mz_wI N 314 v2 (cf_422_0 v3 2 N))) = 1 → (cp_424_513 v2 true v2 v3 (mz_wI N 314 v2 (cf_422_0 v3 2 N)))) ∧ (¬ ((cf_422_0 v3 3 (mz_wI N 314 v2 (cf_422_0 v3 2 N))) = 1) → (cp_424_513 v2 false v2 v3 (mz_wI N 314 v2 (cf_422_0 v3 2 N)))))))
noncomputable def cf_424_404 (v2 : Int32) (v3 : Int32) (N : mz_N) : (mz_N) := mz_wI (mz_wL N 292 v2 ((cf_425_0 v3 8 N).toInt64)) 293 v2 (-1)
def cp_424_404 (v2 : Int32) (v3 : Int32) (N : mz_N) : Prop := (cp_425_0 v3 8 N) ∧ ((mz_ib v2 16) ∧ (mz_ib v2 16))
noncomputable def cf_424_379 (v2 : Int32) (v3 : Int32) (N : mz_N) : (mz_N) := (cf_424_404 v2 v3 (mz_wL (mz_wI N 290 v2 (cf_422_0 v3 3 N)) 291 v2 ((cf_425_0 v3 4 (mz_wI N 290 v2 (cf_422_0 v3 3 N))).toInt64)))
def cp_424_379 (v2 : Int32) (v3 : Int32) (N : mz_N) : Prop := (cp_422_0 v3 3 N) ∧ ((mz_ib v2 16) ∧ ((cp_425_0 v3 4 (mz_wI N 290 v2 (cf_422_0 v3 3 N))) ∧ ((mz_ib v2 16) ∧ (cp_424_404 v2 v3 (mz_wL (mz_wI N 290 v2 (cf_422_0 v3 3 N)) 291 v2 ((cf_425_0 v3 4 (mz_wI N 290 v2 (cf_422_0 v3 3 N))).toInt64))))))
noncomputable def cf_424_354 (s1 : Int32) (s2 : Bool) (v2 : Int32) (v3 : Int32) (N : mz_N) : (mz_N) := (cf_424_379 v2 v3 (mz_wI (mz_wI (mz_wI N 287 s1 (mz_b01 s2)) 288 v2 (cf_422_0 v3 1 (mz_wI N 287 s1 (mz_b01 s2)))) 289 v2 (cf_422_0 v3 2 (mz_wI (mz_wI N 287 s1 (mz_b01 s2)) 288 v2 (cf_422_0 v3 1 (mz_wI N 287 s1 (mz_b01 s2)))))))
def cp_424_354 (s1 : Int32) (s2 : Bool) (v2 : Int32) (v3 : Int32) (N : mz_N) : Prop := (mz_ib s1 16) ∧ ((cp_422_0 v3 1 (mz_wI N 287 s1 (mz_b01 s2))) ∧ ((mz_ib v2 16) ∧ ((cp_422_0 v3 2 (mz_wI (mz_wI N 287 s1 (mz_b01 s2)) 288 v2 (cf_422_0 v3 1 (mz_wI N 287 s1 (mz_b01 s2))))) ∧ ((mz_ib v2 16) ∧ (cp_424_379 v2 v3 (mz_wI (mz_wI (mz_wI N 287 s1 (mz_b01 s2)) 288 v2 (cf_422_0 v3 1 (mz_wI N 287 s1 (mz_b01 s2)))) 289 v2 (cf_422_0 v3 2 (mz_wI (mz_wI N 287 s1 (mz_b01 s2)) 288 v2 (cf_422_0 v3 1 (mz_wI N 287 s1 (mz_b01 s2)))))))))))
noncomputable def cf_424_548 (v2 : Int32) (v3 : Int32) (N : mz_N) : (mz_N) := (cf_424_560 (mz_wI N 284 v2 (cf_422_0 v3 2 N)))
def cp_424_548 (v2 : Int32) (v3 : Int32) (N : mz_N) : Prop := (cp_422_0 v3 2 N) ∧ ((mz_ib v2 8) ∧ (cp_424_560 (mz_wI N 284 v2 (cf_422_0 v3 2 N))))
noncomputable def cf_424_330 (s1 : Int32) (s2 : Bool) (N : mz_N) : (mz_N) := mz_wI N 307 s1 (mz_b01 s2)
def cp_424_330 (s1 : Int32) (s2 : Bool) (N : mz_N) : Prop := mz_ib s1 3
noncomputable def cf_424_296 (v2 : Int32) (v3 : Int32) (N : mz_N) : (mz_N) := if (cf_422_0 v3 12 (mz_wI N 306 v2 (cf_425_0 v3 8 N))) = 1 then (cf_424_330 v2 true (mz_wI N 306 v2 (cf_425_0 v3 8 N))) else (cf_424_330 v2 false (mz_wI N 306 v2 (cf_425_0 v3 8 N)))
def cp_424_296 (v2 : Int32) (v3 : Int32) (N : mz_N) : Prop := (cp_425_0 v3 8 N) ∧ ((mz_ib v2 3) ∧ ((cp_422_0 v3 12 (mz_wI N 306 v2 (cf_425_0 v3 8 N))) ∧ (((cf_422_0 v3 12 (mz_wI N 306 v2 (cf_425_0 v3 8 N))) = 1 → (cp_424_330 v2 true (mz_wI N 306 v2 (cf_425_0 v3 8 N)))) ∧ (¬ ((cf_422_0 v3 12 (mz_wI N 306 v2 (cf_425_0 v3 8 N))) = 1) → (cp_424_330 v2 false (mz_wI N 306 v2 (cf_425_0 v3 8 N)))))))
noncomputable def cf_424_447 (v2 : Int32) (v3 : Int32) (N : mz_N) : (mz_N) := mz_wI N 310 v2 (cf_422_0 v3 2 N)
def cp_424_447 (v2 : Int32) (v3 : Int32) (N : mz_N) : Prop := (cp_422_0 v3 2 N) ∧ (mz_ib v2 20)
noncomputable def cf_424_107 (v2 : Int32) (v3 : Int32) (N : mz_N) : (mz_N) := mz_wL N 323 v2 ((cf_425_0 v3 24 N).toInt64)
def cp_424_107 (v2 : Int32) (v3 : Int32) (N : mz_N) : Prop := (cp_425_0 v3 24 N) ∧ (mz_ib v2 11)
noncomputable def cf_424_79 (v2 : Int32) (v3 : Int32) (N : mz_N) : (mz_N) := (cf_424_107 v2 v3 (mz_wL (mz_wL N 321 v2 ((cf_425_0 v3 16 N).toInt64)) 322 v2 ((cf_425_0 v3 20 (mz_wL N 321 v2 ((cf_425_0 v3 16 N).toInt64))).toInt64)))
def cp_424_79 (v2 : Int32) (v3 : Int32) (N : mz_N) : Prop := (cp_425_0 v3 16 N) ∧ ((mz_ib v2 11) ∧ ((cp_425_0 v3 20 (mz_wL N 321 v2 ((cf_425_0 v3 16 N).toInt64))) ∧ ((mz_ib v2 11) ∧ (cp_424_107 v2 v3 (mz_wL (mz_wL N 321 v2 ((cf_425_0 v3 16 N).toInt64)) 322 v2 ((cf_425_0 v3 20 (mz_wL N 321 v2 ((cf_425_0 v3 16 N).toInt64))).toInt64))))))
noncomputable def cf_424_180 (v3 : Int32) (N : mz_N) : (mz_N) := mz_pL N 232 125 ((cf_425_0 v3 24 N).toInt64)
def cp_424_180 (v3 : Int32) (N : mz_N) : Prop := cp_425_0 v3 24 N
noncomputable def cf_424_151 (v3 : Int32) (N : mz_N) : (mz_N) := (cf_424_180 v3 (mz_pL (mz_pL N 232 123 (cf_423_0 331 3780 (v3 + 12) 8 N)) 232 124 ((cf_425_0 v3 20 (mz_pL N 232 123 (cf_423_0 331 3780 (v3 + 12) 8 N))).toInt64)))
def cp_424_151 (v3 : Int32) (N : mz_N) : Prop := (cp_423_0 331 3780 (v3 + 12) 8 N) ∧ ((cp_425_0 v3 20 (mz_pL N 232 123 (cf_423_0 331 3780 (v3 + 12) 8 N))) ∧ (cp_424_180 v3 (mz_pL (mz_pL N 232 123 (cf_423_0 331 3780 (v3 + 12) 8 N)) 232 124 ((cf_425_0 v3 20 (mz_pL N 232 123 (cf_423_0 331 3780 (v3 + 12) 8 N))).toInt64))))
noncomputable def cq_424_237 (v3 : Int32) (s : Int32 × mz_N) : ((Int32 × mz_N) ⊕ (mz_N)) := if s.1 < 3 then (.inl ((s.1 + 1), mz_wI s.2 249 s.1 (cf_425_0 v3 (12 + (4 * s.1)) s.2))) else (.inr s.2)
def cd_424_237 (v3 : Int32) (s : Int32 × mz_N) : Prop := (s.1 < 3 → ((cp_425_0 v3 (12 + (4 * s.1)) s.2) ∧ (mz_ib s.1 3))) ∧ (¬ (s.1 < 3) → True)
noncomputable def cf_424_237 (v3 : Int32) (v4 : Int32) (N : mz_N) : (mz_N) := mz_run (cq_424_237 v3) (v4, N)
def cp_424_237 (v3 : Int32) (v4 : Int32) (N : mz_N) : Prop := ∃ n, mz_ok (cq_424_237 v3) (cd_424_237 v3) n (v4, N)
noncomputable def cf_424_223 (v3 : Int32) (N : mz_N) : (mz_N) := (cf_424_237 v3 0 (mz_pI N 232 21 (cf_425_0 v3 8 N)))
def cp_424_223 (v3 : Int32) (N : mz_N) : Prop := (cp_425_0 v3 8 N) ∧ (cp_424_237 v3 0 (mz_pI N 232 21 (cf_425_0 v3 8 N)))
noncomputable def cf_424_0 (v1 : Int32) (v2 : Int32) (v3 : Int32) (N : mz_N) : (mz_N) := if v1 = 8 then (cf_424_79 v2 v3 (mz_wL (mz_wL N 324 v2 (cf_423_0 331 3780 v3 8 N)) 325 v2 (cf_423_0 331 3780 (v3 + 8) 8 (mz_wL N 324 v2 (cf_423_0 331 3780 v3 8 N))))) else (if v1 = 9 then (cf_424_151 v3 (mz_pL (mz_pL N 232 2 ((cf_425_0 v3 0 N).toInt64)) 232 122 (cf_423_0 331 3780 (v3 + 4) 8 (mz_pL N 232 2 ((cf_425_0 v3 0 N).toInt64))))) else (if v1 = 10 then (cf_424_223 v3 (mz_wL (mz_wL N 322 10 ((cf_425_0 v3 0 N).toInt64)) 321 10 ((cf_425_0 v3 4 (mz_wL N 322 10 ((cf_425_0 v3 0 N).toInt64))).toInt64))) else (if v1 = 11 then (cf_424_296 v2 v3 (mz_wL (mz_wI N 250 v2 (cf_425_0 v3 0 N)) 305 v2 ((cf_425_0 v3 4 (mz_wI N 250 v2 (cf_425_0 v3 0 N))).toInt64))) else (if v1 = 12 then (if (cf_422_0 v3 0 N) = 1 then (cf_424_354 v2 true v2 v3 N) else (cf_424_354 v2 false v2 v3 N)) else (if v1 = 13 then (cf_424_447 v2 v3 (mz_wI (mz_wI N 308 v2 (mz_b01 true)) 309 v2 (cf_422_0 v3 1 (mz_wI N 308 v2 (mz_b01 true))))) else (if v1 = 14 then (cf_424_481 v2 v3 (mz_wI (mz_wI N 311 v2 (mz_b01 true)) 313 v2 (cf_422_0 v3 1 (mz_wI N 311 v2 (mz_b01 true))))) else (cf_424_548 v2 v3 (mz_wI (mz_wI N 282 v2 (mz_b01 true)) 283 v2 (cf_422_0 v3 1 (mz_wI N 282 v2 (mz_b01 true)))))))))))
def cp_424_0 (v1 : Int32) (v2 : Int32) (v3 : Int32) (N : mz_N) : Prop := (v1 = 8 → ((cp_423_0 331 3780 v3 8 N) ∧ ((mz_ib v2 10) ∧ ((cp_423_0 331 3780 (v3 + 8) 8 (mz_wL N 324 v2 (cf_423_0 331 3780 v3 8 N))) ∧ ((mz_ib v2 10) ∧ (cp_424_79 v2 v3 (mz_wL (mz_wL N 324 v2 (cf_423_0 331 3780 v3 8 N)) 325 v2 (cf_423_0 331 3780 (v3 + 8) 8 (mz_wL N 324 v2 (cf_423_0 331 3780 v3 8 N)))))))))) ∧ (¬ (v1 = 8) → ((v1 = 9 → ((cp_425_0 v3 0 N) ∧ ((cp_423_0 331 3780 (v3 + 4) 8 (mz_pL N 232 2 ((cf_425_0 v3 0 N).toInt64))) ∧ (cp_424_151 v3 (mz_pL (mz_pL N 232 2 ((cf_425_0 v3 0 N).toInt64)) 232 122 (cf_423_0 331 3780 (v3 + 4) 8 (mz_pL N 232 2 ((cf_425_0 v3 0 N).toInt64)))))))) ∧ (¬ (v1 = 9) → ((v1 = 10 → ((cp_425_0 v3 0 N) ∧ ((cp_425_0 v3 4 (mz_wL N 322 10 ((cf_425_0 v3 0 N).toInt64))) ∧ (cp_424_223 v3 (mz_wL (mz_wL N 322 10 ((cf_425_0 v3 0 N).toInt64)) 321 10 ((cf_425_0 v3 4 (mz_wL N 322 10 ((cf_425_0 v3 0 N).toInt64))).toInt64)))))) ∧ (¬ (v1 = 10) → ((v1 = 11 → ((cp_425_0 v3 0 N) ∧ ((mz_ib v2 3) ∧ ((cp_425_0 v3 4 (mz_wI N 250 v2 (cf_425_0 v3 0 N))) ∧ ((mz_ib v2 3) ∧ (cp_424_296 v2 v3 (mz_wL (mz_wI N 250 v2 (cf_425_0 v3 0 N)) 305 v2 ((cf_425_0 v3 4 (mz_wI N 250 v2 (cf_425_0 v3 0 N))).toInt64)))))))) ∧ (¬ (v1 = 11) → ((v1 = 12 → ((cp_422_0 v3 0 N) ∧ (((cf_422_0 v3 0 N) = 1 → (cp_424_354 v2 true v2 v3 N)) ∧ (¬ ((cf_422_0 v3 0 N) = 1) → (cp_424_354 v2 false v2 v3 N))))) ∧ (¬ (v1 = 12) → ((v1 = 13 → ((mz_ib v2 20) ∧ ((cp_422_0 v3 1 (mz_wI N 308 v2 (mz_b01 true))) ∧ ((mz_ib v2 20) ∧ (cp_424_447 v2 v3 (mz_wI (mz_wI N 308 v2 (mz_b01 true)) 309 v2 (cf_422_0 v3 1 (mz_wI N 308 v2 (mz_b01 true))))))))) ∧ (¬ (v1 = 13) → ((v1 = 14 → ((mz_ib v2 40) ∧ ((cp_422_0 v3 1 (mz_wI N 311 v2 (mz_b01 true))) ∧ ((mz_ib v2 40) ∧ (cp_424_481 v2 v3 (mz_wI (mz_wI N 311 v2 (mz_b01 true)) 313 v2 (cf_422_0 v3 1 (mz_wI N 311 v2 (mz_b01 true))))))))) ∧ (¬ (v1 = 14) → ((mz_ib v2 8) ∧ ((cp_422_0 v3 1 (mz_wI N 282 v2 (mz_b01 true))) ∧ ((mz_ib v2 8) ∧ (cp_424_548 v2 v3 (mz_wI (mz_wI N 282 v2 (mz_b01 true)) 283 v2 (cf_422_0 v3 1 (mz_wI N 282 v2 (mz_b01 true)))))))))))))))))))))
/-! 421 KeptHouseModel.read (III)V -/
noncomputable def cf_421_134 (v2 : Int32) (v3 : Int32) (v4 : Int32) (N : mz_N) : ((Int32 × mz_N) ⊕ (mz_N)) := (.inl ((v4 + 1), N))
def cp_421_134 (v2 : Int32) (v3 : Int32) (v4 : Int32) (N : mz_N) : Prop := True
noncomputable def cq_421_96 (v2 : Int32) (v3 : Int32) (s : Int32 × mz_N) : ((Int32 × mz_N) ⊕ (mz_N)) := if s.1 < 48 then (cf_421_134 v2 v3 s.1 (mz_wI s.2 234 ((48 * v2) + s.1) ((mz_ishr (cf_422_0 v3 (s.1 / 2) s.2) (4 * (mz_irem s.1 2))) &&& 15))) else (.inr s.2)
def cd_421_96 (v2 : Int32) (v3 : Int32) (s : Int32 × mz_N) : Prop := (s.1 < 48 → ((cp_422_0 v3 (s.1 / 2) s.2) ∧ ((mz_ib ((48 * v2) + s.1) 240) ∧ (cp_421_134 v2 v3 s.1 (mz_wI s.2 234 ((48 * v2) + s.1) ((mz_ishr (cf_422_0 v3 (s.1 / 2) s.2) (4 * (mz_irem s.1 2))) &&& 15)))))) ∧ (¬ (s.1 < 48) → True)
noncomputable def cf_421_96 (v2 : Int32) (v3 : Int32) (v4 : Int32) (N : mz_N) : (mz_N) := mz_run (cq_421_96 v2 v3) (v4, N)
def cp_421_96 (v2 : Int32) (v3 : Int32) (v4 : Int32) (N : mz_N) : Prop := ∃ n, mz_ok (cq_421_96 v2 v3) (cd_421_96 v2 v3) n (v4, N)
noncomputable def cq_421_231 (v2 : Int32) (v3 : Int32) (s : Int32 × mz_N) : ((Int32 × mz_N) ⊕ (mz_N)) := if s.1 < 24 then (.inl ((s.1 + 1), mz_wI s.2 246 ((24 * v2) + s.1) (cf_422_0 v3 s.1 s.2))) else (.inr s.2)
def cd_421_231 (v2 : Int32) (v3 : Int32) (s : Int32 × mz_N) : Prop := (s.1 < 24 → ((cp_422_0 v3 s.1 s.2) ∧ (mz_ib ((24 * v2) + s.1) 96))) ∧ (¬ (s.1 < 24) → True)
noncomputable def cf_421_231 (v2 : Int32) (v3 : Int32) (v4 : Int32) (N : mz_N) : (mz_N) := mz_run (cq_421_231 v2 v3) (v4, N)
def cp_421_231 (v2 : Int32) (v3 : Int32) (v4 : Int32) (N : mz_N) : Prop := ∃ n, mz_ok (cq_421_231 v2 v3) (cd_421_231 v2 v3) n (v4, N)
noncomputable def cf_421_327 (s1 : Int32) (N : mz_N) : (mz_N) := mz_pI N 232 27 s1
def cp_421_327 (s1 : Int32) (N : mz_N) : Prop := True
noncomputable def cf_421_307 (v2 : Int32) (v3 : Int32) (N : mz_N) : (mz_N) := if v2 = 7 then (cf_421_327 (cf_422_0 v3 0 N) N) else (cf_421_327 (N.1 232 27) N)
def cp_421_307 (v2 : Int32) (v3 : Int32) (N : mz_N) : Prop := (v2 = 7 → ((cp_422_0 v3 0 N) ∧ (cp_421_327 (cf_422_0 v3 0 N) N))) ∧ (¬ (v2 = 7) → (cp_421_327 (N.1 232 27) N))
noncomputable def cq_421_269 (v2 : Int32) (v3 : Int32) (s : Int32 × mz_N) : ((Int32 × mz_N) ⊕ (mz_N)) := if s.1 < 28 then (if v2 < 7 then (.inl ((s.1 + 1), mz_wI s.2 252 ((28 * v2) + s.1) (cf_422_0 v3 s.1 s.2))) else (.inr (cf_421_307 v2 v3 s.2))) else (.inr (cf_421_307 v2 v3 s.2))
def cd_421_269 (v2 : Int32) (v3 : Int32) (s : Int32 × mz_N) : Prop := (s.1 < 28 → ((v2 < 7 → ((cp_422_0 v3 s.1 s.2) ∧ (mz_ib ((28 * v2) + s.1) 196))) ∧ (¬ (v2 < 7) → (cp_421_307 v2 v3 s.2)))) ∧ (¬ (s.1 < 28) → (cp_421_307 v2 v3 s.2))
noncomputable def cf_421_269 (v2 : Int32) (v3 : Int32) (v4 : Int32) (N : mz_N) : (mz_N) := mz_run (cq_421_269 v2 v3) (v4, N)
def cp_421_269 (v2 : Int32) (v3 : Int32) (v4 : Int32) (N : mz_N) : Prop := ∃ n, mz_ok (cq_421_269 v2 v3) (cd_421_269 v2 v3) n (v4, N)
noncomputable def cf_421_84 (v2 : Int32) (v3 : Int32) (v4 : Int32) (N : mz_N) : ((Int32 × mz_N) ⊕ (mz_N)) := (.inl ((v4 + 1), N))
def cp_421_84 (v2 : Int32) (v3 : Int32) (v4 : Int32) (N : mz_N) : Prop := True
noncomputable def cq_421_47 (v2 : Int32) (v3 : Int32) (s : Int32 × mz_N) : ((Int32 × mz_N) ⊕ (mz_N)) := if s.1 < 110 then (cf_421_84 v2 v3 s.1 (mz_wI s.2 233 ((110 * v2) + s.1) ((mz_ishr (cf_422_0 v3 (s.1 / 4) s.2) (2 * (mz_irem s.1 4))) &&& 3))) else (.inr s.2)
def cd_421_47 (v2 : Int32) (v3 : Int32) (s : Int32 × mz_N) : Prop := (s.1 < 110 → ((cp_422_0 v3 (s.1 / 4) s.2) ∧ ((mz_ib ((110 * v2) + s.1) 4400) ∧ (cp_421_84 v2 v3 s.1 (mz_wI s.2 233 ((110 * v2) + s.1) ((mz_ishr (cf_422_0 v3 (s.1 / 4) s.2) (2 * (mz_irem s.1 4))) &&& 3)))))) ∧ (¬ (s.1 < 110) → True)
noncomputable def cf_421_47 (v2 : Int32) (v3 : Int32) (v4 : Int32) (N : mz_N) : (mz_N) := mz_run (cq_421_47 v2 v3) (v4, N)
def cp_421_47 (v2 : Int32) (v3 : Int32) (v4 : Int32) (N : mz_N) : Prop := ∃ n, mz_ok (cq_421_47 v2 v3) (cd_421_47 v2 v3) n (v4, N)
noncomputable def cf_421_407 (s1 : Int32) (s2 : Int32) (v2 : Int32) (v3 : Int32) (v4 : Int32) (N : mz_N) : ((Int32 × mz_N) ⊕ (mz_N)) := (.inl ((v4 + 1), mz_wI N 248 s1 s2))
def cp_421_407 (s1 : Int32) (s2 : Int32) (v2 : Int32) (v3 : Int32) (v4 : Int32) (N : mz_N) : Prop := mz_ib s1 11
noncomputable def cf_421_378 (s1 : Int32) (s2 : Int32) (v2 : Int32) (v3 : Int32) (v4 : Int32) (N : mz_N) : ((Int32 × mz_N) ⊕ (mz_N)) := if v2 = 1 then (cf_421_407 v4 (cf_422_0 v3 v4 (mz_wI N 247 s1 s2)) v2 v3 v4 (mz_wI N 247 s1 s2)) else (cf_421_407 v4 (mz_gI (mz_wI N 247 s1 s2) 248 v4) v2 v3 v4 (mz_wI N 247 s1 s2))
def cp_421_378 (s1 : Int32) (s2 : Int32) (v2 : Int32) (v3 : Int32) (v4 : Int32) (N : mz_N) : Prop := (mz_ib s1 11) ∧ ((v2 = 1 → ((cp_422_0 v3 v4 (mz_wI N 247 s1 s2)) ∧ (cp_421_407 v4 (cf_422_0 v3 v4 (mz_wI N 247 s1 s2)) v2 v3 v4 (mz_wI N 247 s1 s2)))) ∧ (¬ (v2 = 1) → ((mz_ib v4 11) ∧ (cp_421_407 v4 (mz_gI (mz_wI N 247 s1 s2) 248 v4) v2 v3 v4 (mz_wI N 247 s1 s2)))))
noncomputable def cq_421_336 (v2 : Int32) (v3 : Int32) (s : Int32 × mz_N) : ((Int32 × mz_N) ⊕ (mz_N)) := if s.1 < 11 then (if v2 = 0 then (cf_421_378 s.1 ((cf_423_0 331 3780 (v3 + (2 * s.1)) 2 s.2).toInt32) v2 v3 s.1 s.2) else (cf_421_378 s.1 (mz_gI s.2 247 s.1) v2 v3 s.1 s.2)) else (.inr s.2)
def cd_421_336 (v2 : Int32) (v3 : Int32) (s : Int32 × mz_N) : Prop := (s.1 < 11 → ((v2 = 0 → ((cp_423_0 331 3780 (v3 + (2 * s.1)) 2 s.2) ∧ (cp_421_378 s.1 ((cf_423_0 331 3780 (v3 + (2 * s.1)) 2 s.2).toInt32) v2 v3 s.1 s.2))) ∧ (¬ (v2 = 0) → ((mz_ib s.1 11) ∧ (cp_421_378 s.1 (mz_gI s.2 247 s.1) v2 v3 s.1 s.2))))) ∧ (¬ (s.1 < 11) → True)
noncomputable def cf_421_336 (v2 : Int32) (v3 : Int32) (v4 : Int32) (N : mz_N) : (mz_N) := mz_run (cq_421_336 v2 v3) (v4, N)
def cp_421_336 (v2 : Int32) (v3 : Int32) (v4 : Int32) (N : mz_N) : Prop := ∃ n, mz_ok (cq_421_336 v2 v3) (cd_421_336 v2 v3) n (v4, N)
noncomputable def cq_421_146 (v2 : Int32) (v3 : Int32) (s : Int32 × mz_N) : ((Int32 × mz_N) ⊕ (mz_N)) := if s.1 < 24 then (.inl ((s.1 + 1), mz_wI s.2 244 ((24 * v2) + s.1) (cf_422_0 v3 s.1 s.2))) else (.inr s.2)
def cd_421_146 (v2 : Int32) (v3 : Int32) (s : Int32 × mz_N) : Prop := (s.1 < 24 → ((cp_422_0 v3 s.1 s.2) ∧ (mz_ib ((24 * v2) + s.1) 240))) ∧ (¬ (s.1 < 24) → True)
noncomputable def cf_421_146 (v2 : Int32) (v3 : Int32) (v4 : Int32) (N : mz_N) : (mz_N) := mz_run (cq_421_146 v2 v3) (v4, N)
def cp_421_146 (v2 : Int32) (v3 : Int32) (v4 : Int32) (N : mz_N) : Prop := ∃ n, mz_ok (cq_421_146 v2 v3) (cd_421_146 v2 v3) n (v4, N)
noncomputable def cf_421_219 (v2 : Int32) (v3 : Int32) (v4 : Int32) (N : mz_N) : ((Int32 × mz_N) ⊕ (mz_N)) := (.inl ((v4 + 1), N))
def cp_421_219 (v2 : Int32) (v3 : Int32) (v4 : Int32) (N : mz_N) : Prop := True
noncomputable def cq_421_184 (v2 : Int32) (v3 : Int32) (s : Int32 × mz_N) : ((Int32 × mz_N) ⊕ (mz_N)) := if s.1 < 12 then (cf_421_219 v2 v3 s.1 (mz_wI s.2 245 ((12 * v2) + s.1) (mz_i2s ((cf_423_0 331 3780 (v3 + (2 * s.1)) 2 s.2).toInt32)))) else (.inr s.2)
def cd_421_184 (v2 : Int32) (v3 : Int32) (s : Int32 × mz_N) : Prop := (s.1 < 12 → ((cp_423_0 331 3780 (v3 + (2 * s.1)) 2 s.2) ∧ ((mz_ib ((12 * v2) + s.1) 24) ∧ (cp_421_219 v2 v3 s.1 (mz_wI s.2 245 ((12 * v2) + s.1) (mz_i2s ((cf_423_0 331 3780 (v3 + (2 * s.1)) 2 s.2).toInt32))))))) ∧ (¬ (s.1 < 12) → True)
noncomputable def cf_421_184 (v2 : Int32) (v3 : Int32) (v4 : Int32) (N : mz_N) : (mz_N) := mz_run (cq_421_184 v2 v3) (v4, N)
def cp_421_184 (v2 : Int32) (v3 : Int32) (v4 : Int32) (N : mz_N) : Prop := ∃ n, mz_ok (cq_421_184 v2 v3) (cd_421_184 v2 v3) n (v4, N)
noncomputable def cf_421_0 (v1 : Int32) (v2 : Int32) (v3 : Int32) (N : mz_N) : (mz_N) := if v1 = 1 then (cf_421_47 v2 v3 0 N) else (if v1 = 2 then (cf_421_96 v2 v3 0 N) else (if v1 = 3 then (cf_421_146 v2 v3 0 N) else (if v1 = 4 then (cf_421_184 v2 v3 0 N) else (if v1 = 5 then (cf_421_231 v2 v3 0 N) else (if v1 = 6 then (cf_421_269 v2 v3 0 N) else (if v1 = 7 then (cf_421_336 v2 v3 0 N) else (cf_424_0 v1 v2 v3 N)))))))
def cp_421_0 (v1 : Int32) (v2 : Int32) (v3 : Int32) (N : mz_N) : Prop := (v1 = 1 → (cp_421_47 v2 v3 0 N)) ∧ (¬ (v1 = 1) → ((v1 = 2 → (cp_421_96 v2 v3 0 N)) ∧ (¬ (v1 = 2) → ((v1 = 3 → (cp_421_146 v2 v3 0 N)) ∧ (¬ (v1 = 3) → ((v1 = 4 → (cp_421_184 v2 v3 0 N)) ∧ (¬ (v1 = 4) → ((v1 = 5 → (cp_421_231 v2 v3 0 N)) ∧ (¬ (v1 = 5) → ((v1 = 6 → (cp_421_269 v2 v3 0 N)) ∧ (¬ (v1 = 6) → ((v1 = 7 → (cp_421_336 v2 v3 0 N)) ∧ (¬ (v1 = 7) → (cp_424_0 v1 v2 v3 N))))))))))))))
/-! 426 KeptHouseModel.copyPlan (II)V -/
noncomputable def cq_426_2 (v1 : Int32) (v2 : Int32) (s : Int32 × mz_N) : ((Int32 × mz_N) ⊕ (mz_N)) := if s.1 < 550 then (.inl ((s.1 + 1), mz_wI s.2 233 ((550 * v2) + s.1) (mz_gI s.2 233 ((550 * v1) + s.1)))) else (.inr s.2)
def cd_426_2 (v1 : Int32) (v2 : Int32) (s : Int32 × mz_N) : Prop := (s.1 < 550 → ((mz_ib ((550 * v1) + s.1) 4400) ∧ (mz_ib ((550 * v2) + s.1) 4400))) ∧ (¬ (s.1 < 550) → True)
noncomputable def cf_426_2 (v1 : Int32) (v2 : Int32) (v3 : Int32) (N : mz_N) : (mz_N) := mz_run (cq_426_2 v1 v2) (v3, N)
def cp_426_2 (v1 : Int32) (v2 : Int32) (v3 : Int32) (N : mz_N) : Prop := ∃ n, mz_ok (cq_426_2 v1 v2) (cd_426_2 v1 v2) n (v3, N)
noncomputable def cf_426_0 (v1 : Int32) (v2 : Int32) (N : mz_N) : (mz_N) := (cf_426_2 v1 v2 0 N)
def cp_426_0 (v1 : Int32) (v2 : Int32) (N : mz_N) : Prop := cp_426_2 v1 v2 0 N
/-! 431 KeptHouseModel.edgeOf (II)I -/
noncomputable def cf_431_0 (v0 : Int32) (v1 : Int32) : (Int32) := if v1 = 0 then ((9 * (v0 / 8)) + (mz_irem v0 8)) else (if v1 = 1 then (((9 * (v0 / 8)) + (mz_irem v0 8)) + 1) else (if v1 = 2 then (54 + v0) else (62 + v0)))
def cp_431_0 (v0 : Int32) (v1 : Int32) : Prop := True
/-! 432 KeptHouseModel.cellBefore (I)I -/
noncomputable def cf_432_0 (v0 : Int32) : (Int32) := if v0 < 54 then (if (mz_irem v0 9) = 0 then (-1) else (((8 * (v0 / 9)) + (mz_irem v0 9)) - 1)) else (if v0 < 62 then (-1) else (v0 - 62))
def cp_432_0 (v0 : Int32) : Prop := True
/-! 433 KeptHouseModel.cellBehind (I)I -/
noncomputable def cf_433_0 (v0 : Int32) : (Int32) := if v0 < 54 then (if (mz_irem v0 9) = 8 then (-1) else ((8 * (v0 / 9)) + (mz_irem v0 9))) else (if 101 < v0 then (-1) else (v0 - 54))
def cp_433_0 (v0 : Int32) : Prop := True
/-! 430 KeptHouseModel.beyond (II)I -/
noncomputable def cf_430_0 (v0 : Int32) (v1 : Int32) : (Int32) := if (mz_irem v1 2) = 0 then (cf_432_0 (cf_431_0 v0 v1)) else (cf_433_0 (cf_431_0 v0 v1))
def cp_430_0 (v0 : Int32) (v1 : Int32) : Prop := True
/-! 429 KeptHouseModel.flood (III)I -/
noncomputable def cf_429_143 (v1 : Int32) (v3 : Int32) (v4 : Int32) (v5 : Int32) (v6 : Int32) (v7 : Int32) (v8 : Int32) (N : mz_N) : ((Int32 × Int32 × mz_N) ⊕ ((Int32 × Int32 × mz_N) ⊕ (Int32 × mz_N))) := (.inl (v5, (v8 + 1), N))
def cp_429_143 (v1 : Int32) (v3 : Int32) (v4 : Int32) (v5 : Int32) (v6 : Int32) (v7 : Int32) (v8 : Int32) (N : mz_N) : Prop := True
noncomputable def cq_429_48 (v1 : Int32) (v3 : Int32) (v4 : Int32) (v6 : Int32) (v7 : Int32) (s : Int32 × Int32 × mz_N) : ((Int32 × Int32 × mz_N) ⊕ ((Int32 × Int32 × mz_N) ⊕ (Int32 × mz_N))) := if s.2.1 < 4 then (if (cf_430_0 v7 s.2.1) < 0 then (cf_429_143 v1 v3 v4 s.1 v6 v7 s.2.1 s.2.2) else (if (mz_gI s.2.2 233 (((550 * v1) + (110 * v4)) + (cf_431_0 v7 s.2.1))) = 0 then (if (mz_gI s.2.2 235 ((48 * v4) + (cf_430_0 v7 s.2.1))) < 0 then (cf_429_143 v1 v3 v4 (s.1 + 1) v6 v7 s.2.1 (mz_wI (mz_wI s.2.2 235 ((48 * v4) + (cf_430_0 v7 s.2.1)) v3) 238 s.1 ((48 * v4) + (cf_430_0 v7 s.2.1)))) else (cf_429_143 v1 v3 v4 s.1 v6 v7 s.2.1 s.2.2)) else (cf_429_143 v1 v3 v4 s.1 v6 v7 s.2.1 s.2.2))) else (.inr (.inl (s.1, (v6 + 1), s.2.2)))
def cd_429_48 (v1 : Int32) (v3 : Int32) (v4 : Int32) (v6 : Int32) (v7 : Int32) (s : Int32 × Int32 × mz_N) : Prop := (s.2.1 < 4 → (((cf_430_0 v7 s.2.1) < 0 → (cp_429_143 v1 v3 v4 s.1 v6 v7 s.2.1 s.2.2)) ∧ (¬ ((cf_430_0 v7 s.2.1) < 0) → ((mz_ib (((550 * v1) + (110 * v4)) + (cf_431_0 v7 s.2.1)) 4400) ∧ (((mz_gI s.2.2 233 (((550 * v1) + (110 * v4)) + (cf_431_0 v7 s.2.1))) = 0 → ((mz_ib ((48 * v4) + (cf_430_0 v7 s.2.1)) 240) ∧ (((mz_gI s.2.2 235 ((48 * v4) + (cf_430_0 v7 s.2.1))) < 0 → ((mz_ib ((48 * v4) + (cf_430_0 v7 s.2.1)) 240) ∧ ((mz_ib s.1 240) ∧ (cp_429_143 v1 v3 v4 (s.1 + 1) v6 v7 s.2.1 (mz_wI (mz_wI s.2.2 235 ((48 * v4) + (cf_430_0 v7 s.2.1)) v3) 238 s.1 ((48 * v4) + (cf_430_0 v7 s.2.1))))))) ∧ (¬ ((mz_gI s.2.2 235 ((48 * v4) + (cf_430_0 v7 s.2.1))) < 0) → (cp_429_143 v1 v3 v4 s.1 v6 v7 s.2.1 s.2.2))))) ∧ (¬ ((mz_gI s.2.2 233 (((550 * v1) + (110 * v4)) + (cf_431_0 v7 s.2.1))) = 0) → (cp_429_143 v1 v3 v4 s.1 v6 v7 s.2.1 s.2.2))))))) ∧ (¬ (s.2.1 < 4) → True)
noncomputable def cf_429_48 (v1 : Int32) (v3 : Int32) (v4 : Int32) (v5 : Int32) (v6 : Int32) (v7 : Int32) (v8 : Int32) (N : mz_N) : ((Int32 × Int32 × mz_N) ⊕ (Int32 × mz_N)) := mz_run (cq_429_48 v1 v3 v4 v6 v7) (v5, v8, N)
def cp_429_48 (v1 : Int32) (v3 : Int32) (v4 : Int32) (v5 : Int32) (v6 : Int32) (v7 : Int32) (v8 : Int32) (N : mz_N) : Prop := ∃ n, mz_ok (cq_429_48 v1 v3 v4 v6 v7) (cd_429_48 v1 v3 v4 v6 v7) n (v5, v8, N)
noncomputable def cq_429_26 (v1 : Int32) (v3 : Int32) (v4 : Int32) (s : Int32 × Int32 × mz_N) : ((Int32 × Int32 × mz_N) ⊕ (Int32 × mz_N)) := if s.2.1 < s.1 then (cf_429_48 v1 v3 v4 s.1 s.2.1 (mz_irem (mz_gI s.2.2 238 s.2.1) 48) 0 s.2.2) else (.inr (s.1, s.2.2))
def cd_429_26 (v1 : Int32) (v3 : Int32) (v4 : Int32) (s : Int32 × Int32 × mz_N) : Prop := (s.2.1 < s.1 → ((mz_ib s.2.1 240) ∧ (cp_429_48 v1 v3 v4 s.1 s.2.1 (mz_irem (mz_gI s.2.2 238 s.2.1) 48) 0 s.2.2))) ∧ (¬ (s.2.1 < s.1) → True)
noncomputable def cf_429_26 (v1 : Int32) (v3 : Int32) (v4 : Int32) (v5 : Int32) (v6 : Int32) (N : mz_N) : (Int32 × mz_N) := mz_run (cq_429_26 v1 v3 v4) (v5, v6, N)
def cp_429_26 (v1 : Int32) (v3 : Int32) (v4 : Int32) (v5 : Int32) (v6 : Int32) (N : mz_N) : Prop := ∃ n, mz_ok (cq_429_26 v1 v3 v4) (cd_429_26 v1 v3 v4) n (v5, v6, N)
noncomputable def cf_429_0 (v1 : Int32) (v2 : Int32) (v3 : Int32) (N : mz_N) : (Int32 × mz_N) := (cf_429_26 v1 v3 (v2 / 48) 1 0 (mz_wI (mz_wI N 238 0 v2) 235 v2 v3))
def cp_429_0 (v1 : Int32) (v2 : Int32) (v3 : Int32) (N : mz_N) : Prop := (mz_ib v2 240) ∧ (cp_429_26 v1 v3 (v2 / 48) 1 0 (mz_wI (mz_wI N 238 0 v2) 235 v2 v3))
/-! 428 KeptHouseModel.findSpaces (I)V -/
noncomputable def cf_428_84 (v1 : Int32) (v2 : Int32) (N : mz_N) : ((Int32 × mz_N) ⊕ (mz_N)) := (.inl ((v2 + 1), N))
def cp_428_84 (v1 : Int32) (v2 : Int32) (N : mz_N) : Prop := True
noncomputable def cq_428_29 (v1 : Int32) (s : Int32 × mz_N) : ((Int32 × mz_N) ⊕ (mz_N)) := if s.1 < 240 then (if (mz_gI s.2 235 s.1) < 0 then (cf_428_84 v1 s.1 (mz_pI (mz_wI ((cf_429_0 v1 s.1 ((mz_wI s.2 236 (s.2.1 232 7) s.1).1 232 7) (mz_wI s.2 236 (s.2.1 232 7) s.1)).2) 237 ((mz_wI s.2 236 (s.2.1 232 7) s.1).1 232 7) ((cf_429_0 v1 s.1 ((mz_wI s.2 236 (s.2.1 232 7) s.1).1 232 7) (mz_wI s.2 236 (s.2.1 232 7) s.1)).1)) 232 7 (((mz_wI ((cf_429_0 v1 s.1 ((mz_wI s.2 236 (s.2.1 232 7) s.1).1 232 7) (mz_wI s.2 236 (s.2.1 232 7) s.1)).2) 237 ((mz_wI s.2 236 (s.2.1 232 7) s.1).1 232 7) ((cf_429_0 v1 s.1 ((mz_wI s.2 236 (s.2.1 232 7) s.1).1 232 7) (mz_wI s.2 236 (s.2.1 232 7) s.1)).1)).1 232 7) + 1))) else (cf_428_84 v1 s.1 s.2)) else (.inr s.2)
def cd_428_29 (v1 : Int32) (s : Int32 × mz_N) : Prop := (s.1 < 240 → ((mz_ib s.1 240) ∧ (((mz_gI s.2 235 s.1) < 0 → ((mz_ib (s.2.1 232 7) 240) ∧ ((cp_429_0 v1 s.1 ((mz_wI s.2 236 (s.2.1 232 7) s.1).1 232 7) (mz_wI s.2 236 (s.2.1 232 7) s.1)) ∧ ((mz_ib ((mz_wI s.2 236 (s.2.1 232 7) s.1).1 232 7) 240) ∧ (cp_428_84 v1 s.1 (mz_pI (mz_wI ((cf_429_0 v1 s.1 ((mz_wI s.2 236 (s.2.1 232 7) s.1).1 232 7) (mz_wI s.2 236 (s.2.1 232 7) s.1)).2) 237 ((mz_wI s.2 236 (s.2.1 232 7) s.1).1 232 7) ((cf_429_0 v1 s.1 ((mz_wI s.2 236 (s.2.1 232 7) s.1).1 232 7) (mz_wI s.2 236 (s.2.1 232 7) s.1)).1)) 232 7 (((mz_wI ((cf_429_0 v1 s.1 ((mz_wI s.2 236 (s.2.1 232 7) s.1).1 232 7) (mz_wI s.2 236 (s.2.1 232 7) s.1)).2) 237 ((mz_wI s.2 236 (s.2.1 232 7) s.1).1 232 7) ((cf_429_0 v1 s.1 ((mz_wI s.2 236 (s.2.1 232 7) s.1).1 232 7) (mz_wI s.2 236 (s.2.1 232 7) s.1)).1)).1 232 7) + 1))))))) ∧ (¬ ((mz_gI s.2 235 s.1) < 0) → (cp_428_84 v1 s.1 s.2))))) ∧ (¬ (s.1 < 240) → True)
noncomputable def cf_428_29 (v1 : Int32) (v2 : Int32) (N : mz_N) : (mz_N) := mz_run (cq_428_29 v1) (v2, N)
def cp_428_29 (v1 : Int32) (v2 : Int32) (N : mz_N) : Prop := ∃ n, mz_ok (cq_428_29 v1) (cd_428_29 v1) n (v2, N)
noncomputable def cq_428_7 (v1 : Int32) (s : Int32 × mz_N) : ((Int32 × mz_N) ⊕ (mz_N)) := if s.1 < 240 then (.inl ((s.1 + 1), mz_wI s.2 235 s.1 (-1))) else (.inr (cf_428_29 v1 0 s.2))
def cd_428_7 (v1 : Int32) (s : Int32 × mz_N) : Prop := (s.1 < 240 → (mz_ib s.1 240)) ∧ (¬ (s.1 < 240) → (cp_428_29 v1 0 s.2))
noncomputable def cf_428_7 (v1 : Int32) (v2 : Int32) (N : mz_N) : (mz_N) := mz_run (cq_428_7 v1) (v2, N)
def cp_428_7 (v1 : Int32) (v2 : Int32) (N : mz_N) : Prop := ∃ n, mz_ok (cq_428_7 v1) (cd_428_7 v1) n (v2, N)
noncomputable def cf_428_0 (v1 : Int32) (N : mz_N) : (mz_N) := (cf_428_7 v1 0 (mz_pI N 232 7 0))
def cp_428_0 (v1 : Int32) (N : mz_N) : Prop := cp_428_7 v1 0 (mz_pI N 232 7 0)
/-! 434 KeptHouseModel.near (III)V -/
noncomputable def cf_434_43 (N : mz_N) : (mz_N) := N
def cp_434_43 (N : mz_N) : Prop := True
noncomputable def cf_434_24 (v1 : Int32) (v2 : Int32) (v3 : Int32) (N : mz_N) : (mz_N) := (cf_434_43 (mz_wI N 239 ((4 * ((40 * v2) + v1)) + v3) ((mz_gI N 239 ((4 * ((40 * v2) + v1)) + v3)) + 1)))
def cp_434_24 (v1 : Int32) (v2 : Int32) (v3 : Int32) (N : mz_N) : Prop := (mz_ib ((4 * ((40 * v2) + v1)) + v3) 6400) ∧ ((mz_ib ((4 * ((40 * v2) + v1)) + v3) 6400) ∧ (cp_434_43 (mz_wI N 239 ((4 * ((40 * v2) + v1)) + v3) ((mz_gI N 239 ((4 * ((40 * v2) + v1)) + v3)) + 1))))
noncomputable def cf_434_0 (v1 : Int32) (v2 : Int32) (v3 : Int32) (N : mz_N) : (mz_N) := if v1 = v2 then N else (cf_434_24 v1 v2 v3 (mz_wI N 239 ((4 * ((40 * v1) + v2)) + v3) ((mz_gI N 239 ((4 * ((40 * v1) + v2)) + v3)) + 1)))
def cp_434_0 (v1 : Int32) (v2 : Int32) (v3 : Int32) (N : mz_N) : Prop := (v1 = v2 → True) ∧ (¬ (v1 = v2) → ((mz_ib ((4 * ((40 * v1) + v2)) + v3) 6400) ∧ ((mz_ib ((4 * ((40 * v1) + v2)) + v3) 6400) ∧ (cp_434_24 v1 v2 v3 (mz_wI N 239 ((4 * ((40 * v1) + v2)) + v3) ((mz_gI N 239 ((4 * ((40 * v1) + v2)) + v3)) + 1))))))
/-! 436 KeptHouseModel.flatOfSpace (I)I -/
noncomputable def cf_436_0 (v1 : Int32) (N : mz_N) : (Int32) := (mz_gI N 234 (mz_gI N 236 v1))
def cp_436_0 (v1 : Int32) (N : mz_N) : Prop := (mz_ib v1 240) ∧ (mz_ib (mz_gI N 236 v1) 240)
/-! 435 KeptHouseModel.layFlats ()V -/
noncomputable def cf_435_73 (v1 : Int32) (N : mz_N) : ((Int32 × mz_N) ⊕ (mz_N)) := (.inl ((v1 + (-1)), N))
def cp_435_73 (v1 : Int32) (N : mz_N) : Prop := True
noncomputable def cq_435_35  (s : Int32 × mz_N) : ((Int32 × mz_N) ⊕ (mz_N)) := if s.1 < 0 then (.inr s.2) else (if (cf_436_0 s.1 s.2) < 10 then (cf_435_73 s.1 (mz_wI (mz_wI s.2 242 (cf_436_0 s.1 s.2) s.1) 243 (cf_436_0 s.1 s.2) ((mz_gI (mz_wI s.2 242 (cf_436_0 s.1 s.2) s.1) 243 (cf_436_0 s.1 s.2)) + (mz_gI (mz_wI s.2 242 (cf_436_0 s.1 s.2) s.1) 237 s.1)))) else (cf_435_73 s.1 s.2))
def cd_435_35  (s : Int32 × mz_N) : Prop := (s.1 < 0 → True) ∧ (¬ (s.1 < 0) → ((cp_436_0 s.1 s.2) ∧ (((cf_436_0 s.1 s.2) < 10 → ((mz_ib (cf_436_0 s.1 s.2) 10) ∧ ((mz_ib (cf_436_0 s.1 s.2) 10) ∧ ((mz_ib s.1 240) ∧ ((mz_ib (cf_436_0 s.1 s.2) 10) ∧ (cp_435_73 s.1 (mz_wI (mz_wI s.2 242 (cf_436_0 s.1 s.2) s.1) 243 (cf_436_0 s.1 s.2) ((mz_gI (mz_wI s.2 242 (cf_436_0 s.1 s.2) s.1) 243 (cf_436_0 s.1 s.2)) + (mz_gI (mz_wI s.2 242 (cf_436_0 s.1 s.2) s.1) 237 s.1))))))))) ∧ (¬ ((cf_436_0 s.1 s.2) < 10) → (cp_435_73 s.1 s.2)))))
noncomputable def cf_435_35 (v1 : Int32) (N : mz_N) : (mz_N) := mz_run (cq_435_35 ) (v1, N)
def cp_435_35 (v1 : Int32) (N : mz_N) : Prop := ∃ n, mz_ok (cq_435_35 ) (cd_435_35 ) n (v1, N)
noncomputable def cq_435_2  (s : Int32 × mz_N) : ((Int32 × mz_N) ⊕ (mz_N)) := if s.1 < 10 then (.inl ((s.1 + 1), mz_wI (mz_wI s.2 242 s.1 (-1)) 243 s.1 0)) else (.inr (cf_435_35 ((s.2.1 232 7) - 1) s.2))
def cd_435_2  (s : Int32 × mz_N) : Prop := (s.1 < 10 → ((mz_ib s.1 10) ∧ (mz_ib s.1 10))) ∧ (¬ (s.1 < 10) → (cp_435_35 ((s.2.1 232 7) - 1) s.2))
noncomputable def cf_435_2 (v1 : Int32) (N : mz_N) : (mz_N) := mz_run (cq_435_2 ) (v1, N)
def cp_435_2 (v1 : Int32) (N : mz_N) : Prop := ∃ n, mz_ok (cq_435_2 ) (cd_435_2 ) n (v1, N)
noncomputable def cf_435_0 (N : mz_N) : (mz_N) := (cf_435_2 0 N)
def cp_435_0 (N : mz_N) : Prop := cp_435_2 0 N
/-! 427 KeptHouseModel.lay ()V -/
noncomputable def cf_427_206 (v1 : Int32) (N : mz_N) : ((Int32 × mz_N) ⊕ (mz_N)) := (.inl ((v1 + 1), N))
def cp_427_206 (v1 : Int32) (N : mz_N) : Prop := True
noncomputable def cf_427_168 (s1 : Int32) (s2 : Int32) (s3 : Bool) (v1 : Int32) (N : mz_N) : ((Int32 × mz_N) ⊕ (mz_N)) := (cf_427_206 v1 (mz_wI N 241 s1 (s2 + (mz_b01 s3))))
def cp_427_168 (s1 : Int32) (s2 : Int32) (s3 : Bool) (v1 : Int32) (N : mz_N) : Prop := (mz_ib s1 240) ∧ (cp_427_206 v1 (mz_wI N 241 s1 (s2 + (mz_b01 s3))))
noncomputable def cf_427_148 (s1 : Int32) (s2 : Int32) (s3 : Bool) (v1 : Int32) (v3 : Int32) (v6 : Int32) (N : mz_N) : ((Int32 × mz_N) ⊕ (mz_N)) := if v3 = 3 then (cf_427_168 v6 (mz_gI (mz_wI N 240 s1 (s2 + (mz_b01 s3))) 241 v6) true v1 (mz_wI N 240 s1 (s2 + (mz_b01 s3)))) else (cf_427_168 v6 (mz_gI (mz_wI N 240 s1 (s2 + (mz_b01 s3))) 241 v6) false v1 (mz_wI N 240 s1 (s2 + (mz_b01 s3))))
def cp_427_148 (s1 : Int32) (s2 : Int32) (s3 : Bool) (v1 : Int32) (v3 : Int32) (v6 : Int32) (N : mz_N) : Prop := (mz_ib s1 240) ∧ ((mz_ib v6 240) ∧ ((v3 = 3 → (cp_427_168 v6 (mz_gI (mz_wI N 240 s1 (s2 + (mz_b01 s3))) 241 v6) true v1 (mz_wI N 240 s1 (s2 + (mz_b01 s3))))) ∧ (¬ (v3 = 3) → (cp_427_168 v6 (mz_gI (mz_wI N 240 s1 (s2 + (mz_b01 s3))) 241 v6) false v1 (mz_wI N 240 s1 (s2 + (mz_b01 s3)))))))
noncomputable def cf_427_126 (s1 : Int32) (s2 : Int32) (v1 : Int32) (v3 : Int32) (N : mz_N) : ((Int32 × mz_N) ⊕ (mz_N)) := if v3 = 2 then (cf_427_148 (mz_gI N 235 (s1 + s2)) (mz_gI N 240 (mz_gI N 235 (s1 + s2))) true v1 v3 (mz_gI N 235 (s1 + s2)) N) else (cf_427_148 (mz_gI N 235 (s1 + s2)) (mz_gI N 240 (mz_gI N 235 (s1 + s2))) false v1 v3 (mz_gI N 235 (s1 + s2)) N)
def cp_427_126 (s1 : Int32) (s2 : Int32) (v1 : Int32) (v3 : Int32) (N : mz_N) : Prop := (mz_ib (s1 + s2) 240) ∧ ((mz_ib (mz_gI N 235 (s1 + s2)) 240) ∧ ((v3 = 2 → (cp_427_148 (mz_gI N 235 (s1 + s2)) (mz_gI N 240 (mz_gI N 235 (s1 + s2))) true v1 v3 (mz_gI N 235 (s1 + s2)) N)) ∧ (¬ (v3 = 2) → (cp_427_148 (mz_gI N 235 (s1 + s2)) (mz_gI N 240 (mz_gI N 235 (s1 + s2))) false v1 v3 (mz_gI N 235 (s1 + s2)) N))))
noncomputable def cf_427_106 (v1 : Int32) (v2 : Int32) (v3 : Int32) (v4 : Int32) (v5 : Int32) (N : mz_N) : ((Int32 × mz_N) ⊕ (mz_N)) := if v4 < 0 then (cf_427_126 (48 * v2) v5 v1 v3 N) else (cf_427_126 (48 * v2) v4 v1 v3 N)
def cp_427_106 (v1 : Int32) (v2 : Int32) (v3 : Int32) (v4 : Int32) (v5 : Int32) (N : mz_N) : Prop := (v4 < 0 → (cp_427_126 (48 * v2) v5 v1 v3 N)) ∧ (¬ (v4 < 0) → (cp_427_126 (48 * v2) v4 v1 v3 N))
noncomputable def cq_427_214  (s : Int32 × mz_N) : ((Int32 × mz_N) ⊕ (mz_N)) := if s.1 < 192 then (.inl ((s.1 + 1), (cf_434_0 (mz_gI s.2 235 s.1) (mz_gI s.2 235 (s.1 + 48)) 0 s.2))) else (.inr (cf_435_0 s.2))
def cd_427_214  (s : Int32 × mz_N) : Prop := (s.1 < 192 → ((mz_ib s.1 240) ∧ ((mz_ib (s.1 + 48) 240) ∧ (cp_434_0 (mz_gI s.2 235 s.1) (mz_gI s.2 235 (s.1 + 48)) 0 s.2)))) ∧ (¬ (s.1 < 192) → (cp_435_0 s.2))
noncomputable def cf_427_214 (v1 : Int32) (N : mz_N) : (mz_N) := mz_run (cq_427_214 ) (v1, N)
def cp_427_214 (v1 : Int32) (N : mz_N) : Prop := ∃ n, mz_ok (cq_427_214 ) (cd_427_214 ) n (v1, N)
noncomputable def cq_427_59  (s : Int32 × mz_N) : ((Int32 × mz_N) ⊕ (mz_N)) := if s.1 < 550 then (if (cf_432_0 (mz_irem s.1 110)) < 0 then (cf_427_106 s.1 (s.1 / 110) (mz_gI s.2 233 s.1) (cf_432_0 (mz_irem s.1 110)) (cf_433_0 (mz_irem s.1 110)) s.2) else (if (cf_433_0 (mz_irem s.1 110)) < 0 then (cf_427_106 s.1 (s.1 / 110) (mz_gI s.2 233 s.1) (cf_432_0 (mz_irem s.1 110)) (cf_433_0 (mz_irem s.1 110)) s.2) else (if 0 < (mz_gI s.2 233 s.1) then (cf_427_206 s.1 (cf_434_0 (mz_gI s.2 235 ((48 * (s.1 / 110)) + (cf_432_0 (mz_irem s.1 110)))) (mz_gI s.2 235 ((48 * (s.1 / 110)) + (cf_433_0 (mz_irem s.1 110)))) (mz_gI s.2 233 s.1) s.2)) else (cf_427_206 s.1 s.2)))) else (.inr (cf_427_214 0 s.2))
def cd_427_59  (s : Int32 × mz_N) : Prop := (s.1 < 550 → ((mz_ib s.1 4400) ∧ (((cf_432_0 (mz_irem s.1 110)) < 0 → (cp_427_106 s.1 (s.1 / 110) (mz_gI s.2 233 s.1) (cf_432_0 (mz_irem s.1 110)) (cf_433_0 (mz_irem s.1 110)) s.2)) ∧ (¬ ((cf_432_0 (mz_irem s.1 110)) < 0) → (((cf_433_0 (mz_irem s.1 110)) < 0 → (cp_427_106 s.1 (s.1 / 110) (mz_gI s.2 233 s.1) (cf_432_0 (mz_irem s.1 110)) (cf_433_0 (mz_irem s.1 110)) s.2)) ∧ (¬ ((cf_433_0 (mz_irem s.1 110)) < 0) → ((0 < (mz_gI s.2 233 s.1) → ((mz_ib ((48 * (s.1 / 110)) + (cf_432_0 (mz_irem s.1 110))) 240) ∧ ((mz_ib ((48 * (s.1 / 110)) + (cf_433_0 (mz_irem s.1 110))) 240) ∧ ((cp_434_0 (mz_gI s.2 235 ((48 * (s.1 / 110)) + (cf_432_0 (mz_irem s.1 110)))) (mz_gI s.2 235 ((48 * (s.1 / 110)) + (cf_433_0 (mz_irem s.1 110)))) (mz_gI s.2 233 s.1) s.2) ∧ (cp_427_206 s.1 (cf_434_0 (mz_gI s.2 235 ((48 * (s.1 / 110)) + (cf_432_0 (mz_irem s.1 110)))) (mz_gI s.2 235 ((48 * (s.1 / 110)) + (cf_433_0 (mz_irem s.1 110)))) (mz_gI s.2 233 s.1) s.2)))))) ∧ (¬ (0 < (mz_gI s.2 233 s.1)) → (cp_427_206 s.1 s.2))))))))) ∧ (¬ (s.1 < 550) → (cp_427_214 0 s.2))
noncomputable def cf_427_59 (v1 : Int32) (N : mz_N) : (mz_N) := mz_run (cq_427_59 ) (v1, N)
def cp_427_59 (v1 : Int32) (N : mz_N) : Prop := ∃ n, mz_ok (cq_427_59 ) (cd_427_59 ) n (v1, N)
noncomputable def cq_427_29  (s : Int32 × mz_N) : ((Int32 × mz_N) ⊕ (mz_N)) := if s.1 < (s.2.1 232 7) then (.inl ((s.1 + 1), mz_wI (mz_wI s.2 240 s.1 0) 241 s.1 0)) else (.inr (cf_427_59 0 s.2))
def cd_427_29  (s : Int32 × mz_N) : Prop := (s.1 < (s.2.1 232 7) → ((mz_ib s.1 240) ∧ (mz_ib s.1 240))) ∧ (¬ (s.1 < (s.2.1 232 7)) → (cp_427_59 0 s.2))
noncomputable def cf_427_29 (v1 : Int32) (N : mz_N) : (mz_N) := mz_run (cq_427_29 ) (v1, N)
def cp_427_29 (v1 : Int32) (N : mz_N) : Prop := ∃ n, mz_ok (cq_427_29 ) (cd_427_29 ) n (v1, N)
noncomputable def cq_427_7  (s : Int32 × mz_N) : ((Int32 × mz_N) ⊕ (mz_N)) := if s.1 < 6400 then (.inl ((s.1 + 1), mz_wI s.2 239 s.1 0)) else (.inr (cf_427_29 0 s.2))
def cd_427_7  (s : Int32 × mz_N) : Prop := (s.1 < 6400 → (mz_ib s.1 6400)) ∧ (¬ (s.1 < 6400) → (cp_427_29 0 s.2))
noncomputable def cf_427_7 (v1 : Int32) (N : mz_N) : (mz_N) := mz_run (cq_427_7 ) (v1, N)
def cp_427_7 (v1 : Int32) (N : mz_N) : Prop := ∃ n, mz_ok (cq_427_7 ) (cd_427_7 ) n (v1, N)
noncomputable def cf_427_0 (N : mz_N) : (mz_N) := (cf_427_7 0 (cf_428_0 0 N))
def cp_427_0 (N : mz_N) : Prop := (cp_428_0 0 N) ∧ (cp_427_7 0 (cf_428_0 0 N))
/-! 437 KeptHouseModel.firstTargets ()V -/
noncomputable def cf_437_36 (s1 : Int32) (s2 : Int32) (v1 : Int32) (N : mz_N) : ((Int32 × mz_N) ⊕ (mz_N)) := (.inl ((v1 + 1), mz_wI N 257 s1 s2))
def cp_437_36 (s1 : Int32) (s2 : Int32) (v1 : Int32) (N : mz_N) : Prop := mz_ib s1 16
noncomputable def cq_437_2  (s : Int32 × mz_N) : ((Int32 × mz_N) ⊕ (mz_N)) := if s.1 < 16 then (if s.1 < 10 then (cf_437_36 s.1 200 s.1 s.2) else (if s.1 = 14 then (cf_437_36 s.1 0 s.1 s.2) else (cf_437_36 s.1 1 s.1 s.2))) else (.inr s.2)
def cd_437_2  (s : Int32 × mz_N) : Prop := (s.1 < 16 → ((s.1 < 10 → (cp_437_36 s.1 200 s.1 s.2)) ∧ (¬ (s.1 < 10) → ((s.1 = 14 → (cp_437_36 s.1 0 s.1 s.2)) ∧ (¬ (s.1 = 14) → (cp_437_36 s.1 1 s.1 s.2)))))) ∧ (¬ (s.1 < 16) → True)
noncomputable def cf_437_2 (v1 : Int32) (N : mz_N) : (mz_N) := mz_run (cq_437_2 ) (v1, N)
def cp_437_2 (v1 : Int32) (N : mz_N) : Prop := ∃ n, mz_ok (cq_437_2 ) (cd_437_2 ) n (v1, N)
noncomputable def cf_437_0 (N : mz_N) : (mz_N) := (cf_437_2 0 N)
def cp_437_0 (N : mz_N) : Prop := cp_437_2 0 N
/-! 441 KeptHouseModel.isLetter (I)Z -/
noncomputable def cf_441_12 (v0 : Int32) : (Bool) := if v0 < 65 then false else (if 90 < v0 then false else true)
def cp_441_12 (v0 : Int32) : Prop := True
noncomputable def cf_441_0 (v0 : Int32) : (Bool) := if v0 < 97 then (cf_441_12 v0) else (if 122 < v0 then (cf_441_12 v0) else true)
def cp_441_0 (v0 : Int32) : Prop := (v0 < 97 → (cp_441_12 v0)) ∧ (¬ (v0 < 97) → ((122 < v0 → (cp_441_12 v0)) ∧ (¬ (122 < v0) → True)))
/-! 442 KeptHouseModel.isDigit (I)Z -/
noncomputable def cf_442_0 (v0 : Int32) : (Bool) := if v0 < 48 then false else (if 57 < v0 then false else true)
def cp_442_0 (v0 : Int32) : Prop := True
/-! 443 KeptHouseModel.blame (I)V -/
noncomputable def cf_443_0 (v1 : Int32) (N : mz_N) : (mz_N) := if (N.1 232 154) = 0 then (mz_pI (mz_pI N 232 154 v1) 232 35 ((mz_pI N 232 154 v1).1 232 150)) else N
def cp_443_0 (v1 : Int32) (N : mz_N) : Prop := True
/-! 444 KeptHouseModel.isSign (I)Z -/
noncomputable def cf_444_0 (v0 : Int32) : (Bool) := if v0 = 40 then true else (if v0 = 41 then true else (if v0 = 42 then true else (if v0 = 43 then true else (if v0 = 44 then false else (if v0 = 45 then true else (if v0 = 46 then false else (if v0 = 47 then false else (if v0 = 48 then false else (if v0 = 49 then false else (if v0 = 50 then false else (if v0 = 51 then false else (if v0 = 52 then false else (if v0 = 53 then false else (if v0 = 54 then false else (if v0 = 55 then false else (if v0 = 56 then false else (if v0 = 57 then false else (if v0 = 58 then true else (if v0 = 59 then true else (if v0 = 60 then true else (if v0 = 61 then true else (if v0 = 62 then true else (if v0 = 63 then true else false)))))))))))))))))))))))
def cp_444_0 (v0 : Int32) : Prop := True
/-! 440 KeptHouseModel.token ()V -/
noncomputable def cf_440_65 (N : mz_N) : (mz_N) := mz_pI N 232 149 0
def cp_440_65 (N : mz_N) : Prop := True
noncomputable def cf_440_237 (s1 : Int32) (N : mz_N) : ((mz_N) ⊕ (mz_N)) := (.inl (mz_pI (mz_pI N 232 153 s1) 232 151 (((mz_pI N 232 153 s1).1 232 151) + 1)))
def cp_440_237 (s1 : Int32) (N : mz_N) : Prop := True
noncomputable def cf_440_302 (N : mz_N) : (mz_N) := mz_pI N 232 148 (N.1 232 151)
def cp_440_302 (N : mz_N) : Prop := True
noncomputable def cf_440_253 (N : mz_N) : (mz_N) := if 6 < ((N.1 232 151) - (N.1 232 148)) then (cf_440_302 (cf_443_0 4 N)) else (cf_440_302 N)
def cp_440_253 (N : mz_N) : Prop := (6 < ((N.1 232 151) - (N.1 232 148)) → (cp_440_302 (cf_443_0 4 N))) ∧ (¬ (6 < ((N.1 232 151) - (N.1 232 148))) → (cp_440_302 N))
noncomputable def cq_440_169  (s : mz_N) : ((mz_N) ⊕ (mz_N)) := if (s.1 232 151) < (s.1 232 147) then (if (cf_442_0 (mz_gI s 338 (s.1 232 151))) = true then (if ((s.1 232 151) - (s.1 232 148)) < 6 then (cf_440_237 (((10 * (s.1 232 153)) + (mz_gI s 338 (s.1 232 151))) - 48) s) else (cf_440_237 (s.1 232 153) s)) else (.inr (cf_440_253 s))) else (.inr (cf_440_253 s))
def cd_440_169  (s : mz_N) : Prop := ((s.1 232 151) < (s.1 232 147) → ((mz_ib (s.1 232 151) 196) ∧ (((cf_442_0 (mz_gI s 338 (s.1 232 151))) = true → ((((s.1 232 151) - (s.1 232 148)) < 6 → ((mz_ib (s.1 232 151) 196) ∧ (cp_440_237 (((10 * (s.1 232 153)) + (mz_gI s 338 (s.1 232 151))) - 48) s))) ∧ (¬ (((s.1 232 151) - (s.1 232 148)) < 6) → (cp_440_237 (s.1 232 153) s)))) ∧ (¬ ((cf_442_0 (mz_gI s 338 (s.1 232 151))) = true) → (cp_440_253 s))))) ∧ (¬ ((s.1 232 151) < (s.1 232 147)) → (cp_440_253 s))
noncomputable def cf_440_169 (N : mz_N) : (mz_N) := mz_run (cq_440_169 ) (N)
def cp_440_169 (N : mz_N) : Prop := ∃ n, mz_ok (cq_440_169 ) (cd_440_169 ) n (N)
noncomputable def cf_440_139 (N : mz_N) : ((mz_N) ⊕ (mz_N)) := (.inl (mz_pI N 232 151 ((N.1 232 151) + 1)))
def cp_440_139 (N : mz_N) : Prop := True
noncomputable def cq_440_98  (s : mz_N) : ((mz_N) ⊕ (mz_N)) := if (s.1 232 151) < (s.1 232 147) then (if (cf_441_0 (mz_gI s 338 (s.1 232 151))) = true then (cf_440_139 s) else (if (cf_442_0 (mz_gI s 338 (s.1 232 151))) = true then (cf_440_139 s) else (.inr (cf_440_302 s)))) else (.inr (cf_440_302 s))
def cd_440_98  (s : mz_N) : Prop := ((s.1 232 151) < (s.1 232 147) → ((mz_ib (s.1 232 151) 196) ∧ ((cp_441_0 (mz_gI s 338 (s.1 232 151))) ∧ (((cf_441_0 (mz_gI s 338 (s.1 232 151))) = true → (cp_440_139 s)) ∧ (¬ ((cf_441_0 (mz_gI s 338 (s.1 232 151))) = true) → ((mz_ib (s.1 232 151) 196) ∧ (((cf_442_0 (mz_gI s 338 (s.1 232 151))) = true → (cp_440_139 s)) ∧ (¬ ((cf_442_0 (mz_gI s 338 (s.1 232 151))) = true) → (cp_440_302 s))))))))) ∧ (¬ ((s.1 232 151) < (s.1 232 147)) → (cp_440_302 s))
noncomputable def cf_440_98 (N : mz_N) : (mz_N) := mz_run (cq_440_98 ) (N)
def cp_440_98 (N : mz_N) : Prop := ∃ n, mz_ok (cq_440_98 ) (cd_440_98 ) n (N)
noncomputable def cf_440_297 (N : mz_N) : (mz_N) := (cf_440_302 (cf_443_0 1 N))
def cp_440_297 (N : mz_N) : Prop := cp_440_302 (cf_443_0 1 N)
noncomputable def cf_440_71 (N : mz_N) : (mz_N) := if (cf_441_0 (mz_gI N 338 (N.1 232 148))) = true then (cf_440_98 (mz_pI (mz_pI N 232 152 (mz_gI N 338 (N.1 232 148))) 232 149 1)) else (if (cf_442_0 (mz_gI N 338 (N.1 232 148))) = true then (cf_440_169 (mz_pI (mz_pI (mz_pI N 232 152 (mz_gI N 338 (N.1 232 148))) 232 149 2) 232 153 0)) else (if (cf_444_0 (mz_gI N 338 (N.1 232 148))) = true then (cf_440_302 (mz_pI (mz_pI (mz_pI N 232 152 (mz_gI N 338 (N.1 232 148))) 232 149 3) 232 151 (((mz_pI (mz_pI N 232 152 (mz_gI N 338 (N.1 232 148))) 232 149 3).1 232 151) + 1))) else (cf_440_297 (mz_pI (mz_pI (mz_pI N 232 152 (mz_gI N 338 (N.1 232 148))) 232 149 3) 232 151 (((mz_pI (mz_pI N 232 152 (mz_gI N 338 (N.1 232 148))) 232 149 3).1 232 151) + 1)))))
def cp_440_71 (N : mz_N) : Prop := (mz_ib (N.1 232 148) 196) ∧ ((cp_441_0 (mz_gI N 338 (N.1 232 148))) ∧ (((cf_441_0 (mz_gI N 338 (N.1 232 148))) = true → (cp_440_98 (mz_pI (mz_pI N 232 152 (mz_gI N 338 (N.1 232 148))) 232 149 1))) ∧ (¬ ((cf_441_0 (mz_gI N 338 (N.1 232 148))) = true) → (((cf_442_0 (mz_gI N 338 (N.1 232 148))) = true → (cp_440_169 (mz_pI (mz_pI (mz_pI N 232 152 (mz_gI N 338 (N.1 232 148))) 232 149 2) 232 153 0))) ∧ (¬ ((cf_442_0 (mz_gI N 338 (N.1 232 148))) = true) → (((cf_444_0 (mz_gI N 338 (N.1 232 148))) = true → (cp_440_302 (mz_pI (mz_pI (mz_pI N 232 152 (mz_gI N 338 (N.1 232 148))) 232 149 3) 232 151 (((mz_pI (mz_pI N 232 152 (mz_gI N 338 (N.1 232 148))) 232 149 3).1 232 151) + 1)))) ∧ (¬ ((cf_444_0 (mz_gI N 338 (N.1 232 148))) = true) → (cp_440_297 (mz_pI (mz_pI (mz_pI N 232 152 (mz_gI N 338 (N.1 232 148))) 232 149 3) 232 151 (((mz_pI (mz_pI N 232 152 (mz_gI N 338 (N.1 232 148))) 232 149 3).1 232 151) + 1))))))))))
noncomputable def cf_440_38 (N : mz_N) : (mz_N) := if ((mz_pI (mz_pI N 232 150 (N.1 232 148)) 232 151 ((mz_pI N 232 150 (N.1 232 148)).1 232 148)).1 232 148) = ((mz_pI (mz_pI N 232 150 (N.1 232 148)) 232 151 ((mz_pI N 232 150 (N.1 232 148)).1 232 148)).1 232 147) then (cf_440_65 (mz_pI (mz_pI N 232 150 (N.1 232 148)) 232 151 ((mz_pI N 232 150 (N.1 232 148)).1 232 148))) else (cf_440_71 (mz_pI (mz_pI N 232 150 (N.1 232 148)) 232 151 ((mz_pI N 232 150 (N.1 232 148)).1 232 148)))
def cp_440_38 (N : mz_N) : Prop := (((mz_pI (mz_pI N 232 150 (N.1 232 148)) 232 151 ((mz_pI N 232 150 (N.1 232 148)).1 232 148)).1 232 148) = ((mz_pI (mz_pI N 232 150 (N.1 232 148)) 232 151 ((mz_pI N 232 150 (N.1 232 148)).1 232 148)).1 232 147) → (cp_440_65 (mz_pI (mz_pI N 232 150 (N.1 232 148)) 232 151 ((mz_pI N 232 150 (N.1 232 148)).1 232 148)))) ∧ (¬ (((mz_pI (mz_pI N 232 150 (N.1 232 148)) 232 151 ((mz_pI N 232 150 (N.1 232 148)).1 232 148)).1 232 148) = ((mz_pI (mz_pI N 232 150 (N.1 232 148)) 232 151 ((mz_pI N 232 150 (N.1 232 148)).1 232 148)).1 232 147)) → (cp_440_71 (mz_pI (mz_pI N 232 150 (N.1 232 148)) 232 151 ((mz_pI N 232 150 (N.1 232 148)).1 232 148))))
noncomputable def cq_440_0  (s : mz_N) : ((mz_N) ⊕ (mz_N)) := if (s.1 232 148) < (s.1 232 147) then (if (mz_gI s 338 (s.1 232 148)) = 32 then (.inl (mz_pI s 232 148 ((s.1 232 148) + 1))) else (.inr (cf_440_38 s))) else (.inr (cf_440_38 s))
def cd_440_0  (s : mz_N) : Prop := ((s.1 232 148) < (s.1 232 147) → ((mz_ib (s.1 232 148) 196) ∧ (((mz_gI s 338 (s.1 232 148)) = 32 → True) ∧ (¬ ((mz_gI s 338 (s.1 232 148)) = 32) → (cp_440_38 s))))) ∧ (¬ ((s.1 232 148) < (s.1 232 147)) → (cp_440_38 s))
noncomputable def cf_440_0 (N : mz_N) : (mz_N) := mz_run (cq_440_0 ) (N)
def cp_440_0 (N : mz_N) : Prop := ∃ n, mz_ok (cq_440_0 ) (cd_440_0 ) n (N)
/-! 446 KeptHouseModel.nameOf ()I -/
noncomputable def cf_446_108 (v1 : Int32) (v2 : Int32) (N : mz_N) : (Int32) := if v2 = 1 then (if v1 = 98 then 11 else (if v1 = 99 then (-1) else (if v1 = 100 then (-1) else (if v1 = 101 then 51 else (if v1 = 102 then 46 else (if v1 = 103 then (-1) else (if v1 = 104 then 48 else (if v1 = 105 then (-1) else (if v1 = 106 then (-1) else (if v1 = 107 then 50 else (if v1 = 108 then 10 else (if v1 = 109 then 52 else (if v1 = 110 then (-1) else (if v1 = 111 then 47 else (if v1 = 112 then 12 else (if v1 = 113 then (-1) else (if v1 = 114 then 14 else (if v1 = 115 then (-1) else (if v1 = 116 then 49 else (if v1 = 117 then (-1) else (if v1 = 118 then 13 else (if v1 = 119 then (-1) else (if v1 = 120 then 15 else (-1)))))))))))))))))))))))) else (-1)
def cp_446_108 (v1 : Int32) (v2 : Int32) (N : mz_N) : Prop := True
noncomputable def cf_446_0 (N : mz_N) : (Int32) := if ((N.1 232 151) - (N.1 232 150)) = 2 then (if (cf_442_0 (mz_gI N 338 ((N.1 232 150) + 1))) = true then (if (mz_gI N 338 (N.1 232 150)) = 115 then ((mz_gI N 338 ((N.1 232 150) + 1)) - 48) else (if (mz_gI N 338 (N.1 232 150)) = 119 then (16 + ((mz_gI N 338 ((N.1 232 150) + 1)) - 48)) else (if (mz_gI N 338 (N.1 232 150)) = 99 then (26 + ((mz_gI N 338 ((N.1 232 150) + 1)) - 48)) else (if (mz_gI N 338 (N.1 232 150)) = 100 then (36 + ((mz_gI N 338 ((N.1 232 150) + 1)) - 48)) else (-1))))) else (cf_446_108 (mz_gI N 338 (N.1 232 150)) ((N.1 232 151) - (N.1 232 150)) N)) else (cf_446_108 (mz_gI N 338 (N.1 232 150)) ((N.1 232 151) - (N.1 232 150)) N)
def cp_446_0 (N : mz_N) : Prop := (mz_ib (N.1 232 150) 196) ∧ ((((N.1 232 151) - (N.1 232 150)) = 2 → ((mz_ib ((N.1 232 150) + 1) 196) ∧ (((cf_442_0 (mz_gI N 338 ((N.1 232 150) + 1))) = true → (mz_ib ((N.1 232 150) + 1) 196)) ∧ (¬ ((cf_442_0 (mz_gI N 338 ((N.1 232 150) + 1))) = true) → (cp_446_108 (mz_gI N 338 (N.1 232 150)) ((N.1 232 151) - (N.1 232 150)) N))))) ∧ (¬ (((N.1 232 151) - (N.1 232 150)) = 2) → (cp_446_108 (mz_gI N 338 (N.1 232 150)) ((N.1 232 151) - (N.1 232 150)) N)))
/-! 449 KeptHouseModel.put (II)V -/
noncomputable def cf_449_20 (N : mz_N) : (mz_N) := mz_pI N 232 31 ((N.1 232 31) + 1)
def cp_449_20 (N : mz_N) : Prop := True
noncomputable def cf_449_0 (v1 : Int32) (v2 : Int32) (N : mz_N) : (mz_N) := (cf_449_20 (mz_wI (mz_wI N 253 (N.1 232 31) v1) 254 ((mz_wI N 253 (N.1 232 31) v1).1 232 31) v2))
def cp_449_0 (v1 : Int32) (v2 : Int32) (N : mz_N) : Prop := (mz_ib (N.1 232 31) 400) ∧ ((mz_ib ((mz_wI N 253 (N.1 232 31) v1).1 232 31) 400) ∧ (cp_449_20 (mz_wI (mz_wI N 253 (N.1 232 31) v1) 254 ((mz_wI N 253 (N.1 232 31) v1).1 232 31) v2)))
/-! 451 KeptHouseModel.top ()I -/
noncomputable def cf_451_0 (N : mz_N) : (Int32) := if (N.1 232 156) = 0 then 0 else (mz_gI N 339 ((N.1 232 156) - 1))
def cp_451_0 (N : mz_N) : Prop := ((N.1 232 156) = 0 → True) ∧ (¬ ((N.1 232 156) = 0) → (mz_ib ((N.1 232 156) - 1) 400))
/-! 453 KeptHouseModel.isNest (I)Z -/
noncomputable def cf_453_0 (v0 : Int32) : (Bool) := if 3 < v0 then (if v0 = 40 then true else false) else true
def cp_453_0 (v0 : Int32) : Prop := True
/-! 452 KeptHouseModel.drop ()V -/
noncomputable def cf_452_35 (s1 : Int32) (s2 : Bool) (N : mz_N) : (mz_N) := mz_pI N 232 157 (s1 - (mz_b01 s2))
def cp_452_35 (s1 : Int32) (s2 : Bool) (N : mz_N) : Prop := True
noncomputable def cf_452_0 (N : mz_N) : (mz_N) := if (cf_453_0 (mz_gI (mz_pI N 232 156 ((N.1 232 156) - 1)) 339 ((mz_pI N 232 156 ((N.1 232 156) - 1)).1 232 156))) = true then (cf_452_35 ((mz_pI N 232 156 ((N.1 232 156) - 1)).1 232 157) true (mz_pI N 232 156 ((N.1 232 156) - 1))) else (cf_452_35 ((mz_pI N 232 156 ((N.1 232 156) - 1)).1 232 157) false (mz_pI N 232 156 ((N.1 232 156) - 1)))
def cp_452_0 (N : mz_N) : Prop := (mz_ib ((mz_pI N 232 156 ((N.1 232 156) - 1)).1 232 156) 400) ∧ (((cf_453_0 (mz_gI (mz_pI N 232 156 ((N.1 232 156) - 1)) 339 ((mz_pI N 232 156 ((N.1 232 156) - 1)).1 232 156))) = true → (cp_452_35 ((mz_pI N 232 156 ((N.1 232 156) - 1)).1 232 157) true (mz_pI N 232 156 ((N.1 232 156) - 1)))) ∧ (¬ ((cf_453_0 (mz_gI (mz_pI N 232 156 ((N.1 232 156) - 1)) 339 ((mz_pI N 232 156 ((N.1 232 156) - 1)).1 232 156))) = true) → (cp_452_35 ((mz_pI N 232 156 ((N.1 232 156) - 1)).1 232 157) false (mz_pI N 232 156 ((N.1 232 156) - 1)))))
/-! 450 KeptHouseModel.turnedBack ()V -/
noncomputable def cq_450_0  (s : mz_N) : ((mz_N) ⊕ (mz_N)) := if 0 < (s.1 232 156) then (if (cf_451_0 s) = 1 then (.inl ((cf_452_0 (cf_449_0 2 0 s)))) else (.inr s)) else (.inr s)
def cd_450_0  (s : mz_N) : Prop := (0 < (s.1 232 156) → ((cp_451_0 s) ∧ (((cf_451_0 s) = 1 → ((cp_449_0 2 0 s) ∧ (cp_452_0 (cf_449_0 2 0 s)))) ∧ (¬ ((cf_451_0 s) = 1) → True)))) ∧ (¬ (0 < (s.1 232 156)) → True)
noncomputable def cf_450_0 (N : mz_N) : (mz_N) := mz_run (cq_450_0 ) (N)
def cp_450_0 (N : mz_N) : Prop := ∃ n, mz_ok (cq_450_0 ) (cd_450_0 ) n (N)
/-! 454 KeptHouseModel.hold (I)V -/
noncomputable def cf_454_37 (s1 : Int32) (s2 : Bool) (N : mz_N) : (mz_N) := mz_pI N 232 157 (s1 + (mz_b01 s2))
def cp_454_37 (s1 : Int32) (s2 : Bool) (N : mz_N) : Prop := True
noncomputable def cf_454_20 (v1 : Int32) (N : mz_N) : (mz_N) := if (cf_453_0 v1) = true then (cf_454_37 (N.1 232 157) true N) else (cf_454_37 (N.1 232 157) false N)
def cp_454_20 (v1 : Int32) (N : mz_N) : Prop := ((cf_453_0 v1) = true → (cp_454_37 (N.1 232 157) true N)) ∧ (¬ ((cf_453_0 v1) = true) → (cp_454_37 (N.1 232 157) false N))
noncomputable def cf_454_0 (v1 : Int32) (N : mz_N) : (mz_N) := (cf_454_20 v1 (mz_pI (mz_wI N 339 (N.1 232 156) v1) 232 156 (((mz_wI N 339 (N.1 232 156) v1).1 232 156) + 1)))
def cp_454_0 (v1 : Int32) (N : mz_N) : Prop := (mz_ib (N.1 232 156) 400) ∧ (cp_454_20 v1 (mz_pI (mz_wI N 339 (N.1 232 156) v1) 232 156 (((mz_wI N 339 (N.1 232 156) v1).1 232 156) + 1)))
/-! 448 KeptHouseModel.factor ()Z -/
noncomputable def cf_448_124 (s1 : Int32) (N : mz_N) : (Bool × mz_N) := (false, (cf_454_0 s1 N))
def cp_448_124 (s1 : Int32) (N : mz_N) : Prop := cp_454_0 s1 N
noncomputable def cf_448_91 (N : mz_N) : (Bool × mz_N) := if (N.1 232 157) < 10 then (if (N.1 232 152) = 45 then (cf_448_124 1 N) else (cf_448_124 40 N)) else (false, (cf_443_0 5 N))
def cp_448_91 (N : mz_N) : Prop := ((N.1 232 157) < 10 → (((N.1 232 152) = 45 → (cp_448_124 1 N)) ∧ (¬ ((N.1 232 152) = 45) → (cp_448_124 40 N)))) ∧ (¬ ((N.1 232 157) < 10) → True)
noncomputable def cf_448_83 (N : mz_N) : (Bool × mz_N) := (false, (cf_443_0 2 N))
def cp_448_83 (N : mz_N) : Prop := True
noncomputable def cf_448_45 (v1 : Int32) (N : mz_N) : (Bool × mz_N) := (true, (cf_450_0 (cf_449_0 1 v1 N)))
def cp_448_45 (v1 : Int32) (N : mz_N) : Prop := (cp_449_0 1 v1 N) ∧ (cp_450_0 (cf_449_0 1 v1 N))
noncomputable def cf_448_0 (N : mz_N) : (Bool × mz_N) := if (N.1 232 149) = 2 then (true, (cf_450_0 (cf_449_0 0 (N.1 232 153) N))) else (if (N.1 232 149) = 1 then (if (cf_446_0 N) < 0 then (cf_448_45 (cf_446_0 N) (cf_443_0 3 N)) else (cf_448_45 (cf_446_0 N) N)) else (if (N.1 232 149) = 3 then (if (N.1 232 152) = 45 then (cf_448_91 N) else (if (N.1 232 152) = 40 then (cf_448_91 N) else (cf_448_83 N))) else (cf_448_83 N)))
def cp_448_0 (N : mz_N) : Prop := ((N.1 232 149) = 2 → ((cp_449_0 0 (N.1 232 153) N) ∧ (cp_450_0 (cf_449_0 0 (N.1 232 153) N)))) ∧ (¬ ((N.1 232 149) = 2) → (((N.1 232 149) = 1 → ((cp_446_0 N) ∧ (((cf_446_0 N) < 0 → (cp_448_45 (cf_446_0 N) (cf_443_0 3 N))) ∧ (¬ ((cf_446_0 N) < 0) → (cp_448_45 (cf_446_0 N) N))))) ∧ (¬ ((N.1 232 149) = 1) → (((N.1 232 149) = 3 → (((N.1 232 152) = 45 → (cp_448_91 N)) ∧ (¬ ((N.1 232 152) = 45) → (((N.1 232 152) = 40 → (cp_448_91 N)) ∧ (¬ ((N.1 232 152) = 40) → (cp_448_83 N)))))) ∧ (¬ ((N.1 232 149) = 3) → (cp_448_83 N))))))
/-! 456 KeptHouseModel.strength (I)I -/
noncomputable def cf_456_0 (v0 : Int32) : (Int32) := if v0 = 42 then 3 else (if v0 = 43 then 2 else (if v0 = 45 then 2 else (if v0 = 60 then 1 else (if v0 = 62 then 1 else 0))))
def cp_456_0 (v0 : Int32) : Prop := True
/-! 457 KeptHouseModel.settleTo (I)V -/
noncomputable def cq_457_0 (v1 : Int32) (s : mz_N) : ((mz_N) ⊕ (mz_N)) := if 0 < (s.1 232 156) then (if (cf_456_0 (cf_451_0 s)) < v1 then (.inr s) else (.inl ((cf_452_0 (cf_449_0 (cf_451_0 s) 0 s))))) else (.inr s)
def cd_457_0 (v1 : Int32) (s : mz_N) : Prop := (0 < (s.1 232 156) → ((cp_451_0 s) ∧ (((cf_456_0 (cf_451_0 s)) < v1 → True) ∧ (¬ ((cf_456_0 (cf_451_0 s)) < v1) → ((cp_451_0 s) ∧ ((cp_449_0 (cf_451_0 s) 0 s) ∧ (cp_452_0 (cf_449_0 (cf_451_0 s) 0 s)))))))) ∧ (¬ (0 < (s.1 232 156)) → True)
noncomputable def cf_457_0 (v1 : Int32) (N : mz_N) : (mz_N) := mz_run (cq_457_0 v1) (N)
def cp_457_0 (v1 : Int32) (N : mz_N) : Prop := ∃ n, mz_ok (cq_457_0 v1) (cd_457_0 v1) n (N)
/-! 458 KeptHouseModel.settleAll ()V -/
noncomputable def cq_458_5  (s : mz_N) : ((mz_N) ⊕ (mz_N)) := if (cf_451_0 s) = 3 then (if 0 < (s.1 232 156) then (.inl ((cf_457_0 1 (cf_452_0 (cf_449_0 3 0 s))))) else (.inr s)) else (.inr s)
def cd_458_5  (s : mz_N) : Prop := (cp_451_0 s) ∧ (((cf_451_0 s) = 3 → ((0 < (s.1 232 156) → ((cp_449_0 3 0 s) ∧ ((cp_452_0 (cf_449_0 3 0 s)) ∧ (cp_457_0 1 (cf_452_0 (cf_449_0 3 0 s)))))) ∧ (¬ (0 < (s.1 232 156)) → True))) ∧ (¬ ((cf_451_0 s) = 3) → True))
noncomputable def cf_458_5 (N : mz_N) : (mz_N) := mz_run (cq_458_5 ) (N)
def cp_458_5 (N : mz_N) : Prop := ∃ n, mz_ok (cq_458_5 ) (cd_458_5 ) n (N)
noncomputable def cf_458_0 (N : mz_N) : (mz_N) := (cf_458_5 (cf_457_0 1 N))
def cp_458_0 (N : mz_N) : Prop := (cp_457_0 1 N) ∧ (cp_458_5 (cf_457_0 1 N))
/-! 455 KeptHouseModel.behind ()Z -/
noncomputable def cf_455_41 (N : mz_N) : (Bool × mz_N) := (true, N)
def cp_455_41 (N : mz_N) : Prop := True
noncomputable def cf_455_107 (N : mz_N) : (Bool × mz_N) := (true, (cf_454_0 2 N))
def cp_455_107 (N : mz_N) : Prop := cp_454_0 2 N
noncomputable def cf_455_200 (N : mz_N) : (Bool × mz_N) := (false, (cf_443_0 2 N))
def cp_455_200 (N : mz_N) : Prop := True
noncomputable def cf_455_184 (N : mz_N) : (Bool × mz_N) := if (N.1 232 152) = 59 then (if 0 < (N.1 232 156) then (cf_455_200 N) else (false, N)) else (cf_455_200 N)
def cp_455_184 (N : mz_N) : Prop := ((N.1 232 152) = 59 → ((0 < (N.1 232 156) → (cp_455_200 N)) ∧ (¬ (0 < (N.1 232 156)) → True))) ∧ (¬ ((N.1 232 152) = 59) → (cp_455_200 N))
noncomputable def cf_455_156 (N : mz_N) : (Bool × mz_N) := if (N.1 232 152) = 41 then (if (cf_451_0 N) = 40 then (false, (cf_450_0 (cf_452_0 N))) else (cf_455_184 N)) else (cf_455_184 N)
def cp_455_156 (N : mz_N) : Prop := ((N.1 232 152) = 41 → ((cp_451_0 N) ∧ (((cf_451_0 N) = 40 → ((cp_452_0 N) ∧ (cp_450_0 (cf_452_0 N)))) ∧ (¬ ((cf_451_0 N) = 40) → (cp_455_184 N))))) ∧ (¬ ((N.1 232 152) = 41) → (cp_455_184 N))
noncomputable def cf_455_69 (N : mz_N) : (Bool × mz_N) := (true, (cf_454_0 (N.1 232 152) N))
def cp_455_69 (N : mz_N) : Prop := cp_454_0 (N.1 232 152) N
noncomputable def cf_455_0 (N : mz_N) : (Bool × mz_N) := if (N.1 232 149) = 3 then (if 1 < (cf_456_0 (N.1 232 152)) then (cf_455_41 (cf_454_0 ((cf_457_0 (cf_456_0 (N.1 232 152)) N).1 232 152) (cf_457_0 (cf_456_0 (N.1 232 152)) N))) else (if (cf_456_0 (N.1 232 152)) = 1 then (if (cf_456_0 (cf_451_0 (cf_457_0 2 N))) = 1 then (cf_455_69 (cf_443_0 2 (cf_457_0 2 N))) else (cf_455_69 (cf_457_0 2 N))) else (if (N.1 232 152) = 63 then (if ((cf_457_0 1 N).1 232 157) < 10 then (cf_455_107 (cf_457_0 1 N)) else (cf_455_107 (cf_443_0 5 (cf_457_0 1 N)))) else (if ((cf_458_0 N).1 232 152) = 58 then (if (cf_451_0 (cf_458_0 N)) = 2 then (if 0 < ((cf_458_0 N).1 232 156) then (true, mz_wI (cf_458_0 N) 339 (((cf_458_0 N).1 232 156) - 1) 3) else (cf_455_156 (cf_458_0 N))) else (cf_455_156 (cf_458_0 N))) else (cf_455_156 (cf_458_0 N)))))) else (false, (cf_443_0 2 N))
def cp_455_0 (N : mz_N) : Prop := ((N.1 232 149) = 3 → ((1 < (cf_456_0 (N.1 232 152)) → ((cp_457_0 (cf_456_0 (N.1 232 152)) N) ∧ ((cp_454_0 ((cf_457_0 (cf_456_0 (N.1 232 152)) N).1 232 152) (cf_457_0 (cf_456_0 (N.1 232 152)) N)) ∧ (cp_455_41 (cf_454_0 ((cf_457_0 (cf_456_0 (N.1 232 152)) N).1 232 152) (cf_457_0 (cf_456_0 (N.1 232 152)) N)))))) ∧ (¬ (1 < (cf_456_0 (N.1 232 152))) → (((cf_456_0 (N.1 232 152)) = 1 → ((cp_457_0 2 N) ∧ ((cp_451_0 (cf_457_0 2 N)) ∧ (((cf_456_0 (cf_451_0 (cf_457_0 2 N))) = 1 → (cp_455_69 (cf_443_0 2 (cf_457_0 2 N)))) ∧ (¬ ((cf_456_0 (cf_451_0 (cf_457_0 2 N))) = 1) → (cp_455_69 (cf_457_0 2 N))))))) ∧ (¬ ((cf_456_0 (N.1 232 152)) = 1) → (((N.1 232 152) = 63 → ((cp_457_0 1 N) ∧ ((((cf_457_0 1 N).1 232 157) < 10 → (cp_455_107 (cf_457_0 1 N))) ∧ (¬ (((cf_457_0 1 N).1 232 157) < 10) → (cp_455_107 (cf_443_0 5 (cf_457_0 1 N))))))) ∧ (¬ ((N.1 232 152) = 63) → ((cp_458_0 N) ∧ ((((cf_458_0 N).1 232 152) = 58 → ((cp_451_0 (cf_458_0 N)) ∧ (((cf_451_0 (cf_458_0 N)) = 2 → ((0 < ((cf_458_0 N).1 232 156) → (mz_ib (((cf_458_0 N).1 232 156) - 1) 400)) ∧ (¬ (0 < ((cf_458_0 N).1 232 156)) → (cp_455_156 (cf_458_0 N))))) ∧ (¬ ((cf_451_0 (cf_458_0 N)) = 2) → (cp_455_156 (cf_458_0 N)))))) ∧ (¬ (((cf_458_0 N).1 232 152) = 58) → (cp_455_156 (cf_458_0 N)))))))))))) ∧ (¬ ((N.1 232 149) = 3) → True)
/-! 447 KeptHouseModel.expression ()V -/
noncomputable def cf_447_94 (s0 : Bool) (v1 : Bool) (N : mz_N) : ((Bool × Bool × mz_N) ⊕ (mz_N)) := (.inl (v1, s0, N))
def cp_447_94 (s0 : Bool) (v1 : Bool) (N : mz_N) : Prop := True
noncomputable def cf_447_89 (v1 : Bool) (N : mz_N) : ((Bool × Bool × mz_N) ⊕ (mz_N)) := (cf_447_94 true v1 N)
def cp_447_89 (v1 : Bool) (N : mz_N) : Prop := cp_447_94 true v1 N
noncomputable def cf_447_56 (v1 : Bool) (v2 : Bool) (N : mz_N) : ((Bool × Bool × mz_N) ⊕ (mz_N)) := if (N.1 232 154) = 0 then (if ((cf_455_0 N).1) = true then (cf_447_89 ((cf_455_0 N).1) ((cf_455_0 N).2)) else (if (((cf_455_0 N).2).1 232 152) = 59 then (if (((cf_455_0 N).2).1 232 149) = 3 then (cf_447_94 false ((cf_455_0 N).1) ((cf_455_0 N).2)) else (cf_447_89 ((cf_455_0 N).1) ((cf_455_0 N).2))) else (cf_447_89 ((cf_455_0 N).1) ((cf_455_0 N).2)))) else (.inl (v1, v2, N))
def cp_447_56 (v1 : Bool) (v2 : Bool) (N : mz_N) : Prop := ((N.1 232 154) = 0 → ((cp_455_0 N) ∧ ((((cf_455_0 N).1) = true → (cp_447_89 ((cf_455_0 N).1) ((cf_455_0 N).2))) ∧ (¬ (((cf_455_0 N).1) = true) → (((((cf_455_0 N).2).1 232 152) = 59 → (((((cf_455_0 N).2).1 232 149) = 3 → (cp_447_94 false ((cf_455_0 N).1) ((cf_455_0 N).2))) ∧ (¬ ((((cf_455_0 N).2).1 232 149) = 3) → (cp_447_89 ((cf_455_0 N).1) ((cf_455_0 N).2))))) ∧ (¬ ((((cf_455_0 N).2).1 232 152) = 59) → (cp_447_89 ((cf_455_0 N).1) ((cf_455_0 N).2)))))))) ∧ (¬ ((N.1 232 154) = 0) → True)
noncomputable def cf_447_52 (s0 : Bool) (v2 : Bool) (N : mz_N) : ((Bool × Bool × mz_N) ⊕ (mz_N)) := (.inl (s0, v2, N))
def cp_447_52 (s0 : Bool) (v2 : Bool) (N : mz_N) : Prop := True
noncomputable def cq_447_14  (s : Bool × Bool × mz_N) : ((Bool × Bool × mz_N) ⊕ (mz_N)) := if s.2.1 = true then (if (s.2.2.1 232 154) = 0 then (if ((cf_440_0 s.2.2).1 232 154) = 0 then (if s.1 = true then (if ((cf_448_0 (cf_440_0 s.2.2)).1) = true then (cf_447_52 false s.2.1 ((cf_448_0 (cf_440_0 s.2.2)).2)) else (cf_447_52 true s.2.1 ((cf_448_0 (cf_440_0 s.2.2)).2))) else (cf_447_56 s.1 s.2.1 (cf_440_0 s.2.2))) else (cf_447_56 s.1 s.2.1 (cf_440_0 s.2.2))) else (.inr s.2.2)) else (.inr s.2.2)
def cd_447_14  (s : Bool × Bool × mz_N) : Prop := (s.2.1 = true → (((s.2.2.1 232 154) = 0 → ((cp_440_0 s.2.2) ∧ ((((cf_440_0 s.2.2).1 232 154) = 0 → ((s.1 = true → ((cp_448_0 (cf_440_0 s.2.2)) ∧ ((((cf_448_0 (cf_440_0 s.2.2)).1) = true → (cp_447_52 false s.2.1 ((cf_448_0 (cf_440_0 s.2.2)).2))) ∧ (¬ (((cf_448_0 (cf_440_0 s.2.2)).1) = true) → (cp_447_52 true s.2.1 ((cf_448_0 (cf_440_0 s.2.2)).2)))))) ∧ (¬ (s.1 = true) → (cp_447_56 s.1 s.2.1 (cf_440_0 s.2.2))))) ∧ (¬ (((cf_440_0 s.2.2).1 232 154) = 0) → (cp_447_56 s.1 s.2.1 (cf_440_0 s.2.2)))))) ∧ (¬ ((s.2.2.1 232 154) = 0) → True))) ∧ (¬ (s.2.1 = true) → True)
noncomputable def cf_447_14 (v1 : Bool) (v2 : Bool) (N : mz_N) : (mz_N) := mz_run (cq_447_14 ) (v1, v2, N)
def cp_447_14 (v1 : Bool) (v2 : Bool) (N : mz_N) : Prop := ∃ n, mz_ok (cq_447_14 ) (cd_447_14 ) n (v1, v2, N)
noncomputable def cf_447_0 (N : mz_N) : (mz_N) := (cf_447_14 true true (mz_pI (mz_pI N 232 156 0) 232 157 0))
def cp_447_0 (N : mz_N) : Prop := cp_447_14 true true (mz_pI (mz_pI N 232 156 0) 232 157 0)
/-! 445 KeptHouseModel.statement ()V -/
noncomputable def cf_445_135 (s1 : Int32) (s2 : Bool) (N : mz_N) : (mz_N) := mz_pI N 232 28 (s1 + (mz_b01 s2))
def cp_445_135 (s1 : Int32) (s2 : Bool) (N : mz_N) : Prop := True
noncomputable def cf_445_118 (N : mz_N) : (mz_N) := if (N.1 232 154) = 0 then (cf_445_135 (N.1 232 28) true N) else (cf_445_135 (N.1 232 28) false N)
def cp_445_118 (N : mz_N) : Prop := ((N.1 232 154) = 0 → (cp_445_135 (N.1 232 28) true N)) ∧ (¬ ((N.1 232 154) = 0) → (cp_445_135 (N.1 232 28) false N))
noncomputable def cf_445_95 (v1 : Int32) (N : mz_N) : (mz_N) := (cf_445_118 (mz_wI (mz_wI N 256 (N.1 232 28) v1) 255 ((mz_wI N 256 (N.1 232 28) v1).1 232 28) ((mz_wI N 256 (N.1 232 28) v1).1 232 31)))
def cp_445_95 (v1 : Int32) (N : mz_N) : Prop := (mz_ib (N.1 232 28) 13) ∧ ((mz_ib ((mz_wI N 256 (N.1 232 28) v1).1 232 28) 13) ∧ (cp_445_118 (mz_wI (mz_wI N 256 (N.1 232 28) v1) 255 ((mz_wI N 256 (N.1 232 28) v1).1 232 28) ((mz_wI N 256 (N.1 232 28) v1).1 232 31))))
noncomputable def cf_445_84 (v1 : Int32) (N : mz_N) : (mz_N) := if (N.1 232 154) = 0 then (cf_445_95 v1 (cf_447_0 N)) else (cf_445_95 v1 N)
def cp_445_84 (v1 : Int32) (N : mz_N) : Prop := ((N.1 232 154) = 0 → ((cp_447_0 N) ∧ (cp_445_95 v1 (cf_447_0 N)))) ∧ (¬ ((N.1 232 154) = 0) → (cp_445_95 v1 N))
noncomputable def cf_445_45 (N : mz_N) : (mz_N) := (cf_443_0 3 N)
def cp_445_45 (N : mz_N) : Prop := True
noncomputable def cf_445_79 (v1 : Int32) (N : mz_N) : (mz_N) := (cf_445_84 v1 (cf_443_0 2 N))
def cp_445_79 (v1 : Int32) (N : mz_N) : Prop := cp_445_84 v1 (cf_443_0 2 N)
noncomputable def cf_445_0 (N : mz_N) : (mz_N) := if (N.1 232 28) = 12 then (cf_443_0 6 N) else (if (N.1 232 149) = 1 then (if (cf_446_0 N) < 0 then (cf_445_45 N) else (if 15 < (cf_446_0 N) then (cf_445_45 N) else (if ((cf_440_0 N).1 232 154) = 0 then (if ((cf_440_0 N).1 232 149) = 3 then (if ((cf_440_0 N).1 232 152) = 61 then (cf_445_84 (cf_446_0 N) (cf_440_0 N)) else (cf_445_79 (cf_446_0 N) (cf_440_0 N))) else (cf_445_79 (cf_446_0 N) (cf_440_0 N))) else (cf_445_84 (cf_446_0 N) (cf_440_0 N))))) else (cf_443_0 2 N))
def cp_445_0 (N : mz_N) : Prop := ((N.1 232 28) = 12 → True) ∧ (¬ ((N.1 232 28) = 12) → (((N.1 232 149) = 1 → ((cp_446_0 N) ∧ (((cf_446_0 N) < 0 → (cp_445_45 N)) ∧ (¬ ((cf_446_0 N) < 0) → ((15 < (cf_446_0 N) → (cp_445_45 N)) ∧ (¬ (15 < (cf_446_0 N)) → ((cp_440_0 N) ∧ ((((cf_440_0 N).1 232 154) = 0 → ((((cf_440_0 N).1 232 149) = 3 → ((((cf_440_0 N).1 232 152) = 61 → (cp_445_84 (cf_446_0 N) (cf_440_0 N))) ∧ (¬ (((cf_440_0 N).1 232 152) = 61) → (cp_445_79 (cf_446_0 N) (cf_440_0 N))))) ∧ (¬ (((cf_440_0 N).1 232 149) = 3) → (cp_445_79 (cf_446_0 N) (cf_440_0 N))))) ∧ (¬ (((cf_440_0 N).1 232 154) = 0) → (cp_445_84 (cf_446_0 N) (cf_440_0 N))))))))))) ∧ (¬ ((N.1 232 149) = 1) → True)))
/-! 439 KeptHouseModel.parse ()I -/
noncomputable def cf_439_56 (v1 : Bool) (N : mz_N) : ((Bool × mz_N) ⊕ (Int32 × mz_N)) := if (N.1 232 154) = 0 then (.inl (v1, (cf_445_0 N))) else (.inl (v1, N))
def cp_439_56 (v1 : Bool) (N : mz_N) : Prop := ((N.1 232 154) = 0 → (cp_445_0 N)) ∧ (¬ ((N.1 232 154) = 0) → True)
noncomputable def cq_439_22  (s : Bool × mz_N) : ((Bool × mz_N) ⊕ (Int32 × mz_N)) := if s.1 = true then (if (s.2.1 232 154) = 0 then (if ((cf_440_0 s.2).1 232 154) = 0 then (if ((cf_440_0 s.2).1 232 149) = 0 then (.inl (false, (cf_440_0 s.2))) else (cf_439_56 s.1 (cf_440_0 s.2))) else (cf_439_56 s.1 (cf_440_0 s.2))) else (.inr ((s.2.1 232 154), s.2))) else (.inr ((s.2.1 232 154), s.2))
def cd_439_22  (s : Bool × mz_N) : Prop := (s.1 = true → (((s.2.1 232 154) = 0 → ((cp_440_0 s.2) ∧ ((((cf_440_0 s.2).1 232 154) = 0 → ((((cf_440_0 s.2).1 232 149) = 0 → True) ∧ (¬ (((cf_440_0 s.2).1 232 149) = 0) → (cp_439_56 s.1 (cf_440_0 s.2))))) ∧ (¬ (((cf_440_0 s.2).1 232 154) = 0) → (cp_439_56 s.1 (cf_440_0 s.2)))))) ∧ (¬ ((s.2.1 232 154) = 0) → True))) ∧ (¬ (s.1 = true) → True)
noncomputable def cf_439_22 (v1 : Bool) (N : mz_N) : (Int32 × mz_N) := mz_run (cq_439_22 ) (v1, N)
def cp_439_22 (v1 : Bool) (N : mz_N) : Prop := ∃ n, mz_ok (cq_439_22 ) (cd_439_22 ) n (v1, N)
noncomputable def cf_439_0 (N : mz_N) : (Int32 × mz_N) := (cf_439_22 true (mz_pI (mz_pI (mz_pI (mz_pI N 232 148 0) 232 154 0) 232 28 0) 232 31 0))
def cp_439_0 (N : mz_N) : Prop := cp_439_22 true (mz_pI (mz_pI (mz_pI (mz_pI N 232 148 0) 232 154 0) 232 28 0) 232 31 0)
/-! 438 KeptHouseModel.readProgram ()V -/
noncomputable def cq_438_10  (s : Int32 × mz_N) : ((Int32 × mz_N) ⊕ (mz_N)) := if s.1 < (s.2.1 232 27) then (.inl ((s.1 + 1), mz_wI s.2 338 s.1 (mz_gI s.2 252 s.1))) else (.inr ((cf_439_0 s.2).2))
def cd_438_10  (s : Int32 × mz_N) : Prop := (s.1 < (s.2.1 232 27) → ((mz_ib s.1 196) ∧ (mz_ib s.1 196))) ∧ (¬ (s.1 < (s.2.1 232 27)) → (cp_439_0 s.2))
noncomputable def cf_438_10 (v1 : Int32) (N : mz_N) : (mz_N) := mz_run (cq_438_10 ) (v1, N)
def cp_438_10 (v1 : Int32) (N : mz_N) : Prop := ∃ n, mz_ok (cq_438_10 ) (cd_438_10 ) n (v1, N)
noncomputable def cf_438_0 (N : mz_N) : (mz_N) := (cf_438_10 0 (mz_pI N 232 147 (N.1 232 27)))
def cp_438_0 (N : mz_N) : Prop := cp_438_10 0 (mz_pI N 232 147 (N.1 232 27))
/-! 414 KeptHouseModel.beginAnew ()V -/
noncomputable def cf_414_53 (v1 : Int32) (N : mz_N) : ((Int32 × mz_N) ⊕ (mz_N)) := (.inl ((v1 + 1), N))
def cp_414_53 (v1 : Int32) (N : mz_N) : Prop := True
noncomputable def cf_414_143 (s1 : Int64) (v1 : Int32) (N : mz_N) : ((Int32 × mz_N) ⊕ (mz_N)) := (.inl ((v1 + 1), mz_pL N 232 87 s1))
def cp_414_143 (s1 : Int64) (v1 : Int32) (N : mz_N) : Prop := True
noncomputable def cf_414_139 (v1 : Int32) (N : mz_N) : ((Int32 × mz_N) ⊕ (mz_N)) := (cf_414_143 (N.2 232 87) v1 N)
def cp_414_139 (v1 : Int32) (N : mz_N) : Prop := cp_414_143 (N.2 232 87) v1 N
noncomputable def cq_414_98  (s : Int32 × mz_N) : ((Int32 × mz_N) ⊕ (mz_N)) := if s.1 < 16 then (if (mz_gZ s.2 287 s.1) = true then (if (mz_gL s.2 292 s.1) < (s.2.2 232 87) then (cf_414_139 s.1 s.2) else (cf_414_143 ((mz_gL s.2 292 s.1) + 1) s.1 s.2)) else (cf_414_139 s.1 s.2)) else (.inr s.2)
def cd_414_98  (s : Int32 × mz_N) : Prop := (s.1 < 16 → ((mz_ib s.1 16) ∧ ((mz_z01 (mz_gI s.2 287 s.1)) ∧ (((mz_gZ s.2 287 s.1) = true → ((mz_ib s.1 16) ∧ (((mz_gL s.2 292 s.1) < (s.2.2 232 87) → (cp_414_139 s.1 s.2)) ∧ (¬ ((mz_gL s.2 292 s.1) < (s.2.2 232 87)) → ((mz_ib s.1 16) ∧ (cp_414_143 ((mz_gL s.2 292 s.1) + 1) s.1 s.2)))))) ∧ (¬ ((mz_gZ s.2 287 s.1) = true) → (cp_414_139 s.1 s.2)))))) ∧ (¬ (s.1 < 16) → True)
noncomputable def cf_414_98 (v1 : Int32) (N : mz_N) : (mz_N) := mz_run (cq_414_98 ) (v1, N)
def cp_414_98 (v1 : Int32) (N : mz_N) : Prop := ∃ n, mz_ok (cq_414_98 ) (cd_414_98 ) n (v1, N)
noncomputable def cq_414_61  (s : Int32 × mz_N) : ((Int32 × mz_N) ⊕ (mz_N)) := if s.1 < 7 then (.inl ((s.1 + 1), (cf_426_0 0 s.1 s.2))) else (.inr (cf_414_98 0 (mz_pL (cf_438_0 (cf_437_0 (cf_427_0 s.2))) 232 87 0)))
def cd_414_61  (s : Int32 × mz_N) : Prop := (s.1 < 7 → (cp_426_0 0 s.1 s.2)) ∧ (¬ (s.1 < 7) → ((cp_427_0 s.2) ∧ ((cp_437_0 (cf_427_0 s.2)) ∧ ((cp_438_0 (cf_437_0 (cf_427_0 s.2))) ∧ (cp_414_98 0 (mz_pL (cf_438_0 (cf_437_0 (cf_427_0 s.2))) 232 87 0))))))
noncomputable def cf_414_61 (v1 : Int32) (N : mz_N) : (mz_N) := mz_run (cq_414_61 ) (v1, N)
def cp_414_61 (v1 : Int32) (N : mz_N) : Prop := ∃ n, mz_ok (cq_414_61 ) (cd_414_61 ) n (v1, N)
noncomputable def cq_414_16  (s : Int32 × mz_N) : ((Int32 × mz_N) ⊕ (mz_N)) := if s.1 < 135 then (if (mz_gZ s.2 330 s.1) = true then (cf_414_53 s.1 (cf_421_0 (cf_419_0 s.1) (s.1 - (cf_420_0 (cf_419_0 s.1))) (28 * s.1) s.2)) else (cf_414_53 s.1 s.2)) else (.inr (cf_414_61 1 s.2))
def cd_414_16  (s : Int32 × mz_N) : Prop := (s.1 < 135 → ((mz_ib s.1 135) ∧ ((mz_z01 (mz_gI s.2 330 s.1)) ∧ (((mz_gZ s.2 330 s.1) = true → ((cp_419_0 s.1) ∧ ((cp_419_0 s.1) ∧ ((cp_421_0 (cf_419_0 s.1) (s.1 - (cf_420_0 (cf_419_0 s.1))) (28 * s.1) s.2) ∧ (cp_414_53 s.1 (cf_421_0 (cf_419_0 s.1) (s.1 - (cf_420_0 (cf_419_0 s.1))) (28 * s.1) s.2)))))) ∧ (¬ ((mz_gZ s.2 330 s.1) = true) → (cp_414_53 s.1 s.2)))))) ∧ (¬ (s.1 < 135) → (cp_414_61 1 s.2))
noncomputable def cf_414_16 (v1 : Int32) (N : mz_N) : (mz_N) := mz_run (cq_414_16 ) (v1, N)
def cp_414_16 (v1 : Int32) (N : mz_N) : Prop := ∃ n, mz_ok (cq_414_16 ) (cd_414_16 ) n (v1, N)
noncomputable def cf_414_0 (N : mz_N) : (mz_N) := (cf_414_16 0 (cf_415_0 (mz_pI (mz_pI N 232 136 (-1)) 232 137 (mz_b01 false))))
def cp_414_0 (N : mz_N) : Prop := (cp_415_0 (mz_pI (mz_pI N 232 136 (-1)) 232 137 (mz_b01 false))) ∧ (cp_414_16 0 (cf_415_0 (mz_pI (mz_pI N 232 136 (-1)) 232 137 (mz_b01 false))))
/-! 459 KeptHouseModel.thrown ()I -/
noncomputable def cf_459_0 (N : mz_N) : (Int32) := (N.1 232 0)
def cp_459_0 (N : mz_N) : Prop := True
/-! 461 KeptHouseModel.isDesk (I)Z -/
noncomputable def cf_461_0 (v0 : Int32) : (Bool) := if v0 < 0 then false else (if v0 < 3 then true else false)
def cp_461_0 (v0 : Int32) : Prop := True
/-! 462 KeptHouseModel.fails (ZZ)Z -/
noncomputable def cf_462_29 (s1 : Int32) (N : mz_N) : (Bool × mz_N) := if 0 < ((mz_pI N 232 0 s1).1 232 0) then (true, mz_pI N 232 0 s1) else (false, mz_pI N 232 0 s1)
def cp_462_29 (s1 : Int32) (N : mz_N) : Prop := True
noncomputable def cf_462_0 (v1 : Bool) (v2 : Bool) (N : mz_N) : (Bool × mz_N) := if (mz_fZ N 232 137) = true then (cf_462_29 2 N) else (if v1 = true then (if v2 = true then (cf_462_29 0 N) else (cf_462_29 2 N)) else (cf_462_29 1 N))
def cp_462_0 (v1 : Bool) (v2 : Bool) (N : mz_N) : Prop := (mz_z01 (N.1 232 137)) ∧ (((mz_fZ N 232 137) = true → (cp_462_29 2 N)) ∧ (¬ ((mz_fZ N 232 137) = true) → ((v1 = true → ((v2 = true → (cp_462_29 0 N)) ∧ (¬ (v2 = true) → (cp_462_29 2 N)))) ∧ (¬ (v1 = true) → (cp_462_29 1 N)))))
/-! 460 KeptHouseModel.take (I)I -/
noncomputable def cf_460_30 (N : mz_N) : (Int32 × mz_N) := ((N.1 232 4), N)
def cp_460_30 (N : mz_N) : Prop := True
noncomputable def cf_460_0 (v1 : Int32) (N : mz_N) : (Int32 × mz_N) := if ((cf_462_0 (cf_461_0 v1) true N).1) = true then (0, (cf_462_0 (cf_461_0 v1) true N).2) else (cf_460_30 (cf_426_0 0 (4 + v1) (cf_426_0 0 (1 + v1) ((cf_462_0 (cf_461_0 v1) true N).2))))
def cp_460_0 (v1 : Int32) (N : mz_N) : Prop := (cp_462_0 (cf_461_0 v1) true N) ∧ ((((cf_462_0 (cf_461_0 v1) true N).1) = true → True) ∧ (¬ (((cf_462_0 (cf_461_0 v1) true N).1) = true) → ((cp_426_0 0 (1 + v1) ((cf_462_0 (cf_461_0 v1) true N).2)) ∧ ((cp_426_0 0 (4 + v1) (cf_426_0 0 (1 + v1) ((cf_462_0 (cf_461_0 v1) true N).2))) ∧ (cp_460_30 (cf_426_0 0 (4 + v1) (cf_426_0 0 (1 + v1) ((cf_462_0 (cf_461_0 v1) true N).2))))))))
/-! 465 KeptHouseModel.isStorey (I)Z -/
noncomputable def cf_465_0 (v0 : Int32) : (Bool) := if v0 < 0 then false else (if v0 < 5 then true else false)
def cp_465_0 (v0 : Int32) : Prop := True
/-! 464 KeptHouseModel.isEdge (II)Z -/
noncomputable def cf_464_0 (v0 : Int32) (v1 : Int32) : (Bool) := if (cf_465_0 v0) = true then (if v1 < 0 then false else (if v1 < 110 then true else false)) else false
def cp_464_0 (v0 : Int32) (v1 : Int32) : Prop := True
/-! 466 KeptHouseModel.in (JJJ)Z -/
noncomputable def cf_466_0 (v0 : Int64) (v2 : Int64) (v4 : Int64) : (Bool) := if v0 < v2 then false else (if v4 < v0 then false else true)
def cp_466_0 (v0 : Int64) (v2 : Int64) (v4 : Int64) : Prop := True
/-! 463 KeptHouseModel.edit (IIIIII)I -/
noncomputable def cf_463_160 (v1 : Int32) (v2 : Int32) (v3 : Int32) (v4 : Int32) (v5 : Int32) (v6 : Int32) (v7 : Int32) (v8 : Int32) (N : mz_N) : ((Int32 × Int32 × mz_N) ⊕ (Int32 × mz_N)) := (.inl (v7, (v8 + 1), N))
def cp_463_160 (v1 : Int32) (v2 : Int32) (v3 : Int32) (v4 : Int32) (v5 : Int32) (v6 : Int32) (v7 : Int32) (v8 : Int32) (N : mz_N) : Prop := True
noncomputable def cf_463_136 (v1 : Int32) (v2 : Int32) (v3 : Int32) (v4 : Int32) (v5 : Int32) (v6 : Int32) (v7 : Int32) (v8 : Int32) (v10 : Int32) (N : mz_N) : ((Int32 × Int32 × mz_N) ⊕ (Int32 × mz_N)) := if (mz_gI N 233 v10) = v6 then (cf_463_160 v1 v2 v3 v4 v5 v6 v7 v8 N) else (cf_463_160 v1 v2 v3 v4 v5 v6 (v7 + 1) v8 (mz_wI N 233 v10 v6))
def cp_463_136 (v1 : Int32) (v2 : Int32) (v3 : Int32) (v4 : Int32) (v5 : Int32) (v6 : Int32) (v7 : Int32) (v8 : Int32) (v10 : Int32) (N : mz_N) : Prop := (mz_ib v10 4400) ∧ (((mz_gI N 233 v10) = v6 → (cp_463_160 v1 v2 v3 v4 v5 v6 v7 v8 N)) ∧ (¬ ((mz_gI N 233 v10) = v6) → ((mz_ib v10 4400) ∧ (cp_463_160 v1 v2 v3 v4 v5 v6 (v7 + 1) v8 (mz_wI N 233 v10 v6)))))
noncomputable def cq_463_89 (v1 : Int32) (v2 : Int32) (v3 : Int32) (v4 : Int32) (v5 : Int32) (v6 : Int32) (s : Int32 × Int32 × mz_N) : ((Int32 × Int32 × mz_N) ⊕ (Int32 × mz_N)) := if s.2.1 < v4 then (if 1 < v6 then (cf_463_136 v1 v2 v3 v4 v5 v6 s.1 s.2.1 (((550 * (1 + v1)) + (110 * v2)) + (v3 + (s.2.1 * v5))) s.2.2) else (if (cf_417_0 (v3 + (s.2.1 * v5))) = true then (cf_463_160 v1 v2 v3 v4 v5 v6 s.1 s.2.1 s.2.2) else (cf_463_136 v1 v2 v3 v4 v5 v6 s.1 s.2.1 (((550 * (1 + v1)) + (110 * v2)) + (v3 + (s.2.1 * v5))) s.2.2))) else (.inr (s.1, s.2.2))
def cd_463_89 (v1 : Int32) (v2 : Int32) (v3 : Int32) (v4 : Int32) (v5 : Int32) (v6 : Int32) (s : Int32 × Int32 × mz_N) : Prop := (s.2.1 < v4 → ((1 < v6 → (cp_463_136 v1 v2 v3 v4 v5 v6 s.1 s.2.1 (((550 * (1 + v1)) + (110 * v2)) + (v3 + (s.2.1 * v5))) s.2.2)) ∧ (¬ (1 < v6) → (((cf_417_0 (v3 + (s.2.1 * v5))) = true → (cp_463_160 v1 v2 v3 v4 v5 v6 s.1 s.2.1 s.2.2)) ∧ (¬ ((cf_417_0 (v3 + (s.2.1 * v5))) = true) → (cp_463_136 v1 v2 v3 v4 v5 v6 s.1 s.2.1 (((550 * (1 + v1)) + (110 * v2)) + (v3 + (s.2.1 * v5))) s.2.2)))))) ∧ (¬ (s.2.1 < v4) → True)
noncomputable def cf_463_89 (v1 : Int32) (v2 : Int32) (v3 : Int32) (v4 : Int32) (v5 : Int32) (v6 : Int32) (v7 : Int32) (v8 : Int32) (N : mz_N) : (Int32 × mz_N) := mz_run (cq_463_89 v1 v2 v3 v4 v5 v6) (v7, v8, N)
def cp_463_89 (v1 : Int32) (v2 : Int32) (v3 : Int32) (v4 : Int32) (v5 : Int32) (v6 : Int32) (v7 : Int32) (v8 : Int32) (N : mz_N) : Prop := ∃ n, mz_ok (cq_463_89 v1 v2 v3 v4 v5 v6) (cd_463_89 v1 v2 v3 v4 v5 v6) n (v7, v8, N)
noncomputable def cf_463_74 (s1 : Bool) (v1 : Int32) (v2 : Int32) (v3 : Int32) (v4 : Int32) (v5 : Int32) (v6 : Int32) (N : mz_N) : (Int32 × mz_N) := if ((cf_462_0 s1 true N).1) = true then (0, (cf_462_0 s1 true N).2) else (cf_463_89 v1 v2 v3 v4 v5 v6 0 0 ((cf_462_0 s1 true N).2))
def cp_463_74 (s1 : Bool) (v1 : Int32) (v2 : Int32) (v3 : Int32) (v4 : Int32) (v5 : Int32) (v6 : Int32) (N : mz_N) : Prop := (cp_462_0 s1 true N) ∧ ((((cf_462_0 s1 true N).1) = true → True) ∧ (¬ (((cf_462_0 s1 true N).1) = true) → (cp_463_89 v1 v2 v3 v4 v5 v6 0 0 ((cf_462_0 s1 true N).2))))
noncomputable def cf_463_73 (v1 : Int32) (v2 : Int32) (v3 : Int32) (v4 : Int32) (v5 : Int32) (v6 : Int32) (N : mz_N) : (Int32 × mz_N) := (cf_463_74 false v1 v2 v3 v4 v5 v6 N)
def cp_463_73 (v1 : Int32) (v2 : Int32) (v3 : Int32) (v4 : Int32) (v5 : Int32) (v6 : Int32) (N : mz_N) : Prop := cp_463_74 false v1 v2 v3 v4 v5 v6 N
noncomputable def cf_463_0 (v1 : Int32) (v2 : Int32) (v3 : Int32) (v4 : Int32) (v5 : Int32) (v6 : Int32) (N : mz_N) : (Int32 × mz_N) := if (cf_461_0 v1) = true then (if (cf_464_0 v2 v3) = true then (if (cf_466_0 v4.toInt64 1 110) = true then (if (cf_466_0 v5.toInt64 1 110) = true then (if (cf_466_0 v6.toInt64 0 3) = true then (if (v3 + ((v4 - 1) * v5)) < 110 then (cf_463_74 true v1 v2 v3 v4 v5 v6 N) else (cf_463_73 v1 v2 v3 v4 v5 v6 N)) else (cf_463_73 v1 v2 v3 v4 v5 v6 N)) else (cf_463_73 v1 v2 v3 v4 v5 v6 N)) else (cf_463_73 v1 v2 v3 v4 v5 v6 N)) else (cf_463_73 v1 v2 v3 v4 v5 v6 N)) else (cf_463_73 v1 v2 v3 v4 v5 v6 N)
def cp_463_0 (v1 : Int32) (v2 : Int32) (v3 : Int32) (v4 : Int32) (v5 : Int32) (v6 : Int32) (N : mz_N) : Prop := ((cf_461_0 v1) = true → (((cf_464_0 v2 v3) = true → (((cf_466_0 v4.toInt64 1 110) = true → (((cf_466_0 v5.toInt64 1 110) = true → (((cf_466_0 v6.toInt64 0 3) = true → (((v3 + ((v4 - 1) * v5)) < 110 → (cp_463_74 true v1 v2 v3 v4 v5 v6 N)) ∧ (¬ ((v3 + ((v4 - 1) * v5)) < 110) → (cp_463_73 v1 v2 v3 v4 v5 v6 N)))) ∧ (¬ ((cf_466_0 v6.toInt64 0 3) = true) → (cp_463_73 v1 v2 v3 v4 v5 v6 N)))) ∧ (¬ ((cf_466_0 v5.toInt64 1 110) = true) → (cp_463_73 v1 v2 v3 v4 v5 v6 N)))) ∧ (¬ ((cf_466_0 v4.toInt64 1 110) = true) → (cp_463_73 v1 v2 v3 v4 v5 v6 N)))) ∧ (¬ ((cf_464_0 v2 v3) = true) → (cp_463_73 v1 v2 v3 v4 v5 v6 N)))) ∧ (¬ ((cf_461_0 v1) = true) → (cp_463_73 v1 v2 v3 v4 v5 v6 N))
/-! 470 KeptHouseModel.isMine (II)Z -/
noncomputable def cf_470_0 (v1 : Int32) (v2 : Int32) (N : mz_N) : (Bool) := if (mz_gI N 233 ((550 * (1 + v1)) + v2)) = (mz_gI N 233 ((550 * (4 + v1)) + v2)) then false else true
def cp_470_0 (v1 : Int32) (v2 : Int32) (N : mz_N) : Prop := (mz_ib ((550 * (1 + v1)) + v2) 4400) ∧ (mz_ib ((550 * (4 + v1)) + v2) 4400)
/-! 469 KeptHouseModel.isConflict (II)Z -/
noncomputable def cf_469_0 (v1 : Int32) (v2 : Int32) (N : mz_N) : (Bool) := if (cf_470_0 v1 v2 N) = true then (if (mz_gI N 233 v2) = (mz_gI N 233 ((550 * (4 + v1)) + v2)) then false else (if (mz_gI N 233 v2) = (mz_gI N 233 ((550 * (1 + v1)) + v2)) then false else true)) else false
def cp_469_0 (v1 : Int32) (v2 : Int32) (N : mz_N) : Prop := (cp_470_0 v1 v2 N) ∧ (((cf_470_0 v1 v2 N) = true → ((mz_ib v2 4400) ∧ ((mz_ib ((550 * (4 + v1)) + v2) 4400) ∧ (((mz_gI N 233 v2) = (mz_gI N 233 ((550 * (4 + v1)) + v2)) → True) ∧ (¬ ((mz_gI N 233 v2) = (mz_gI N 233 ((550 * (4 + v1)) + v2))) → ((mz_ib v2 4400) ∧ (mz_ib ((550 * (1 + v1)) + v2) 4400))))))) ∧ (¬ ((cf_470_0 v1 v2 N) = true) → True))
/-! 468 KeptHouseModel.conflicts (I)I -/
noncomputable def cf_468_26 (s0 : Int32) (s1 : Bool) (v1 : Int32) (v3 : Int32) (N : mz_N) : ((Int32 × Int32) ⊕ (Int32)) := (.inl ((s0 + (mz_b01 s1)), (v3 + 1)))
def cp_468_26 (s0 : Int32) (s1 : Bool) (v1 : Int32) (v3 : Int32) (N : mz_N) : Prop := True
noncomputable def cq_468_4 (v1 : Int32) (N : mz_N) (s : Int32 × Int32) : ((Int32 × Int32) ⊕ (Int32)) := if s.2 < 550 then (if (cf_469_0 v1 s.2 N) = true then (cf_468_26 s.1 true v1 s.2 N) else (cf_468_26 s.1 false v1 s.2 N)) else (.inr s.1)
def cd_468_4 (v1 : Int32) (N : mz_N) (s : Int32 × Int32) : Prop := (s.2 < 550 → ((cp_469_0 v1 s.2 N) ∧ (((cf_469_0 v1 s.2 N) = true → (cp_468_26 s.1 true v1 s.2 N)) ∧ (¬ ((cf_469_0 v1 s.2 N) = true) → (cp_468_26 s.1 false v1 s.2 N))))) ∧ (¬ (s.2 < 550) → True)
noncomputable def cf_468_4 (v1 : Int32) (v2 : Int32) (v3 : Int32) (N : mz_N) : (Int32) := mz_run (cq_468_4 v1 N) (v2, v3)
def cp_468_4 (v1 : Int32) (v2 : Int32) (v3 : Int32) (N : mz_N) : Prop := ∃ n, mz_ok (cq_468_4 v1 N) (cd_468_4 v1 N) n (v2, v3)
noncomputable def cf_468_0 (v1 : Int32) (N : mz_N) : (Int32) := (cf_468_4 v1 0 0 N)
def cp_468_0 (v1 : Int32) (N : mz_N) : Prop := cp_468_4 v1 0 0 N
/-! 471 KeptHouseModel.beginGroup ()V -/
noncomputable def cf_471_0 (N : mz_N) : (mz_N) := mz_pI N 232 139 0
def cp_471_0 (N : mz_N) : Prop := True
/-! 473 KeptHouseModel.keyOf (II)I -/
noncomputable def cf_473_0 (v0 : Int32) (v1 : Int32) : (Int32) := if v0 < 1 then (-1) else (if 15 < v0 then (-1) else (if ((cf_420_0 v0) + v1) < (cf_420_0 (v0 + 1)) then ((cf_420_0 v0) + v1) else (-1)))
def cp_473_0 (v0 : Int32) (v1 : Int32) : Prop := True
/-! 472 KeptHouseModel.addKey (II)V -/
noncomputable def cf_472_24 (N : mz_N) : (mz_N) := N
def cp_472_24 (N : mz_N) : Prop := True
noncomputable def cf_472_0 (v1 : Int32) (v2 : Int32) (N : mz_N) : (mz_N) := (cf_472_24 (mz_pI (mz_wI N 333 (N.1 232 139) (cf_473_0 v1 v2)) 232 139 (((mz_wI N 333 (N.1 232 139) (cf_473_0 v1 v2)).1 232 139) + 1)))
def cp_472_0 (v1 : Int32) (v2 : Int32) (N : mz_N) : Prop := (mz_ib (N.1 232 139) 160) ∧ (cp_472_24 (mz_pI (mz_wI N 333 (N.1 232 139) (cf_473_0 v1 v2)) 232 139 (((mz_wI N 333 (N.1 232 139) (cf_473_0 v1 v2)).1 232 139) + 1)))
/-! 475 KeptHouseModel.snapshot ([Z[B)Z -/
noncomputable def cf_475_26 (a1 : Nat) (a2 : Nat) (s0 : Int32) (v4 : Int32) (N : mz_N) : ((Int32 × Int32) ⊕ (Bool × mz_N)) := (.inl (s0, (v4 + 1)))
def cp_475_26 (a1 : Nat) (a2 : Nat) (s0 : Int32) (v4 : Int32) (N : mz_N) : Prop := True
noncomputable def cf_475_98 (a1 : Nat) (a2 : Nat) (s0 : Int64) (v3 : Int32) (v4 : Int32) (v7 : Int32) (N : mz_N) : ((Int64 × Int32) ⊕ (Bool × mz_N)) := (.inl (s0, (v7 + 1)))
def cp_475_98 (a1 : Nat) (a2 : Nat) (s0 : Int64) (v3 : Int32) (v4 : Int32) (v7 : Int32) (N : mz_N) : Prop := True
noncomputable def cf_475_211 (a1 : Nat) (a2 : Nat) (v3 : Int32) (v4 : Int32) (v5 : Int64) (v7 : Int32) (v8 : Int32) (N : mz_N) : ((Int32 × Int32 × mz_N) ⊕ (Bool × mz_N)) := (.inl (v7, (v8 + 1), N))
def cp_475_211 (a1 : Nat) (a2 : Nat) (v3 : Int32) (v4 : Int32) (v5 : Int64) (v7 : Int32) (v8 : Int32) (N : mz_N) : Prop := True
noncomputable def cf_475_201 (a1 : Nat) (a2 : Nat) (s1 : Int32) (s2 : Int32) (s3 : Int32) (s4 : Int32) (s5 : Bool) (v3 : Int32) (v4 : Int32) (v5 : Int64) (v7 : Int32) (v8 : Int32) (N : mz_N) : ((Int32 × Int32 × mz_N) ⊕ (Bool × mz_N)) := if ((cf_411_0 s1 s2 s3 s4 s5 v5 N).1) = true then (cf_475_211 a1 a2 v3 v4 v5 v7 v8 ((cf_411_0 s1 s2 s3 s4 s5 v5 N).2)) else (.inr (false, (cf_411_0 s1 s2 s3 s4 s5 v5 N).2))
def cp_475_201 (a1 : Nat) (a2 : Nat) (s1 : Int32) (s2 : Int32) (s3 : Int32) (s4 : Int32) (s5 : Bool) (v3 : Int32) (v4 : Int32) (v5 : Int64) (v7 : Int32) (v8 : Int32) (N : mz_N) : Prop := (cp_411_0 s1 s2 s3 s4 s5 v5 N) ∧ ((((cf_411_0 s1 s2 s3 s4 s5 v5 N).1) = true → (cp_475_211 a1 a2 v3 v4 v5 v7 v8 ((cf_411_0 s1 s2 s3 s4 s5 v5 N).2))) ∧ (¬ (((cf_411_0 s1 s2 s3 s4 s5 v5 N).1) = true) → True))
noncomputable def cq_475_139 (a1 : Nat) (a2 : Nat) (v3 : Int32) (v4 : Int32) (v5 : Int64) (v7 : Int32) (v8 : Int32) (s : Int32 × mz_N) : ((Int32 × mz_N) ⊕ ((Int32 × Int32 × mz_N) ⊕ (Bool × mz_N))) := if s.1 < 28 then (.inl ((s.1 + 1), mz_wI s.2 332 s.1 (mz_nb (mz_gI s.2 a2 ((28 * v8) + s.1))))) else (if v8 = v3 then (.inr (cf_475_201 a1 a2 v4 v7 (cf_419_0 v8) (v8 - (cf_420_0 (cf_419_0 v8))) true v3 v4 v5 v7 v8 s.2)) else (.inr (cf_475_201 a1 a2 v4 v7 (cf_419_0 v8) (v8 - (cf_420_0 (cf_419_0 v8))) false v3 v4 v5 v7 v8 s.2)))
def cd_475_139 (a1 : Nat) (a2 : Nat) (v3 : Int32) (v4 : Int32) (v5 : Int64) (v7 : Int32) (v8 : Int32) (s : Int32 × mz_N) : Prop := (s.1 < 28 → ((mz_ib ((28 * v8) + s.1) 3780) ∧ (mz_ib s.1 28))) ∧ (¬ (s.1 < 28) → ((cp_419_0 v8) ∧ ((cp_419_0 v8) ∧ ((v8 = v3 → (cp_475_201 a1 a2 v4 v7 (cf_419_0 v8) (v8 - (cf_420_0 (cf_419_0 v8))) true v3 v4 v5 v7 v8 s.2)) ∧ (¬ (v8 = v3) → (cp_475_201 a1 a2 v4 v7 (cf_419_0 v8) (v8 - (cf_420_0 (cf_419_0 v8))) false v3 v4 v5 v7 v8 s.2))))))
noncomputable def cf_475_139 (a1 : Nat) (a2 : Nat) (v3 : Int32) (v4 : Int32) (v5 : Int64) (v7 : Int32) (v8 : Int32) (v9 : Int32) (N : mz_N) : ((Int32 × Int32 × mz_N) ⊕ (Bool × mz_N)) := mz_run (cq_475_139 a1 a2 v3 v4 v5 v7 v8) (v9, N)
def cp_475_139 (a1 : Nat) (a2 : Nat) (v3 : Int32) (v4 : Int32) (v5 : Int64) (v7 : Int32) (v8 : Int32) (v9 : Int32) (N : mz_N) : Prop := ∃ n, mz_ok (cq_475_139 a1 a2 v3 v4 v5 v7 v8) (cd_475_139 a1 a2 v3 v4 v5 v7 v8) n (v9, N)
noncomputable def cq_475_118 (a1 : Nat) (a2 : Nat) (v3 : Int32) (v4 : Int32) (v5 : Int64) (s : Int32 × Int32 × mz_N) : ((Int32 × Int32 × mz_N) ⊕ (Bool × mz_N)) := if s.2.1 < 135 then (if (mz_gZ s.2.2 a1 s.2.1) = true then (cf_475_139 a1 a2 v3 v4 v5 (s.1 + 1) s.2.1 0 s.2.2) else (cf_475_211 a1 a2 v3 v4 v5 s.1 s.2.1 s.2.2)) else (if ((cf_409_0 v4 s.1.toInt64 v5 s.2.2).1) = true then (.inr (true, mz_pI (mz_pL (mz_pI ((cf_409_0 v4 s.1.toInt64 v5 s.2.2).2) 232 133 v4) 232 134 v5) 232 135 (s.1 + 1))) else (.inr (false, (cf_409_0 v4 s.1.toInt64 v5 s.2.2).2)))
def cd_475_118 (a1 : Nat) (a2 : Nat) (v3 : Int32) (v4 : Int32) (v5 : Int64) (s : Int32 × Int32 × mz_N) : Prop := (s.2.1 < 135 → ((mz_ib s.2.1 135) ∧ ((mz_z01 (mz_gI s.2.2 a1 s.2.1)) ∧ (((mz_gZ s.2.2 a1 s.2.1) = true → (cp_475_139 a1 a2 v3 v4 v5 (s.1 + 1) s.2.1 0 s.2.2)) ∧ (¬ ((mz_gZ s.2.2 a1 s.2.1) = true) → (cp_475_211 a1 a2 v3 v4 v5 s.1 s.2.1 s.2.2)))))) ∧ (¬ (s.2.1 < 135) → (cp_409_0 v4 s.1.toInt64 v5 s.2.2))
noncomputable def cf_475_118 (a1 : Nat) (a2 : Nat) (v3 : Int32) (v4 : Int32) (v5 : Int64) (v7 : Int32) (v8 : Int32) (N : mz_N) : (Bool × mz_N) := mz_run (cq_475_118 a1 a2 v3 v4 v5) (v7, v8, N)
def cp_475_118 (a1 : Nat) (a2 : Nat) (v3 : Int32) (v4 : Int32) (v5 : Int64) (v7 : Int32) (v8 : Int32) (N : mz_N) : Prop := ∃ n, mz_ok (cq_475_118 a1 a2 v3 v4 v5) (cd_475_118 a1 a2 v3 v4 v5) n (v7, v8, N)
noncomputable def cq_475_50 (a1 : Nat) (a2 : Nat) (v3 : Int32) (v4 : Int32) (N : mz_N) (s : Int64 × Int32) : ((Int64 × Int32) ⊕ (Bool × mz_N)) := if s.2 < 2 then (if s.1 < (((cf_423_0 329 19200 (((9600 * v4) + (48 * s.2)) + 8) 4 N).toInt32).toInt64) then (cf_475_98 a1 a2 (((cf_423_0 329 19200 (((9600 * v4) + (48 * s.2)) + 8) 4 N).toInt32).toInt64) v3 v4 s.2 N) else (cf_475_98 a1 a2 s.1 v3 v4 s.2 N)) else (.inr (cf_475_118 a1 a2 v3 v4 (s.1 + 1) 0 0 N))
def cd_475_50 (a1 : Nat) (a2 : Nat) (v3 : Int32) (v4 : Int32) (N : mz_N) (s : Int64 × Int32) : Prop := (s.2 < 2 → ((cp_423_0 329 19200 (((9600 * v4) + (48 * s.2)) + 8) 4 N) ∧ ((s.1 < (((cf_423_0 329 19200 (((9600 * v4) + (48 * s.2)) + 8) 4 N).toInt32).toInt64) → (cp_475_98 a1 a2 (((cf_423_0 329 19200 (((9600 * v4) + (48 * s.2)) + 8) 4 N).toInt32).toInt64) v3 v4 s.2 N)) ∧ (¬ (s.1 < (((cf_423_0 329 19200 (((9600 * v4) + (48 * s.2)) + 8) 4 N).toInt32).toInt64)) → (cp_475_98 a1 a2 s.1 v3 v4 s.2 N))))) ∧ (¬ (s.2 < 2) → (cp_475_118 a1 a2 v3 v4 (s.1 + 1) 0 0 N))
noncomputable def cf_475_50 (a1 : Nat) (a2 : Nat) (v3 : Int32) (v4 : Int32) (v5 : Int64) (v7 : Int32) (N : mz_N) : (Bool × mz_N) := mz_run (cq_475_50 a1 a2 v3 v4 N) (v5, v7)
def cp_475_50 (a1 : Nat) (a2 : Nat) (v3 : Int32) (v4 : Int32) (v5 : Int64) (v7 : Int32) (N : mz_N) : Prop := ∃ n, mz_ok (cq_475_50 a1 a2 v3 v4 N) (cd_475_50 a1 a2 v3 v4 N) n (v5, v7)
noncomputable def cq_475_5 (a1 : Nat) (a2 : Nat) (N : mz_N) (s : Int32 × Int32) : ((Int32 × Int32) ⊕ (Bool × mz_N)) := if s.2 < 135 then (if (mz_gZ N a1 s.2) = true then (cf_475_26 a1 a2 s.2 s.2 N) else (cf_475_26 a1 a2 s.1 s.2 N)) else (.inr (cf_475_50 a1 a2 s.1 (1 - (N.1 232 133)) (N.2 232 134) 0 N))
def cd_475_5 (a1 : Nat) (a2 : Nat) (N : mz_N) (s : Int32 × Int32) : Prop := (s.2 < 135 → ((mz_ib s.2 135) ∧ ((mz_z01 (mz_gI N a1 s.2)) ∧ (((mz_gZ N a1 s.2) = true → (cp_475_26 a1 a2 s.2 s.2 N)) ∧ (¬ ((mz_gZ N a1 s.2) = true) → (cp_475_26 a1 a2 s.1 s.2 N)))))) ∧ (¬ (s.2 < 135) → (cp_475_50 a1 a2 s.1 (1 - (N.1 232 133)) (N.2 232 134) 0 N))
noncomputable def cf_475_5 (a1 : Nat) (a2 : Nat) (v3 : Int32) (v4 : Int32) (N : mz_N) : (Bool × mz_N) := mz_run (cq_475_5 a1 a2 N) (v3, v4)
def cp_475_5 (a1 : Nat) (a2 : Nat) (v3 : Int32) (v4 : Int32) (N : mz_N) : Prop := ∃ n, mz_ok (cq_475_5 a1 a2 N) (cd_475_5 a1 a2 N) n (v3, v4)
noncomputable def cf_475_0 (a1 : Nat) (a2 : Nat) (N : mz_N) : (Bool × mz_N) := (cf_475_5 a1 a2 (-1) 0 N)
def cp_475_0 (a1 : Nat) (a2 : Nat) (N : mz_N) : Prop := cp_475_5 a1 a2 (-1) 0 N
/-! 477 KeptHouseModel.makeMore (II)V -/
noncomputable def cf_477_527 (N : mz_N) : (mz_N) := N
def cp_477_527 (N : mz_N) : Prop := True
noncomputable def cf_477_514 (v2 : Int32) (N : mz_N) : (mz_N) := (cf_477_527 (cf_410_0 2 1 ((mz_gI N 284 v2).toInt64) N))
def cp_477_514 (v2 : Int32) (N : mz_N) : Prop := (mz_ib v2 8) ∧ ((cp_410_0 2 1 ((mz_gI N 284 v2).toInt64) N) ∧ (cp_477_527 (cf_410_0 2 1 ((mz_gI N 284 v2).toInt64) N)))
noncomputable def cq_477_211  (s : Int32 × mz_N) : ((Int32 × mz_N) ⊕ (mz_N)) := if s.1 < 3 then (.inl ((s.1 + 1), (cf_410_0 (12 + (4 * s.1)) 4 ((mz_gI s.2 249 s.1).toInt64) s.2))) else (.inr s.2)
def cd_477_211  (s : Int32 × mz_N) : Prop := (s.1 < 3 → ((mz_ib s.1 3) ∧ (cp_410_0 (12 + (4 * s.1)) 4 ((mz_gI s.2 249 s.1).toInt64) s.2))) ∧ (¬ (s.1 < 3) → True)
noncomputable def cf_477_211 (v3 : Int32) (N : mz_N) : (mz_N) := mz_run (cq_477_211 ) (v3, N)
def cp_477_211 (v3 : Int32) (N : mz_N) : Prop := ∃ n, mz_ok (cq_477_211 ) (cd_477_211 ) n (v3, N)
noncomputable def cf_477_197 (N : mz_N) : (mz_N) := (cf_477_211 0 (cf_410_0 8 4 ((N.1 232 21).toInt64) N))
def cp_477_197 (N : mz_N) : Prop := (cp_410_0 8 4 ((N.1 232 21).toInt64) N) ∧ (cp_477_211 0 (cf_410_0 8 4 ((N.1 232 21).toInt64) N))
noncomputable def cf_477_157 (N : mz_N) : (mz_N) := (cf_410_0 24 4 (N.2 232 125) N)
def cp_477_157 (N : mz_N) : Prop := cp_410_0 24 4 (N.2 232 125) N
noncomputable def cf_477_134 (N : mz_N) : (mz_N) := (cf_477_157 (cf_410_0 20 4 ((cf_410_0 12 8 (N.2 232 123) N).2 232 124) (cf_410_0 12 8 (N.2 232 123) N)))
def cp_477_134 (N : mz_N) : Prop := (cp_410_0 12 8 (N.2 232 123) N) ∧ ((cp_410_0 20 4 ((cf_410_0 12 8 (N.2 232 123) N).2 232 124) (cf_410_0 12 8 (N.2 232 123) N)) ∧ (cp_477_157 (cf_410_0 20 4 ((cf_410_0 12 8 (N.2 232 123) N).2 232 124) (cf_410_0 12 8 (N.2 232 123) N))))
noncomputable def cf_477_97 (v2 : Int32) (N : mz_N) : (mz_N) := (cf_410_0 24 4 (mz_gL N 323 v2) N)
def cp_477_97 (v2 : Int32) (N : mz_N) : Prop := (mz_ib v2 11) ∧ (cp_410_0 24 4 (mz_gL N 323 v2) N)
noncomputable def cf_477_71 (v2 : Int32) (N : mz_N) : (mz_N) := (cf_477_97 v2 (cf_410_0 20 4 (mz_gL (cf_410_0 16 4 (mz_gL N 321 v2) N) 322 v2) (cf_410_0 16 4 (mz_gL N 321 v2) N)))
def cp_477_71 (v2 : Int32) (N : mz_N) : Prop := (mz_ib v2 11) ∧ ((cp_410_0 16 4 (mz_gL N 321 v2) N) ∧ ((mz_ib v2 11) ∧ ((cp_410_0 20 4 (mz_gL (cf_410_0 16 4 (mz_gL N 321 v2) N) 322 v2) (cf_410_0 16 4 (mz_gL N 321 v2) N)) ∧ (cp_477_97 v2 (cf_410_0 20 4 (mz_gL (cf_410_0 16 4 (mz_gL N 321 v2) N) 322 v2) (cf_410_0 16 4 (mz_gL N 321 v2) N))))))
noncomputable def cf_477_300 (s1 : Int32) (s2 : Int32) (s3 : Int64) (N : mz_N) : (mz_N) := (cf_410_0 s1 s2 s3 N)
def cp_477_300 (s1 : Int32) (s2 : Int32) (s3 : Int64) (N : mz_N) : Prop := cp_410_0 s1 s2 s3 N
noncomputable def cf_477_268 (v2 : Int32) (N : mz_N) : (mz_N) := if (mz_gZ (cf_410_0 8 4 ((mz_gI N 306 v2).toInt64) N) 307 v2) = true then (cf_477_300 12 1 1 (cf_410_0 8 4 ((mz_gI N 306 v2).toInt64) N)) else (cf_477_300 12 1 0 (cf_410_0 8 4 ((mz_gI N 306 v2).toInt64) N))
def cp_477_268 (v2 : Int32) (N : mz_N) : Prop := (mz_ib v2 3) ∧ ((cp_410_0 8 4 ((mz_gI N 306 v2).toInt64) N) ∧ ((mz_ib v2 3) ∧ ((mz_z01 (mz_gI (cf_410_0 8 4 ((mz_gI N 306 v2).toInt64) N) 307 v2)) ∧ (((mz_gZ (cf_410_0 8 4 ((mz_gI N 306 v2).toInt64) N) 307 v2) = true → (cp_477_300 12 1 1 (cf_410_0 8 4 ((mz_gI N 306 v2).toInt64) N))) ∧ (¬ ((mz_gZ (cf_410_0 8 4 ((mz_gI N 306 v2).toInt64) N) 307 v2) = true) → (cp_477_300 12 1 0 (cf_410_0 8 4 ((mz_gI N 306 v2).toInt64) N)))))))
noncomputable def cf_477_386 (N : mz_N) : (mz_N) := N
def cp_477_386 (N : mz_N) : Prop := True
noncomputable def cf_477_361 (v2 : Int32) (N : mz_N) : (mz_N) := (cf_477_386 (cf_410_0 8 4 (mz_gL (cf_410_0 4 4 (mz_gL N 291 v2) N) 292 v2) (cf_410_0 4 4 (mz_gL N 291 v2) N)))
def cp_477_361 (v2 : Int32) (N : mz_N) : Prop := (mz_ib v2 16) ∧ ((cp_410_0 4 4 (mz_gL N 291 v2) N) ∧ ((mz_ib v2 16) ∧ ((cp_410_0 8 4 (mz_gL (cf_410_0 4 4 (mz_gL N 291 v2) N) 292 v2) (cf_410_0 4 4 (mz_gL N 291 v2) N)) ∧ (cp_477_386 (cf_410_0 8 4 (mz_gL (cf_410_0 4 4 (mz_gL N 291 v2) N) 292 v2) (cf_410_0 4 4 (mz_gL N 291 v2) N))))))
noncomputable def cf_477_335 (v2 : Int32) (N : mz_N) : (mz_N) := (cf_477_361 v2 (cf_410_0 3 1 ((mz_gI (cf_410_0 2 1 ((mz_gI N 289 v2).toInt64) N) 290 v2).toInt64) (cf_410_0 2 1 ((mz_gI N 289 v2).toInt64) N)))
def cp_477_335 (v2 : Int32) (N : mz_N) : Prop := (mz_ib v2 16) ∧ ((cp_410_0 2 1 ((mz_gI N 289 v2).toInt64) N) ∧ ((mz_ib v2 16) ∧ ((cp_410_0 3 1 ((mz_gI (cf_410_0 2 1 ((mz_gI N 289 v2).toInt64) N) 290 v2).toInt64) (cf_410_0 2 1 ((mz_gI N 289 v2).toInt64) N)) ∧ (cp_477_361 v2 (cf_410_0 3 1 ((mz_gI (cf_410_0 2 1 ((mz_gI N 289 v2).toInt64) N) 290 v2).toInt64) (cf_410_0 2 1 ((mz_gI N 289 v2).toInt64) N))))))
noncomputable def cf_477_409 (v2 : Int32) (N : mz_N) : (mz_N) := (cf_410_0 2 1 ((mz_gI N 310 v2).toInt64) N)
def cp_477_409 (v2 : Int32) (N : mz_N) : Prop := (mz_ib v2 20) ∧ (cp_410_0 2 1 ((mz_gI N 310 v2).toInt64) N)
noncomputable def cf_477_475 (s1 : Int32) (s2 : Int32) (s3 : Int64) (v2 : Int32) (N : mz_N) : (mz_N) := (cf_477_527 (cf_410_0 4 4 ((mz_gI (cf_410_0 s1 s2 s3 N) 312 v2).toInt64) (cf_410_0 s1 s2 s3 N)))
def cp_477_475 (s1 : Int32) (s2 : Int32) (s3 : Int64) (v2 : Int32) (N : mz_N) : Prop := (cp_410_0 s1 s2 s3 N) ∧ ((mz_ib v2 40) ∧ ((cp_410_0 4 4 ((mz_gI (cf_410_0 s1 s2 s3 N) 312 v2).toInt64) (cf_410_0 s1 s2 s3 N)) ∧ (cp_477_527 (cf_410_0 4 4 ((mz_gI (cf_410_0 s1 s2 s3 N) 312 v2).toInt64) (cf_410_0 s1 s2 s3 N)))))
noncomputable def cf_477_445 (v2 : Int32) (N : mz_N) : (mz_N) := if (mz_gZ (cf_410_0 2 1 ((mz_gI N 314 v2).toInt64) N) 315 v2) = true then (cf_477_475 3 1 1 v2 (cf_410_0 2 1 ((mz_gI N 314 v2).toInt64) N)) else (cf_477_475 3 1 0 v2 (cf_410_0 2 1 ((mz_gI N 314 v2).toInt64) N))
def cp_477_445 (v2 : Int32) (N : mz_N) : Prop := (mz_ib v2 40) ∧ ((cp_410_0 2 1 ((mz_gI N 314 v2).toInt64) N) ∧ ((mz_ib v2 40) ∧ ((mz_z01 (mz_gI (cf_410_0 2 1 ((mz_gI N 314 v2).toInt64) N) 315 v2)) ∧ (((mz_gZ (cf_410_0 2 1 ((mz_gI N 314 v2).toInt64) N) 315 v2) = true → (cp_477_475 3 1 1 v2 (cf_410_0 2 1 ((mz_gI N 314 v2).toInt64) N))) ∧ (¬ ((mz_gZ (cf_410_0 2 1 ((mz_gI N 314 v2).toInt64) N) 315 v2) = true) → (cp_477_475 3 1 0 v2 (cf_410_0 2 1 ((mz_gI N 314 v2).toInt64) N)))))))
noncomputable def cf_477_0 (v1 : Int32) (v2 : Int32) (N : mz_N) : (mz_N) := if v1 = 8 then (cf_477_71 v2 (cf_410_0 8 8 (mz_gL (cf_410_0 0 8 (mz_gL N 324 v2) N) 325 v2) (cf_410_0 0 8 (mz_gL N 324 v2) N))) else (if v1 = 9 then (cf_477_134 (cf_410_0 4 8 ((cf_410_0 0 4 (N.2 232 2) N).2 232 122) (cf_410_0 0 4 (N.2 232 2) N))) else (if v1 = 10 then (cf_477_197 (cf_410_0 4 4 (mz_gL (cf_410_0 0 4 (mz_gL N 322 10) N) 321 10) (cf_410_0 0 4 (mz_gL N 322 10) N))) else (if v1 = 11 then (cf_477_268 v2 (cf_410_0 4 4 (mz_gL (cf_410_0 0 4 ((mz_gI N 250 v2).toInt64) N) 305 v2) (cf_410_0 0 4 ((mz_gI N 250 v2).toInt64) N))) else (if v1 = 12 then (if (mz_gZ N 287 v2) = true then (cf_477_335 v2 (cf_410_0 1 1 ((mz_gI (cf_410_0 0 1 1 N) 288 v2).toInt64) (cf_410_0 0 1 1 N))) else N) else (if v1 = 13 then (cf_477_409 v2 (cf_410_0 1 1 ((mz_gI (cf_410_0 0 1 1 N) 309 v2).toInt64) (cf_410_0 0 1 1 N))) else (if v1 = 14 then (cf_477_445 v2 (cf_410_0 1 1 ((mz_gI (cf_410_0 0 1 1 N) 313 v2).toInt64) (cf_410_0 0 1 1 N))) else (cf_477_514 v2 (cf_410_0 1 1 ((mz_gI (cf_410_0 0 1 1 N) 283 v2).toInt64) (cf_410_0 0 1 1 N)))))))))
def cp_477_0 (v1 : Int32) (v2 : Int32) (N : mz_N) : Prop := (v1 = 8 → ((mz_ib v2 10) ∧ ((cp_410_0 0 8 (mz_gL N 324 v2) N) ∧ ((mz_ib v2 10) ∧ ((cp_410_0 8 8 (mz_gL (cf_410_0 0 8 (mz_gL N 324 v2) N) 325 v2) (cf_410_0 0 8 (mz_gL N 324 v2) N)) ∧ (cp_477_71 v2 (cf_410_0 8 8 (mz_gL (cf_410_0 0 8 (mz_gL N 324 v2) N) 325 v2) (cf_410_0 0 8 (mz_gL N 324 v2) N)))))))) ∧ (¬ (v1 = 8) → ((v1 = 9 → ((cp_410_0 0 4 (N.2 232 2) N) ∧ ((cp_410_0 4 8 ((cf_410_0 0 4 (N.2 232 2) N).2 232 122) (cf_410_0 0 4 (N.2 232 2) N)) ∧ (cp_477_134 (cf_410_0 4 8 ((cf_410_0 0 4 (N.2 232 2) N).2 232 122) (cf_410_0 0 4 (N.2 232 2) N)))))) ∧ (¬ (v1 = 9) → ((v1 = 10 → ((cp_410_0 0 4 (mz_gL N 322 10) N) ∧ ((cp_410_0 4 4 (mz_gL (cf_410_0 0 4 (mz_gL N 322 10) N) 321 10) (cf_410_0 0 4 (mz_gL N 322 10) N)) ∧ (cp_477_197 (cf_410_0 4 4 (mz_gL (cf_410_0 0 4 (mz_gL N 322 10) N) 321 10) (cf_410_0 0 4 (mz_gL N 322 10) N)))))) ∧ (¬ (v1 = 10) → ((v1 = 11 → ((mz_ib v2 3) ∧ ((cp_410_0 0 4 ((mz_gI N 250 v2).toInt64) N) ∧ ((mz_ib v2 3) ∧ ((cp_410_0 4 4 (mz_gL (cf_410_0 0 4 ((mz_gI N 250 v2).toInt64) N) 305 v2) (cf_410_0 0 4 ((mz_gI N 250 v2).toInt64) N)) ∧ (cp_477_268 v2 (cf_410_0 4 4 (mz_gL (cf_410_0 0 4 ((mz_gI N 250 v2).toInt64) N) 305 v2) (cf_410_0 0 4 ((mz_gI N 250 v2).toInt64) N)))))))) ∧ (¬ (v1 = 11) → ((v1 = 12 → ((mz_ib v2 16) ∧ ((mz_z01 (mz_gI N 287 v2)) ∧ (((mz_gZ N 287 v2) = true → ((cp_410_0 0 1 1 N) ∧ ((mz_ib v2 16) ∧ ((cp_410_0 1 1 ((mz_gI (cf_410_0 0 1 1 N) 288 v2).toInt64) (cf_410_0 0 1 1 N)) ∧ (cp_477_335 v2 (cf_410_0 1 1 ((mz_gI (cf_410_0 0 1 1 N) 288 v2).toInt64) (cf_410_0 0 1 1 N))))))) ∧ (¬ ((mz_gZ N 287 v2) = true) → True))))) ∧ (¬ (v1 = 12) → ((v1 = 13 → ((cp_410_0 0 1 1 N) ∧ ((mz_ib v2 20) ∧ ((cp_410_0 1 1 ((mz_gI (cf_410_0 0 1 1 N) 309 v2).toInt64) (cf_410_0 0 1 1 N)) ∧ (cp_477_409 v2 (cf_410_0 1 1 ((mz_gI (cf_410_0 0 1 1 N) 309 v2).toInt64) (cf_410_0 0 1 1 N))))))) ∧ (¬ (v1 = 13) → ((v1 = 14 → ((cp_410_0 0 1 1 N) ∧ ((mz_ib v2 40) ∧ ((cp_410_0 1 1 ((mz_gI (cf_410_0 0 1 1 N) 313 v2).toInt64) (cf_410_0 0 1 1 N)) ∧ (cp_477_445 v2 (cf_410_0 1 1 ((mz_gI (cf_410_0 0 1 1 N) 313 v2).toInt64) (cf_410_0 0 1 1 N))))))) ∧ (¬ (v1 = 14) → ((cp_410_0 0 1 1 N) ∧ ((mz_ib v2 8) ∧ ((cp_410_0 1 1 ((mz_gI (cf_410_0 0 1 1 N) 283 v2).toInt64) (cf_410_0 0 1 1 N)) ∧ (cp_477_514 v2 (cf_410_0 1 1 ((mz_gI (cf_410_0 0 1 1 N) 283 v2).toInt64) (cf_410_0 0 1 1 N)))))))))))))))))))
/-! 476 KeptHouseModel.make (I)V -/
noncomputable def cf_476_171 (v3 : Int32) (v4 : Int32) (N : mz_N) : ((Int32 × mz_N) ⊕ (mz_N)) := (.inl ((v4 + 1), N))
def cp_476_171 (v3 : Int32) (v4 : Int32) (N : mz_N) : Prop := True
noncomputable def cq_476_131 (v3 : Int32) (s : Int32 × mz_N) : ((Int32 × mz_N) ⊕ (mz_N)) := if s.1 < 48 then (cf_476_171 v3 s.1 (mz_wI s.2 332 (s.1 / 2) (mz_nb (mz_i2b ((mz_gI s.2 332 (s.1 / 2)) ||| (mz_i2b (mz_ishl (mz_gI s.2 234 ((48 * v3) + s.1)) (4 * (mz_irem s.1 2))))))))) else (.inr s.2)
def cd_476_131 (v3 : Int32) (s : Int32 × mz_N) : Prop := (s.1 < 48 → ((mz_ib (s.1 / 2) 28) ∧ ((mz_ib ((48 * v3) + s.1) 240) ∧ ((mz_ib (s.1 / 2) 28) ∧ (cp_476_171 v3 s.1 (mz_wI s.2 332 (s.1 / 2) (mz_nb (mz_i2b ((mz_gI s.2 332 (s.1 / 2)) ||| (mz_i2b (mz_ishl (mz_gI s.2 234 ((48 * v3) + s.1)) (4 * (mz_irem s.1 2))))))))))))) ∧ (¬ (s.1 < 48) → True)
noncomputable def cf_476_131 (v3 : Int32) (v4 : Int32) (N : mz_N) : (mz_N) := mz_run (cq_476_131 v3) (v4, N)
def cp_476_131 (v3 : Int32) (v4 : Int32) (N : mz_N) : Prop := ∃ n, mz_ok (cq_476_131 v3) (cd_476_131 v3) n (v4, N)
noncomputable def cq_476_263 (v3 : Int32) (s : Int32 × mz_N) : ((Int32 × mz_N) ⊕ (mz_N)) := if s.1 < 24 then (.inl ((s.1 + 1), mz_wI s.2 332 s.1 (mz_nb (mz_i2b (mz_gI s.2 246 ((24 * v3) + s.1)))))) else (.inr s.2)
def cd_476_263 (v3 : Int32) (s : Int32 × mz_N) : Prop := (s.1 < 24 → ((mz_ib ((24 * v3) + s.1) 96) ∧ (mz_ib s.1 28))) ∧ (¬ (s.1 < 24) → True)
noncomputable def cf_476_263 (v3 : Int32) (v4 : Int32) (N : mz_N) : (mz_N) := mz_run (cq_476_263 v3) (v4, N)
def cp_476_263 (v3 : Int32) (v4 : Int32) (N : mz_N) : Prop := ∃ n, mz_ok (cq_476_263 v3) (cd_476_263 v3) n (v4, N)
noncomputable def cf_476_366 (s1 : Int32) (s2 : Int32) (N : mz_N) : (mz_N) := mz_wI N 332 s1 (mz_nb s2)
def cp_476_366 (s1 : Int32) (s2 : Int32) (N : mz_N) : Prop := mz_ib s1 28
noncomputable def cf_476_341 (v3 : Int32) (N : mz_N) : (mz_N) := if v3 = 7 then (cf_476_366 0 (mz_i2b (N.1 232 27)) N) else (cf_476_366 0 (mz_gI N 332 0) N)
def cp_476_341 (v3 : Int32) (N : mz_N) : Prop := (v3 = 7 → (cp_476_366 0 (mz_i2b (N.1 232 27)) N)) ∧ (¬ (v3 = 7) → (cp_476_366 0 (mz_gI N 332 0) N))
noncomputable def cq_476_302 (v3 : Int32) (s : Int32 × mz_N) : ((Int32 × mz_N) ⊕ (mz_N)) := if s.1 < 28 then (if v3 < 7 then (.inl ((s.1 + 1), mz_wI s.2 332 s.1 (mz_nb (mz_i2b (mz_gI s.2 252 ((28 * v3) + s.1)))))) else (.inr (cf_476_341 v3 s.2))) else (.inr (cf_476_341 v3 s.2))
def cd_476_302 (v3 : Int32) (s : Int32 × mz_N) : Prop := (s.1 < 28 → ((v3 < 7 → ((mz_ib ((28 * v3) + s.1) 196) ∧ (mz_ib s.1 28))) ∧ (¬ (v3 < 7) → (cp_476_341 v3 s.2)))) ∧ (¬ (s.1 < 28) → (cp_476_341 v3 s.2))
noncomputable def cf_476_302 (v3 : Int32) (v4 : Int32) (N : mz_N) : (mz_N) := mz_run (cq_476_302 v3) (v4, N)
def cp_476_302 (v3 : Int32) (v4 : Int32) (N : mz_N) : Prop := ∃ n, mz_ok (cq_476_302 v3) (cd_476_302 v3) n (v4, N)
noncomputable def cf_476_119 (v3 : Int32) (v4 : Int32) (N : mz_N) : ((Int32 × mz_N) ⊕ (mz_N)) := (.inl ((v4 + 1), N))
def cp_476_119 (v3 : Int32) (v4 : Int32) (N : mz_N) : Prop := True
noncomputable def cq_476_79 (v3 : Int32) (s : Int32 × mz_N) : ((Int32 × mz_N) ⊕ (mz_N)) := if s.1 < 110 then (cf_476_119 v3 s.1 (mz_wI s.2 332 (s.1 / 4) (mz_nb (mz_i2b ((mz_gI s.2 332 (s.1 / 4)) ||| (mz_i2b (mz_ishl (mz_gI s.2 233 ((110 * v3) + s.1)) (2 * (mz_irem s.1 4))))))))) else (.inr s.2)
def cd_476_79 (v3 : Int32) (s : Int32 × mz_N) : Prop := (s.1 < 110 → ((mz_ib (s.1 / 4) 28) ∧ ((mz_ib ((110 * v3) + s.1) 4400) ∧ ((mz_ib (s.1 / 4) 28) ∧ (cp_476_119 v3 s.1 (mz_wI s.2 332 (s.1 / 4) (mz_nb (mz_i2b ((mz_gI s.2 332 (s.1 / 4)) ||| (mz_i2b (mz_ishl (mz_gI s.2 233 ((110 * v3) + s.1)) (2 * (mz_irem s.1 4))))))))))))) ∧ (¬ (s.1 < 110) → True)
noncomputable def cf_476_79 (v3 : Int32) (v4 : Int32) (N : mz_N) : (mz_N) := mz_run (cq_476_79 v3) (v4, N)
def cp_476_79 (v3 : Int32) (v4 : Int32) (N : mz_N) : Prop := ∃ n, mz_ok (cq_476_79 v3) (cd_476_79 v3) n (v4, N)
noncomputable def cf_476_426 (s1 : Int32) (s2 : Int32) (s3 : Int64) (v3 : Int32) (v4 : Int32) (N : mz_N) : ((Int32 × mz_N) ⊕ (mz_N)) := (.inl ((v4 + 1), (cf_410_0 s1 s2 s3 N)))
def cp_476_426 (s1 : Int32) (s2 : Int32) (s3 : Int64) (v3 : Int32) (v4 : Int32) (N : mz_N) : Prop := cp_410_0 s1 s2 s3 N
noncomputable def cf_476_403 (s1 : Int32) (s2 : Int32) (v3 : Int32) (v4 : Int32) (N : mz_N) : ((Int32 × mz_N) ⊕ (mz_N)) := if v3 = 0 then (cf_476_426 s1 s2 ((mz_gI N 247 v4).toInt64) v3 v4 N) else (cf_476_426 s1 s2 ((mz_gI N 248 v4).toInt64) v3 v4 N)
def cp_476_403 (s1 : Int32) (s2 : Int32) (v3 : Int32) (v4 : Int32) (N : mz_N) : Prop := (v3 = 0 → ((mz_ib v4 11) ∧ (cp_476_426 s1 s2 ((mz_gI N 247 v4).toInt64) v3 v4 N))) ∧ (¬ (v3 = 0) → ((mz_ib v4 11) ∧ (cp_476_426 s1 s2 ((mz_gI N 248 v4).toInt64) v3 v4 N)))
noncomputable def cf_476_394 (s1 : Int32) (v3 : Int32) (v4 : Int32) (N : mz_N) : ((Int32 × mz_N) ⊕ (mz_N)) := if v3 = 0 then (cf_476_403 s1 2 v3 v4 N) else (cf_476_403 s1 1 v3 v4 N)
def cp_476_394 (s1 : Int32) (v3 : Int32) (v4 : Int32) (N : mz_N) : Prop := (v3 = 0 → (cp_476_403 s1 2 v3 v4 N)) ∧ (¬ (v3 = 0) → (cp_476_403 s1 1 v3 v4 N))
noncomputable def cq_476_373 (v3 : Int32) (s : Int32 × mz_N) : ((Int32 × mz_N) ⊕ (mz_N)) := if s.1 < 11 then (if v3 = 0 then (cf_476_394 (2 * s.1) v3 s.1 s.2) else (cf_476_394 s.1 v3 s.1 s.2)) else (.inr s.2)
def cd_476_373 (v3 : Int32) (s : Int32 × mz_N) : Prop := (s.1 < 11 → ((v3 = 0 → (cp_476_394 (2 * s.1) v3 s.1 s.2)) ∧ (¬ (v3 = 0) → (cp_476_394 s.1 v3 s.1 s.2)))) ∧ (¬ (s.1 < 11) → True)
noncomputable def cf_476_373 (v3 : Int32) (v4 : Int32) (N : mz_N) : (mz_N) := mz_run (cq_476_373 v3) (v4, N)
def cp_476_373 (v3 : Int32) (v4 : Int32) (N : mz_N) : Prop := ∃ n, mz_ok (cq_476_373 v3) (cd_476_373 v3) n (v4, N)
noncomputable def cq_476_183 (v3 : Int32) (s : Int32 × mz_N) : ((Int32 × mz_N) ⊕ (mz_N)) := if s.1 < 24 then (.inl ((s.1 + 1), mz_wI s.2 332 s.1 (mz_nb (mz_i2b (mz_gI s.2 244 ((24 * v3) + s.1)))))) else (.inr s.2)
def cd_476_183 (v3 : Int32) (s : Int32 × mz_N) : Prop := (s.1 < 24 → ((mz_ib ((24 * v3) + s.1) 240) ∧ (mz_ib s.1 28))) ∧ (¬ (s.1 < 24) → True)
noncomputable def cf_476_183 (v3 : Int32) (v4 : Int32) (N : mz_N) : (mz_N) := mz_run (cq_476_183 v3) (v4, N)
def cp_476_183 (v3 : Int32) (v4 : Int32) (N : mz_N) : Prop := ∃ n, mz_ok (cq_476_183 v3) (cd_476_183 v3) n (v4, N)
noncomputable def cq_476_222 (v3 : Int32) (s : Int32 × mz_N) : ((Int32 × mz_N) ⊕ (mz_N)) := if s.1 < 12 then (.inl ((s.1 + 1), (cf_410_0 (2 * s.1) 2 ((mz_gI s.2 245 ((12 * v3) + s.1)).toInt64) s.2))) else (.inr s.2)
def cd_476_222 (v3 : Int32) (s : Int32 × mz_N) : Prop := (s.1 < 12 → ((mz_ib ((12 * v3) + s.1) 24) ∧ (cp_410_0 (2 * s.1) 2 ((mz_gI s.2 245 ((12 * v3) + s.1)).toInt64) s.2))) ∧ (¬ (s.1 < 12) → True)
noncomputable def cf_476_222 (v3 : Int32) (v4 : Int32) (N : mz_N) : (mz_N) := mz_run (cq_476_222 v3) (v4, N)
def cp_476_222 (v3 : Int32) (v4 : Int32) (N : mz_N) : Prop := ∃ n, mz_ok (cq_476_222 v3) (cd_476_222 v3) n (v4, N)
noncomputable def cq_476_2 (v1 : Int32) (s : Int32 × mz_N) : ((Int32 × mz_N) ⊕ (mz_N)) := if s.1 < 28 then (.inl ((s.1 + 1), mz_wI s.2 332 s.1 (mz_nb 0))) else (if (cf_419_0 v1) = 1 then (.inr (cf_476_79 (v1 - (cf_420_0 (cf_419_0 v1))) 0 s.2)) else (if (cf_419_0 v1) = 2 then (.inr (cf_476_131 (v1 - (cf_420_0 (cf_419_0 v1))) 0 s.2)) else (if (cf_419_0 v1) = 3 then (.inr (cf_476_183 (v1 - (cf_420_0 (cf_419_0 v1))) 0 s.2)) else (if (cf_419_0 v1) = 4 then (.inr (cf_476_222 (v1 - (cf_420_0 (cf_419_0 v1))) 0 s.2)) else (if (cf_419_0 v1) = 5 then (.inr (cf_476_263 (v1 - (cf_420_0 (cf_419_0 v1))) 0 s.2)) else (if (cf_419_0 v1) = 6 then (.inr (cf_476_302 (v1 - (cf_420_0 (cf_419_0 v1))) 0 s.2)) else (if (cf_419_0 v1) = 7 then (.inr (cf_476_373 (v1 - (cf_420_0 (cf_419_0 v1))) 0 s.2)) else (.inr (cf_477_0 (cf_419_0 v1) (v1 - (cf_420_0 (cf_419_0 v1))) s.2)))))))))
def cd_476_2 (v1 : Int32) (s : Int32 × mz_N) : Prop := (s.1 < 28 → (mz_ib s.1 28)) ∧ (¬ (s.1 < 28) → ((cp_419_0 v1) ∧ (((cf_419_0 v1) = 1 → (cp_476_79 (v1 - (cf_420_0 (cf_419_0 v1))) 0 s.2)) ∧ (¬ ((cf_419_0 v1) = 1) → (((cf_419_0 v1) = 2 → (cp_476_131 (v1 - (cf_420_0 (cf_419_0 v1))) 0 s.2)) ∧ (¬ ((cf_419_0 v1) = 2) → (((cf_419_0 v1) = 3 → (cp_476_183 (v1 - (cf_420_0 (cf_419_0 v1))) 0 s.2)) ∧ (¬ ((cf_419_0 v1) = 3) → (((cf_419_0 v1) = 4 → (cp_476_222 (v1 - (cf_420_0 (cf_419_0 v1))) 0 s.2)) ∧ (¬ ((cf_419_0 v1) = 4) → (((cf_419_0 v1) = 5 → (cp_476_263 (v1 - (cf_420_0 (cf_419_0 v1))) 0 s.2)) ∧ (¬ ((cf_419_0 v1) = 5) → (((cf_419_0 v1) = 6 → (cp_476_302 (v1 - (cf_420_0 (cf_419_0 v1))) 0 s.2)) ∧ (¬ ((cf_419_0 v1) = 6) → (((cf_419_0 v1) = 7 → (cp_476_373 (v1 - (cf_420_0 (cf_419_0 v1))) 0 s.2)) ∧ (¬ ((cf_419_0 v1) = 7) → (cp_477_0 (cf_419_0 v1) (v1 - (cf_420_0 (cf_419_0 v1))) s.2)))))))))))))))))
noncomputable def cf_476_2 (v1 : Int32) (v2 : Int32) (N : mz_N) : (mz_N) := mz_run (cq_476_2 v1) (v2, N)
def cp_476_2 (v1 : Int32) (v2 : Int32) (N : mz_N) : Prop := ∃ n, mz_ok (cq_476_2 v1) (cd_476_2 v1) n (v2, N)
noncomputable def cf_476_0 (v1 : Int32) (N : mz_N) : (mz_N) := (cf_476_2 v1 0 N)
def cp_476_0 (v1 : Int32) (N : mz_N) : Prop := cp_476_2 v1 0 N
/-! 474 KeptHouseModel.writeGroup ()Z -/
noncomputable def cq_474_114 (v1 : Int32) (v2 : Int32) (s : Int32 × mz_N) : ((Int32 × mz_N) ⊕ ((Int32 × mz_N) ⊕ (Bool × mz_N))) := if s.1 < 28 then (.inl ((s.1 + 1), mz_wI s.2 331 ((28 * v2) + s.1) (mz_nb (mz_gI s.2 332 s.1)))) else (.inr (.inl ((v1 + 1), s.2)))
def cd_474_114 (v1 : Int32) (v2 : Int32) (s : Int32 × mz_N) : Prop := (s.1 < 28 → ((mz_ib s.1 28) ∧ (mz_ib ((28 * v2) + s.1) 3780))) ∧ (¬ (s.1 < 28) → True)
noncomputable def cf_474_114 (v1 : Int32) (v2 : Int32) (v3 : Int32) (N : mz_N) : ((Int32 × mz_N) ⊕ (Bool × mz_N)) := mz_run (cq_474_114 v1 v2) (v3, N)
def cp_474_114 (v1 : Int32) (v2 : Int32) (v3 : Int32) (N : mz_N) : Prop := ∃ n, mz_ok (cq_474_114 v1 v2) (cd_474_114 v1 v2) n (v3, N)
noncomputable def cf_474_93 (s1 : Int32) (s2 : Int32) (s3 : Int32) (s4 : Int32) (s5 : Bool) (v1 : Int32) (v2 : Int32) (N : mz_N) : ((Int32 × mz_N) ⊕ (Bool × mz_N)) := if ((cf_411_0 s1 s2 s3 s4 s5 (N.2 232 134) N).1) = true then (cf_474_114 v1 v2 0 (mz_wI ((cf_411_0 s1 s2 s3 s4 s5 (N.2 232 134) N).2) 330 v2 (mz_b01 true))) else (.inr (false, (cf_411_0 s1 s2 s3 s4 s5 (N.2 232 134) N).2))
def cp_474_93 (s1 : Int32) (s2 : Int32) (s3 : Int32) (s4 : Int32) (s5 : Bool) (v1 : Int32) (v2 : Int32) (N : mz_N) : Prop := (cp_411_0 s1 s2 s3 s4 s5 (N.2 232 134) N) ∧ ((((cf_411_0 s1 s2 s3 s4 s5 (N.2 232 134) N).1) = true → ((mz_ib v2 135) ∧ (cp_474_114 v1 v2 0 (mz_wI ((cf_411_0 s1 s2 s3 s4 s5 (N.2 232 134) N).2) 330 v2 (mz_b01 true))))) ∧ (¬ (((cf_411_0 s1 s2 s3 s4 s5 (N.2 232 134) N).1) = true) → True))
noncomputable def cq_474_34  (s : Int32 × mz_N) : ((Int32 × mz_N) ⊕ (Bool × mz_N)) := if s.1 < (s.2.1 232 139) then (if s.1 = (((cf_476_0 (mz_gI s.2 333 s.1) s.2).1 232 139) - 1) then (cf_474_93 ((cf_476_0 (mz_gI s.2 333 s.1) s.2).1 232 133) (((cf_476_0 (mz_gI s.2 333 s.1) s.2).1 232 135) + s.1) (cf_419_0 (mz_gI s.2 333 s.1)) ((mz_gI s.2 333 s.1) - (cf_420_0 (cf_419_0 (mz_gI s.2 333 s.1)))) true s.1 (mz_gI s.2 333 s.1) (cf_476_0 (mz_gI s.2 333 s.1) s.2)) else (cf_474_93 ((cf_476_0 (mz_gI s.2 333 s.1) s.2).1 232 133) (((cf_476_0 (mz_gI s.2 333 s.1) s.2).1 232 135) + s.1) (cf_419_0 (mz_gI s.2 333 s.1)) ((mz_gI s.2 333 s.1) - (cf_420_0 (cf_419_0 (mz_gI s.2 333 s.1)))) false s.1 (mz_gI s.2 333 s.1) (cf_476_0 (mz_gI s.2 333 s.1) s.2))) else (.inr (true, mz_pI s.2 232 135 ((s.2.1 232 135) + (s.2.1 232 139))))
def cd_474_34  (s : Int32 × mz_N) : Prop := (s.1 < (s.2.1 232 139) → ((mz_ib s.1 160) ∧ ((cp_476_0 (mz_gI s.2 333 s.1) s.2) ∧ ((cp_419_0 (mz_gI s.2 333 s.1)) ∧ ((cp_419_0 (mz_gI s.2 333 s.1)) ∧ ((s.1 = (((cf_476_0 (mz_gI s.2 333 s.1) s.2).1 232 139) - 1) → (cp_474_93 ((cf_476_0 (mz_gI s.2 333 s.1) s.2).1 232 133) (((cf_476_0 (mz_gI s.2 333 s.1) s.2).1 232 135) + s.1) (cf_419_0 (mz_gI s.2 333 s.1)) ((mz_gI s.2 333 s.1) - (cf_420_0 (cf_419_0 (mz_gI s.2 333 s.1)))) true s.1 (mz_gI s.2 333 s.1) (cf_476_0 (mz_gI s.2 333 s.1) s.2))) ∧ (¬ (s.1 = (((cf_476_0 (mz_gI s.2 333 s.1) s.2).1 232 139) - 1)) → (cp_474_93 ((cf_476_0 (mz_gI s.2 333 s.1) s.2).1 232 133) (((cf_476_0 (mz_gI s.2 333 s.1) s.2).1 232 135) + s.1) (cf_419_0 (mz_gI s.2 333 s.1)) ((mz_gI s.2 333 s.1) - (cf_420_0 (cf_419_0 (mz_gI s.2 333 s.1)))) false s.1 (mz_gI s.2 333 s.1) (cf_476_0 (mz_gI s.2 333 s.1) s.2))))))))) ∧ (¬ (s.1 < (s.2.1 232 139)) → True)
noncomputable def cf_474_34 (v1 : Int32) (N : mz_N) : (Bool × mz_N) := mz_run (cq_474_34 ) (v1, N)
def cp_474_34 (v1 : Int32) (N : mz_N) : Prop := ∃ n, mz_ok (cq_474_34 ) (cd_474_34 ) n (v1, N)
noncomputable def cf_474_32 (N : mz_N) : (Bool × mz_N) := (cf_474_34 0 N)
def cp_474_32 (N : mz_N) : Prop := cp_474_34 0 N
noncomputable def cf_474_0 (N : mz_N) : (Bool × mz_N) := if 200 < ((N.1 232 135) + (N.1 232 139)) then (if ((cf_475_0 330 331 N).1) = true then (cf_474_32 ((cf_475_0 330 331 N).2)) else (false, (cf_475_0 330 331 N).2)) else (cf_474_32 N)
def cp_474_0 (N : mz_N) : Prop := (200 < ((N.1 232 135) + (N.1 232 139)) → ((cp_475_0 330 331 N) ∧ ((((cf_475_0 330 331 N).1) = true → (cp_474_32 ((cf_475_0 330 331 N).2))) ∧ (¬ (((cf_475_0 330 331 N).1) = true) → True)))) ∧ (¬ (200 < ((N.1 232 135) + (N.1 232 139))) → (cp_474_32 N))
/-! 467 KeptHouseModel.merge (I)I -/
noncomputable def cf_467_249 (N : mz_N) : (Int32 × mz_N) := ((-1001), N)
def cp_467_249 (N : mz_N) : Prop := True
noncomputable def cf_467_173 (s0 : Bool) (v1 : Int32) (v3 : Int32) (v5 : Int32) (N : mz_N) : ((Bool × Int32) ⊕ ((Int32 × mz_N) ⊕ (Int32 × mz_N))) := (.inl (s0, (v5 + 1)))
def cp_467_173 (s0 : Bool) (v1 : Int32) (v3 : Int32) (v5 : Int32) (N : mz_N) : Prop := True
noncomputable def cf_467_168 (v1 : Int32) (v3 : Int32) (v5 : Int32) (N : mz_N) : ((Bool × Int32) ⊕ ((Int32 × mz_N) ⊕ (Int32 × mz_N))) := (cf_467_173 true v1 v3 v5 N)
def cp_467_168 (v1 : Int32) (v3 : Int32) (v5 : Int32) (N : mz_N) : Prop := cp_467_173 true v1 v3 v5 N
noncomputable def cf_467_192 (v1 : Int32) (v3 : Int32) (N : mz_N) : ((Int32 × mz_N) ⊕ (Int32 × mz_N)) := (.inl ((v3 + 1), N))
def cp_467_192 (v1 : Int32) (v3 : Int32) (N : mz_N) : Prop := True
noncomputable def cq_467_125 (v1 : Int32) (v3 : Int32) (N : mz_N) (s : Bool × Int32) : ((Bool × Int32) ⊕ ((Int32 × mz_N) ⊕ (Int32 × mz_N))) := if s.2 < 110 then (if s.1 = true then (cf_467_168 v1 v3 s.2 N) else (if (mz_gI N 233 ((3850 + (110 * v3)) + s.2)) = (mz_gI N 233 ((110 * v3) + s.2)) then (cf_467_173 false v1 v3 s.2 N) else (cf_467_168 v1 v3 s.2 N))) else (if s.1 = true then (.inr (cf_467_192 v1 v3 (cf_472_0 1 v3 N))) else (.inr (cf_467_192 v1 v3 N)))
def cd_467_125 (v1 : Int32) (v3 : Int32) (N : mz_N) (s : Bool × Int32) : Prop := (s.2 < 110 → ((s.1 = true → (cp_467_168 v1 v3 s.2 N)) ∧ (¬ (s.1 = true) → ((mz_ib ((3850 + (110 * v3)) + s.2) 4400) ∧ ((mz_ib ((110 * v3) + s.2) 4400) ∧ (((mz_gI N 233 ((3850 + (110 * v3)) + s.2)) = (mz_gI N 233 ((110 * v3) + s.2)) → (cp_467_173 false v1 v3 s.2 N)) ∧ (¬ ((mz_gI N 233 ((3850 + (110 * v3)) + s.2)) = (mz_gI N 233 ((110 * v3) + s.2))) → (cp_467_168 v1 v3 s.2 N)))))))) ∧ (¬ (s.2 < 110) → ((s.1 = true → ((cp_472_0 1 v3 N) ∧ (cp_467_192 v1 v3 (cf_472_0 1 v3 N)))) ∧ (¬ (s.1 = true) → (cp_467_192 v1 v3 N))))
noncomputable def cf_467_125 (v1 : Int32) (v3 : Int32) (v4 : Bool) (v5 : Int32) (N : mz_N) : ((Int32 × mz_N) ⊕ (Int32 × mz_N)) := mz_run (cq_467_125 v1 v3 N) (v4, v5)
def cp_467_125 (v1 : Int32) (v3 : Int32) (v4 : Bool) (v5 : Int32) (N : mz_N) : Prop := ∃ n, mz_ok (cq_467_125 v1 v3 N) (cd_467_125 v1 v3 N) n (v4, v5)
noncomputable def cq_467_114 (v1 : Int32) (s : Int32 × mz_N) : ((Int32 × mz_N) ⊕ (Int32 × mz_N)) := if s.1 < 5 then (cf_467_125 v1 s.1 false 0 s.2) else (if ((cf_474_0 (cf_427_0 (mz_pI (cf_426_0 0 (4 + v1) (cf_426_0 0 (1 + v1) (cf_426_0 7 0 s.2))) 232 4 (((cf_426_0 0 (4 + v1) (cf_426_0 0 (1 + v1) (cf_426_0 7 0 s.2))).1 232 4) + 1)))).1) = true then (.inr ((((cf_474_0 (cf_427_0 (mz_pI (cf_426_0 0 (4 + v1) (cf_426_0 0 (1 + v1) (cf_426_0 7 0 s.2))) 232 4 (((cf_426_0 0 (4 + v1) (cf_426_0 0 (1 + v1) (cf_426_0 7 0 s.2))).1 232 4) + 1)))).2).1 232 4), (cf_474_0 (cf_427_0 (mz_pI (cf_426_0 0 (4 + v1) (cf_426_0 0 (1 + v1) (cf_426_0 7 0 s.2))) 232 4 (((cf_426_0 0 (4 + v1) (cf_426_0 0 (1 + v1) (cf_426_0 7 0 s.2))).1 232 4) + 1)))).2)) else (.inr (cf_467_249 ((cf_474_0 (cf_427_0 (mz_pI (cf_426_0 0 (4 + v1) (cf_426_0 0 (1 + v1) (cf_426_0 7 0 s.2))) 232 4 (((cf_426_0 0 (4 + v1) (cf_426_0 0 (1 + v1) (cf_426_0 7 0 s.2))).1 232 4) + 1)))).2))))
def cd_467_114 (v1 : Int32) (s : Int32 × mz_N) : Prop := (s.1 < 5 → (cp_467_125 v1 s.1 false 0 s.2)) ∧ (¬ (s.1 < 5) → ((cp_426_0 7 0 s.2) ∧ ((cp_426_0 0 (1 + v1) (cf_426_0 7 0 s.2)) ∧ ((cp_426_0 0 (4 + v1) (cf_426_0 0 (1 + v1) (cf_426_0 7 0 s.2))) ∧ ((cp_427_0 (mz_pI (cf_426_0 0 (4 + v1) (cf_426_0 0 (1 + v1) (cf_426_0 7 0 s.2))) 232 4 (((cf_426_0 0 (4 + v1) (cf_426_0 0 (1 + v1) (cf_426_0 7 0 s.2))).1 232 4) + 1))) ∧ ((cp_474_0 (cf_427_0 (mz_pI (cf_426_0 0 (4 + v1) (cf_426_0 0 (1 + v1) (cf_426_0 7 0 s.2))) 232 4 (((cf_426_0 0 (4 + v1) (cf_426_0 0 (1 + v1) (cf_426_0 7 0 s.2))).1 232 4) + 1)))) ∧ ((((cf_474_0 (cf_427_0 (mz_pI (cf_426_0 0 (4 + v1) (cf_426_0 0 (1 + v1) (cf_426_0 7 0 s.2))) 232 4 (((cf_426_0 0 (4 + v1) (cf_426_0 0 (1 + v1) (cf_426_0 7 0 s.2))).1 232 4) + 1)))).1) = true → True) ∧ (¬ (((cf_474_0 (cf_427_0 (mz_pI (cf_426_0 0 (4 + v1) (cf_426_0 0 (1 + v1) (cf_426_0 7 0 s.2))) 232 4 (((cf_426_0 0 (4 + v1) (cf_426_0 0 (1 + v1) (cf_426_0 7 0 s.2))).1 232 4) + 1)))).1) = true) → (cp_467_249 ((cf_474_0 (cf_427_0 (mz_pI (cf_426_0 0 (4 + v1) (cf_426_0 0 (1 + v1) (cf_426_0 7 0 s.2))) 232 4 (((cf_426_0 0 (4 + v1) (cf_426_0 0 (1 + v1) (cf_426_0 7 0 s.2))).1 232 4) + 1)))).2))))))))))
noncomputable def cf_467_114 (v1 : Int32) (v3 : Int32) (N : mz_N) : (Int32 × mz_N) := mz_run (cq_467_114 v1) (v3, N)
def cp_467_114 (v1 : Int32) (v3 : Int32) (N : mz_N) : Prop := ∃ n, mz_ok (cq_467_114 v1) (cd_467_114 v1) n (v3, N)
noncomputable def cf_467_77 (s1 : Int32) (s2 : Int32) (v1 : Int32) (v3 : Int32) (N : mz_N) : ((Int32 × mz_N) ⊕ (Int32 × mz_N)) := (.inl ((v3 + 1), mz_wI N 233 s1 s2))
def cp_467_77 (s1 : Int32) (s2 : Int32) (v1 : Int32) (v3 : Int32) (N : mz_N) : Prop := mz_ib s1 4400
noncomputable def cq_467_29 (v1 : Int32) (s : Int32 × mz_N) : ((Int32 × mz_N) ⊕ (Int32 × mz_N)) := if s.1 < 550 then (if (cf_470_0 v1 s.1 s.2) = true then (cf_467_77 (3850 + s.1) (mz_gI s.2 233 ((550 * (1 + v1)) + s.1)) v1 s.1 s.2) else (cf_467_77 (3850 + s.1) (mz_gI s.2 233 s.1) v1 s.1 s.2)) else (if 40 < ((cf_428_0 7 s.2).1 232 7) then (.inr ((-1002), (cf_428_0 0 (cf_428_0 7 s.2)))) else (.inr (cf_467_114 v1 0 (cf_471_0 (cf_428_0 7 s.2)))))
def cd_467_29 (v1 : Int32) (s : Int32 × mz_N) : Prop := (s.1 < 550 → ((cp_470_0 v1 s.1 s.2) ∧ (((cf_470_0 v1 s.1 s.2) = true → ((mz_ib ((550 * (1 + v1)) + s.1) 4400) ∧ (cp_467_77 (3850 + s.1) (mz_gI s.2 233 ((550 * (1 + v1)) + s.1)) v1 s.1 s.2))) ∧ (¬ ((cf_470_0 v1 s.1 s.2) = true) → ((mz_ib s.1 4400) ∧ (cp_467_77 (3850 + s.1) (mz_gI s.2 233 s.1) v1 s.1 s.2)))))) ∧ (¬ (s.1 < 550) → ((cp_428_0 7 s.2) ∧ ((40 < ((cf_428_0 7 s.2).1 232 7) → (cp_428_0 0 (cf_428_0 7 s.2))) ∧ (¬ (40 < ((cf_428_0 7 s.2).1 232 7)) → (cp_467_114 v1 0 (cf_471_0 (cf_428_0 7 s.2)))))))
noncomputable def cf_467_29 (v1 : Int32) (v3 : Int32) (N : mz_N) : (Int32 × mz_N) := mz_run (cq_467_29 v1) (v3, N)
def cp_467_29 (v1 : Int32) (v3 : Int32) (N : mz_N) : Prop := ∃ n, mz_ok (cq_467_29 v1) (cd_467_29 v1) n (v3, N)
noncomputable def cf_467_0 (v1 : Int32) (N : mz_N) : (Int32 × mz_N) := if ((cf_462_0 (cf_461_0 v1) true N).1) = true then (0, (cf_462_0 (cf_461_0 v1) true N).2) else (if 0 < (cf_468_0 v1 ((cf_462_0 (cf_461_0 v1) true N).2)) then ((-(cf_468_0 v1 ((cf_462_0 (cf_461_0 v1) true N).2))), (cf_462_0 (cf_461_0 v1) true N).2) else (cf_467_29 v1 0 ((cf_462_0 (cf_461_0 v1) true N).2)))
def cp_467_0 (v1 : Int32) (N : mz_N) : Prop := (cp_462_0 (cf_461_0 v1) true N) ∧ ((((cf_462_0 (cf_461_0 v1) true N).1) = true → True) ∧ (¬ (((cf_462_0 (cf_461_0 v1) true N).1) = true) → ((cp_468_0 v1 ((cf_462_0 (cf_461_0 v1) true N).2)) ∧ ((0 < (cf_468_0 v1 ((cf_462_0 (cf_461_0 v1) true N).2)) → True) ∧ (¬ (0 < (cf_468_0 v1 ((cf_462_0 (cf_461_0 v1) true N).2))) → (cp_467_29 v1 0 ((cf_462_0 (cf_461_0 v1) true N).2)))))))
/-! 479 KeptHouseModel.conflictAt (II)I -/
noncomputable def cf_479_34 (v1 : Int32) (v2 : Int32) (v3 : Int32) (v4 : Int32) (N : mz_N) : ((Int32 × Int32) ⊕ (Int32)) := (.inl (v3, (v4 + 1)))
def cp_479_34 (v1 : Int32) (v2 : Int32) (v3 : Int32) (v4 : Int32) (N : mz_N) : Prop := True
noncomputable def cq_479_5 (v1 : Int32) (v2 : Int32) (N : mz_N) (s : Int32 × Int32) : ((Int32 × Int32) ⊕ (Int32)) := if s.2 < 550 then (if (cf_469_0 v1 s.2 N) = true then (if s.1 = v2 then (.inr s.2) else (cf_479_34 v1 v2 (s.1 + 1) s.2 N)) else (cf_479_34 v1 v2 s.1 s.2 N)) else (.inr (-1))
def cd_479_5 (v1 : Int32) (v2 : Int32) (N : mz_N) (s : Int32 × Int32) : Prop := (s.2 < 550 → ((cp_469_0 v1 s.2 N) ∧ (((cf_469_0 v1 s.2 N) = true → ((s.1 = v2 → True) ∧ (¬ (s.1 = v2) → (cp_479_34 v1 v2 (s.1 + 1) s.2 N)))) ∧ (¬ ((cf_469_0 v1 s.2 N) = true) → (cp_479_34 v1 v2 s.1 s.2 N))))) ∧ (¬ (s.2 < 550) → True)
noncomputable def cf_479_5 (v1 : Int32) (v2 : Int32) (v3 : Int32) (v4 : Int32) (N : mz_N) : (Int32) := mz_run (cq_479_5 v1 v2 N) (v3, v4)
def cp_479_5 (v1 : Int32) (v2 : Int32) (v3 : Int32) (v4 : Int32) (N : mz_N) : Prop := ∃ n, mz_ok (cq_479_5 v1 v2 N) (cd_479_5 v1 v2 N) n (v3, v4)
noncomputable def cf_479_0 (v1 : Int32) (v2 : Int32) (N : mz_N) : (Int32) := (cf_479_5 v1 v2 0 0 N)
def cp_479_0 (v1 : Int32) (v2 : Int32) (N : mz_N) : Prop := cp_479_5 v1 v2 0 0 N
