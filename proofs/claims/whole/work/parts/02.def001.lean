/-! PURE (2): written by program: what each method comes to: its value, what it needs. -/
/-! 194 KeptHouse.fault (I)I -/
noncomputable def cf_194_0 (v1 : Int32) (N : mz_N) : (Nat × Int32) := if (cf_104_0 N) = 0 then (if (cf_105_0 v1 0 1) = 0 then (if v1 = 0 then (0, (N.1 41 4)) else (0, (N.1 41 5))) else ((cf_105_0 v1 0 1), 0)) else ((cf_104_0 N), 0)
def cp_194_0 (v1 : Int32) (N : mz_N) : Prop := (cp_104_0 N) ∧ (((cf_104_0 N) = 0 → (cp_105_0 v1 0 1)) ∧ (¬ ((cf_104_0 N) = 0) → True))
/-! 193 KeptHouseLaw.fault (LKeptHouse;I[J)I -/
noncomputable def cf_193_0 (v1 : Int32) (N : mz_N) (t : Nat) : (Int32 × mz_N × Nat) := if (cf_194_0 v1 N).1 = 0 then (0, mz_wL N 342 0 (((cf_194_0 v1 N).2).toInt64), t) else (if (cf_194_0 v1 N).1 = 1 then (1, N, t + 1) else (2, N, t + 1))
def cp_193_0 (v1 : Int32) (N : mz_N) (t : Nat) : Prop := (cp_194_0 v1 N) ∧ ((t < 1000) ∧ (((cf_194_0 v1 N).1 = 0 → True) ∧ (¬ ((cf_194_0 v1 N).1 = 0) → (((cf_194_0 v1 N).1 = 1 → True) ∧ (¬ ((cf_194_0 v1 N).1 = 1) → ((cf_194_0 v1 N).1 = 2))))))
/-! 196 KeptHouse.target (I)I -/
noncomputable def cf_196_0 (v1 : Int32) (N : mz_N) : (Nat × Int32) := if (cf_104_0 N) = 0 then (if (cf_105_0 v1 0 15) = 0 then (0, (mz_gI N 53 v1)) else ((cf_105_0 v1 0 15), 0)) else ((cf_104_0 N), 0)
def cp_196_0 (v1 : Int32) (N : mz_N) : Prop := (cp_104_0 N) ∧ (((cf_104_0 N) = 0 → ((cp_105_0 v1 0 15) ∧ (((cf_105_0 v1 0 15) = 0 → (mz_ib v1 53)) ∧ (¬ ((cf_105_0 v1 0 15) = 0) → True)))) ∧ (¬ ((cf_104_0 N) = 0) → True))
/-! 195 KeptHouseLaw.target (LKeptHouse;I[J)I -/
noncomputable def cf_195_0 (v1 : Int32) (N : mz_N) (t : Nat) : (Int32 × mz_N × Nat) := if (cf_196_0 v1 N).1 = 0 then (0, mz_wL N 342 0 (((cf_196_0 v1 N).2).toInt64), t) else (if (cf_196_0 v1 N).1 = 1 then (1, N, t + 1) else (2, N, t + 1))
def cp_195_0 (v1 : Int32) (N : mz_N) (t : Nat) : Prop := (cp_196_0 v1 N) ∧ ((t < 1000) ∧ (((cf_196_0 v1 N).1 = 0 → True) ∧ (¬ ((cf_196_0 v1 N).1 = 0) → (((cf_196_0 v1 N).1 = 1 → True) ∧ (¬ ((cf_196_0 v1 N).1 = 1) → ((cf_196_0 v1 N).1 = 2))))))
/-! 200 KeptHouse$Books.hourNow ()I -/
noncomputable def cf_200_0 (N : mz_N) : (Int32) := (mz_irem ((N.1 208 0) / 10) 24)
def cp_200_0 (N : mz_N) : Prop := True
/-! 202 KeptHouse$Care.orderIsDue (I)Z -/
noncomputable def cf_202_0 (v1 : Int32) (N : mz_N) : (Bool) := if 0 < (N.1 115 5) then (if (mz_gI N 132 0) = v1 then true else false) else false
def cp_202_0 (v1 : Int32) (N : mz_N) : Prop := True
/-! 203 KeptHouse$Care.receiveOrder (LKeptHouse$Books;)I -/
noncomputable def cf_203_97 (v2 : Int32) (v4 : Int32) (N : mz_N) : ((Int32 × mz_N) ⊕ (Int32 × mz_N)) := (.inl ((v4 + 1), N))
def cp_203_97 (v2 : Int32) (v4 : Int32) (N : mz_N) : Prop := True
noncomputable def cq_203_68 (v2 : Int32) (s : Int32 × mz_N) : ((Int32 × mz_N) ⊕ (Int32 × mz_N)) := if s.1 < 3 then (cf_203_97 v2 s.1 (mz_yI s.2 (130 + s.1.toNatClampNeg) 1 (130 + s.1.toNatClampNeg) 0 (s.2.1 115 5))) else (.inr (v2, s.2))
def cd_203_68 (v2 : Int32) (s : Int32 × mz_N) : Prop := (s.1 < 3 → ((mz_ib s.1 3) ∧ ((mz_ib s.1 3) ∧ ((mz_cpk 1 0 (s.2.1 115 5) 8 8) ∧ (cp_203_97 v2 s.1 (mz_yI s.2 (130 + s.1.toNatClampNeg) 1 (130 + s.1.toNatClampNeg) 0 (s.2.1 115 5))))))) ∧ (¬ (s.1 < 3) → True)
noncomputable def cf_203_68 (v2 : Int32) (v4 : Int32) (N : mz_N) : (Int32 × mz_N) := mz_run (cq_203_68 v2) (v4, N)
def cp_203_68 (v2 : Int32) (v4 : Int32) (N : mz_N) : Prop := ∃ n, mz_ok (cq_203_68 v2) (cd_203_68 v2) n (v4, N)
noncomputable def cf_203_65 (v2 : Int32) (N : mz_N) : (Int32 × mz_N) := (cf_203_68 v2 0 N)
def cp_203_65 (v2 : Int32) (N : mz_N) : Prop := cp_203_68 v2 0 N
noncomputable def cf_203_41 (v2 : Int32) (v3 : Int32) (N : mz_N) : (Int32 × mz_N) := (cf_203_65 v2 (mz_pI (mz_pI N 208 4 ((N.1 208 4) + (3000 * v3))) 115 5 (((mz_pI N 208 4 ((N.1 208 4) + (3000 * v3))).1 115 5) - 1)))
def cp_203_41 (v2 : Int32) (v3 : Int32) (N : mz_N) : Prop := cp_203_65 v2 (mz_pI (mz_pI N 208 4 ((N.1 208 4) + (3000 * v3))) 115 5 (((mz_pI N 208 4 ((N.1 208 4) + (3000 * v3))).1 115 5) - 1))
noncomputable def cf_203_0 (N : mz_N) : (Int32 × mz_N) := (cf_203_41 (mz_gI N 130 0) (mz_gI N 131 0) (mz_wI N 127 (mz_gI N 130 0) (mz_imin 99 ((mz_gI N 127 (mz_gI N 130 0)) + (mz_gI N 131 0)))))
def cp_203_0 (N : mz_N) : Prop := (mz_ib (mz_gI N 130 0) 3) ∧ ((mz_ib (mz_gI N 130 0) 3) ∧ (cp_203_41 (mz_gI N 130 0) (mz_gI N 131 0) (mz_wI N 127 (mz_gI N 130 0) (mz_imin 99 ((mz_gI N 127 (mz_gI N 130 0)) + (mz_gI N 131 0))))))
/-! 204 KeptHouse$Care.visitedAt (II)I -/
noncomputable def cf_204_0 (v1 : Int32) (v2 : Int32) (N : mz_N) : (Int32) := if (mz_gI N 134 v1) < (mz_gI N 133 v1) then (if (mz_gI N (139 + v1.toNatClampNeg) (mz_gI N 134 v1)) = v2 then (mz_gI N (136 + v1.toNatClampNeg) (mz_gI N 134 v1)) else (-1)) else (-1)
def cp_204_0 (v1 : Int32) (v2 : Int32) (N : mz_N) : Prop := (mz_ib v1 2) ∧ ((mz_ib v1 2) ∧ (((mz_gI N 134 v1) < (mz_gI N 133 v1) → ((mz_ib v1 2) ∧ ((mz_ib (mz_gI N 134 v1) 6) ∧ (((mz_gI N (139 + v1.toNatClampNeg) (mz_gI N 134 v1)) = v2 → ((mz_ib v1 2) ∧ (mz_ib (mz_gI N 134 v1) 6))) ∧ (¬ ((mz_gI N (139 + v1.toNatClampNeg) (mz_gI N 134 v1)) = v2) → True))))) ∧ (¬ ((mz_gI N 134 v1) < (mz_gI N 133 v1)) → True)))
/-! 206 KeptHouse$Care.finish (IILKeptHouse$Books;)V -/
noncomputable def cf_206_78 (N : mz_N) : (mz_N) := N
def cp_206_78 (N : mz_N) : Prop := True
noncomputable def cf_206_39 (v4 : Int32) (N : mz_N) : (mz_N) := if v4 < 3 then (cf_206_78 (mz_wI (mz_wI (mz_wI N 127 v4 ((mz_gI N 127 v4) - 1)) 126 v4 0) 128 v4 0)) else (cf_206_78 N)
def cp_206_39 (v4 : Int32) (N : mz_N) : Prop := (v4 < 3 → ((mz_ib v4 3) ∧ ((mz_ib v4 3) ∧ ((mz_ib v4 3) ∧ ((mz_ib v4 3) ∧ (cp_206_78 (mz_wI (mz_wI (mz_wI N 127 v4 ((mz_gI N 127 v4) - 1)) 126 v4 0) 128 v4 0))))))) ∧ (¬ (v4 < 3) → (cp_206_78 N))
noncomputable def cf_206_0 (v1 : Int32) (v2 : Int32) (N : mz_N) : (mz_N) := (cf_206_39 (mz_gI (mz_pI (mz_wI (mz_wI N 134 v1 ((mz_gI N 134 v1) + 1)) 123 v2 0) 208 4 (((mz_wI (mz_wI N 134 v1 ((mz_gI N 134 v1) + 1)) 123 v2 0).1 208 4) + 500)) 120 v2) (mz_pI (mz_wI (mz_wI N 134 v1 ((mz_gI N 134 v1) + 1)) 123 v2 0) 208 4 (((mz_wI (mz_wI N 134 v1 ((mz_gI N 134 v1) + 1)) 123 v2 0).1 208 4) + 500)))
def cp_206_0 (v1 : Int32) (v2 : Int32) (N : mz_N) : Prop := (mz_ib v1 2) ∧ ((mz_ib v1 2) ∧ ((mz_ib v2 16) ∧ ((mz_ib v2 16) ∧ (cp_206_39 (mz_gI (mz_pI (mz_wI (mz_wI N 134 v1 ((mz_gI N 134 v1) + 1)) 123 v2 0) 208 4 (((mz_wI (mz_wI N 134 v1 ((mz_gI N 134 v1) + 1)) 123 v2 0).1 208 4) + 500)) 120 v2) (mz_pI (mz_wI (mz_wI N 134 v1 ((mz_gI N 134 v1) + 1)) 123 v2 0) 208 4 (((mz_wI (mz_wI N 134 v1 ((mz_gI N 134 v1) + 1)) 123 v2 0).1 208 4) + 500))))))
/-! 205 KeptHouse.finishVisit (II)Z -/
noncomputable def cf_205_57 (v2 : Int32) (N : mz_N) (b : Bool) : (Bool × mz_N) := (((cf_121_0 (cf_119_0 12 v2 N) b).1), (cf_121_0 (cf_119_0 12 v2 N) b).2)
def cp_205_57 (v2 : Int32) (N : mz_N) (b : Bool) : Prop := (cp_119_0 12 v2 N) ∧ (cp_121_0 (cf_119_0 12 v2 N) b)
noncomputable def cf_205_0 (v1 : Int32) (v2 : Int32) (N : mz_N) (b : Bool) : (Bool × mz_N) := if (mz_gI N 120 v2) < 3 then (cf_205_57 v2 (cf_119_0 11 (mz_gI N 120 v2) (cf_119_0 9 0 (cf_117_0 (cf_206_0 v1 v2 N)))) b) else (cf_205_57 v2 (cf_119_0 9 0 (cf_117_0 (cf_206_0 v1 v2 N))) b)
def cp_205_0 (v1 : Int32) (v2 : Int32) (N : mz_N) (b : Bool) : Prop := (mz_ib v2 16) ∧ ((cp_206_0 v1 v2 N) ∧ ((cp_119_0 9 0 (cf_117_0 (cf_206_0 v1 v2 N))) ∧ (((mz_gI N 120 v2) < 3 → ((cp_119_0 11 (mz_gI N 120 v2) (cf_119_0 9 0 (cf_117_0 (cf_206_0 v1 v2 N)))) ∧ (cp_205_57 v2 (cf_119_0 11 (mz_gI N 120 v2) (cf_119_0 9 0 (cf_117_0 (cf_206_0 v1 v2 N)))) b))) ∧ (¬ ((mz_gI N 120 v2) < 3) → (cp_205_57 v2 (cf_119_0 9 0 (cf_117_0 (cf_206_0 v1 v2 N))) b)))))
/-! 207 KeptHouse$Care.freeIfBack (II)V -/
noncomputable def cf_207_0 (v1 : Int32) (v2 : Int32) (N : mz_N) : (mz_N) := if 0 < (mz_gI N 133 v1) then (if (mz_gI N 141 v1) = v2 then (mz_wI (mz_wI N 133 v1 0) 134 v1 0) else N) else N
def cp_207_0 (v1 : Int32) (v2 : Int32) (N : mz_N) : Prop := (mz_ib v1 2) ∧ ((0 < (mz_gI N 133 v1) → ((mz_ib v1 2) ∧ (((mz_gI N 141 v1) = v2 → ((mz_ib v1 2) ∧ (mz_ib v1 2))) ∧ (¬ ((mz_gI N 141 v1) = v2) → True)))) ∧ (¬ (0 < (mz_gI N 133 v1)) → True))
/-! 201 KeptHouse.careForHouse ()Z -/
noncomputable def cf_201_64 (v1 : Int32) (N : mz_N) (b : Bool) : ((Int32 × mz_N) ⊕ (Bool × mz_N)) := if ((cf_121_0 N b).1) = true then (.inl ((v1 + 1), (cf_121_0 N b).2)) else (.inr (false, (cf_121_0 N b).2))
def cp_201_64 (v1 : Int32) (N : mz_N) (b : Bool) : Prop := cp_121_0 N b
noncomputable def cf_201_121 (v1 : Int32) (N : mz_N) (b : Bool) : ((Int32 × mz_N) ⊕ (Bool × mz_N)) := (.inl ((v1 + 1), (cf_207_0 v1 (N.1 208 0) N)))
def cp_201_121 (v1 : Int32) (N : mz_N) (b : Bool) : Prop := cp_207_0 v1 (N.1 208 0) N
noncomputable def cq_201_84 (b : Bool) (s : Int32 × mz_N) : ((Int32 × mz_N) ⊕ (Bool × mz_N)) := if s.1 < 2 then (if (cf_204_0 s.1 (s.2.1 208 0) s.2) = (-1) then (cf_201_121 s.1 s.2 b) else (if ((cf_205_0 s.1 (cf_204_0 s.1 (s.2.1 208 0) s.2) s.2 b).1) = true then (cf_201_121 s.1 ((cf_205_0 s.1 (cf_204_0 s.1 (s.2.1 208 0) s.2) s.2 b).2) b) else (.inr (false, (cf_205_0 s.1 (cf_204_0 s.1 (s.2.1 208 0) s.2) s.2 b).2)))) else (.inr (true, s.2))
def cd_201_84 (b : Bool) (s : Int32 × mz_N) : Prop := (s.1 < 2 → ((cp_204_0 s.1 (s.2.1 208 0) s.2) ∧ (((cf_204_0 s.1 (s.2.1 208 0) s.2) = (-1) → (cp_201_121 s.1 s.2 b)) ∧ (¬ ((cf_204_0 s.1 (s.2.1 208 0) s.2) = (-1)) → ((cp_205_0 s.1 (cf_204_0 s.1 (s.2.1 208 0) s.2) s.2 b) ∧ ((((cf_205_0 s.1 (cf_204_0 s.1 (s.2.1 208 0) s.2) s.2 b).1) = true → (cp_201_121 s.1 ((cf_205_0 s.1 (cf_204_0 s.1 (s.2.1 208 0) s.2) s.2 b).2) b)) ∧ (¬ (((cf_205_0 s.1 (cf_204_0 s.1 (s.2.1 208 0) s.2) s.2 b).1) = true) → True))))))) ∧ (¬ (s.1 < 2) → True)
noncomputable def cf_201_84 (v1 : Int32) (N : mz_N) (b : Bool) : (Bool × mz_N) := mz_run (cq_201_84 b) (v1, N)
def cp_201_84 (v1 : Int32) (N : mz_N) (b : Bool) : Prop := ∃ n, mz_ok (cq_201_84 b) (cd_201_84 b) n (v1, N)
noncomputable def cf_201_82 (N : mz_N) (b : Bool) : (Bool × mz_N) := (cf_201_84 0 N b)
def cp_201_82 (N : mz_N) (b : Bool) : Prop := cp_201_84 0 N b
noncomputable def cq_201_2 (b : Bool) (s : Int32 × mz_N) : ((Int32 × mz_N) ⊕ (Bool × mz_N)) := if s.1 < 8 then (if (cf_202_0 (s.2.1 208 0) s.2) = true then (cf_201_64 s.1 (cf_119_0 11 ((cf_203_0 s.2).1) (cf_119_0 9 0 (cf_117_0 ((cf_203_0 s.2).2)))) b) else (.inr (cf_201_82 s.2 b))) else (.inr (cf_201_82 s.2 b))
def cd_201_2 (b : Bool) (s : Int32 × mz_N) : Prop := (s.1 < 8 → (((cf_202_0 (s.2.1 208 0) s.2) = true → ((cp_203_0 s.2) ∧ ((cp_119_0 9 0 (cf_117_0 ((cf_203_0 s.2).2))) ∧ ((cp_119_0 11 ((cf_203_0 s.2).1) (cf_119_0 9 0 (cf_117_0 ((cf_203_0 s.2).2)))) ∧ (cp_201_64 s.1 (cf_119_0 11 ((cf_203_0 s.2).1) (cf_119_0 9 0 (cf_117_0 ((cf_203_0 s.2).2)))) b))))) ∧ (¬ ((cf_202_0 (s.2.1 208 0) s.2) = true) → (cp_201_82 s.2 b)))) ∧ (¬ (s.1 < 8) → (cp_201_82 s.2 b))
noncomputable def cf_201_2 (v1 : Int32) (N : mz_N) (b : Bool) : (Bool × mz_N) := mz_run (cq_201_2 b) (v1, N)
def cp_201_2 (v1 : Int32) (N : mz_N) (b : Bool) : Prop := ∃ n, mz_ok (cq_201_2 b) (cd_201_2 b) n (v1, N)
noncomputable def cf_201_0 (N : mz_N) (b : Bool) : (Bool × mz_N) := (cf_201_2 0 N b)
def cp_201_0 (N : mz_N) (b : Bool) : Prop := cp_201_2 0 N b
/-! 209 KeptHouse$Climate.stalePerCell (LKeptHouse$Plan;I)J -/
noncomputable def cf_209_0 (v2 : Int32) (N : mz_N) : (Int64) := (cf_159_0 (cf_158_0 69 v2 N) 1 (mz_gI N 19 v2))
def cp_209_0 (v2 : Int32) (N : mz_N) : Prop := (cp_158_0 69 v2 N) ∧ ((mz_ib v2 40) ∧ (cp_159_0 (cf_158_0 69 v2 N) 1 (mz_gI N 19 v2)))
/-! 210 KeptHouse$Climate.isDetected (LKeptHouse$Plan;I)Z -/
noncomputable def cf_210_0 (v2 : Int32) (N : mz_N) : (Bool) := if (mz_fZ N 65 8) = true then (if (20 * ((mz_gI N 19 v2).toInt64)) < (cf_158_0 71 v2 N) then true else false) else false
def cp_210_0 (v2 : Int32) (N : mz_N) : Prop := (mz_z01 (N.1 65 8)) ∧ (((mz_fZ N 65 8) = true → ((cp_158_0 71 v2 N) ∧ (mz_ib v2 40))) ∧ (¬ ((mz_fZ N 65 8) = true) → True))
/-! 211 KeptHouse$Climate.isAnyDetected (LKeptHouse$Plan;)Z -/
noncomputable def cq_211_2 (N : mz_N) (s : Int32) : ((Int32) ⊕ (Bool)) := if s < (N.1 2 7) then (if (mz_fZ N 65 8) = true then (if (cf_210_0 s N) = true then (.inr true) else (.inl ((s + 1)))) else (.inr false)) else (.inr false)
def cd_211_2 (N : mz_N) (s : Int32) : Prop := (s < (N.1 2 7) → ((mz_z01 (N.1 65 8)) ∧ (((mz_fZ N 65 8) = true → (cp_210_0 s N)) ∧ (¬ ((mz_fZ N 65 8) = true) → True)))) ∧ (¬ (s < (N.1 2 7)) → True)
noncomputable def cf_211_2 (v2 : Int32) (N : mz_N) : (Bool) := mz_run (cq_211_2 N) (v2)
def cp_211_2 (v2 : Int32) (N : mz_N) : Prop := ∃ n, mz_ok (cq_211_2 N) (cd_211_2 N) n (v2)
noncomputable def cf_211_0 (N : mz_N) : (Bool) := (cf_211_2 0 N)
def cp_211_0 (N : mz_N) : Prop := cp_211_2 0 N
/-! 212 KeptHouse$Supply.sumLoads ()I -/
noncomputable def cq_212_4 (N : mz_N) (s : Int32 × Int32) : ((Int32 × Int32) ⊕ (Int32)) := if s.2 < 11 then (.inl ((s.1 + (mz_gI N 58 s.2)), (s.2 + 1))) else (.inr s.1)
def cd_212_4 (N : mz_N) (s : Int32 × Int32) : Prop := (s.2 < 11 → (mz_ib s.2 11)) ∧ (¬ (s.2 < 11) → True)
noncomputable def cf_212_4 (v1 : Int32) (v2 : Int32) (N : mz_N) : (Int32) := mz_run (cq_212_4 N) (v1, v2)
def cp_212_4 (v1 : Int32) (v2 : Int32) (N : mz_N) : Prop := ∃ n, mz_ok (cq_212_4 N) (cd_212_4 N) n (v1, v2)
noncomputable def cf_212_0 (N : mz_N) : (Int32) := (cf_212_4 0 0 N)
def cp_212_0 (N : mz_N) : Prop := cp_212_4 0 0 N
/-! 215 KeptHouse$Program.tell (II)V -/
noncomputable def cf_215_66 (s1 : Int32) (s2 : Bool) (N : mz_N) : (mz_N) := mz_wI N 53 s1 (mz_b01 s2)
def cp_215_66 (s1 : Int32) (s2 : Bool) (N : mz_N) : Prop := mz_ib s1 53
noncomputable def cf_215_0 (v1 : Int32) (v2 : Int32) (N : mz_N) : (mz_N) := if v1 < 10 then (mz_wI N 53 v1 (mz_imax 50 (mz_imin 300 v2))) else (if v1 = 13 then (mz_wI N 53 v1 (mz_imax 0 (mz_imin 9 v2))) else (if v2 = 0 then (cf_215_66 v1 false N) else (cf_215_66 v1 true N)))
def cp_215_0 (v1 : Int32) (v2 : Int32) (N : mz_N) : Prop := (v1 < 10 → (mz_ib v1 53)) ∧ (¬ (v1 < 10) → ((v1 = 13 → (mz_ib v1 53)) ∧ (¬ (v1 = 13) → ((v2 = 0 → (cp_215_66 v1 false N)) ∧ (¬ (v2 = 0) → (cp_215_66 v1 true N))))))
/-! 216 KeptHouse$Program.pick (I)I -/
noncomputable def cf_216_44 (s1 : Int32) (s2 : Int32) (v1 : Int32) (N : mz_N) : (Int32 × mz_N) := ((v1 - 2), mz_wI N 54 s1 s2)
def cp_216_44 (s1 : Int32) (s2 : Int32) (v1 : Int32) (N : mz_N) : Prop := mz_ib s1 196
noncomputable def cf_216_0 (v1 : Int32) (N : mz_N) : (Int32 × mz_N) := if v1 < 3 then (0, N) else (if (mz_gI N 54 (v1 - 3)) = 0 then (cf_216_44 (v1 - 3) (mz_gI N 54 (v1 - 1)) v1 N) else (cf_216_44 (v1 - 3) (mz_gI N 54 (v1 - 2)) v1 N))
def cp_216_0 (v1 : Int32) (N : mz_N) : Prop := (v1 < 3 → True) ∧ (¬ (v1 < 3) → ((mz_ib (v1 - 3) 196) ∧ (((mz_gI N 54 (v1 - 3)) = 0 → ((mz_ib (v1 - 1) 196) ∧ (cp_216_44 (v1 - 3) (mz_gI N 54 (v1 - 1)) v1 N))) ∧ (¬ ((mz_gI N 54 (v1 - 3)) = 0) → ((mz_ib (v1 - 2) 196) ∧ (cp_216_44 (v1 - 3) (mz_gI N 54 (v1 - 2)) v1 N))))))
/-! 218 KeptHouse$Program.limit (J)I -/
noncomputable def cf_218_0 (v0 : Int64) : (Int32) := ((mz_lmax (-1000000000) (mz_lmin 1000000000 v0)).toInt32)
def cp_218_0 (v0 : Int64) : Prop := True
/-! 217 KeptHouse$Program.reckon (III)I -/
noncomputable def cf_217_0 (v0 : Int32) (v1 : Int32) (v2 : Int32) : (Int32) := if v0 = 42 then (cf_218_0 (v1.toInt64 * v2.toInt64)) else (if v0 = 43 then (cf_218_0 (v1.toInt64 + v2.toInt64)) else (if v0 = 45 then (cf_218_0 (v1.toInt64 - v2.toInt64)) else (if v0 = 60 then (if v1 < v2 then 1 else 0) else (if v2 < v1 then 1 else 0))))
def cp_217_0 (v0 : Int32) (v1 : Int32) (v2 : Int32) : Prop := True
/-! 214 KeptHouse$Program.doStep (III)I -/
noncomputable def cf_214_35 (s1 : Int32) (s2 : Int32) (v3 : Int32) (N : mz_N) : (Int32 × mz_N) := ((v3 + 1), mz_wI N 54 s1 s2)
def cp_214_35 (s1 : Int32) (s2 : Int32) (v3 : Int32) (N : mz_N) : Prop := mz_ib s1 196
noncomputable def cf_214_9 (v1 : Int32) (v2 : Int32) (v3 : Int32) (N : mz_N) : (Int32 × mz_N) := if v3 < 196 then (if v1 = 0 then (cf_214_35 v3 v2 v3 N) else (cf_214_35 v3 (mz_gI N 53 v2) v3 N)) else ((v3 + 1), N)
def cp_214_9 (v1 : Int32) (v2 : Int32) (v3 : Int32) (N : mz_N) : Prop := (v3 < 196 → ((v1 = 0 → (cp_214_35 v3 v2 v3 N)) ∧ (¬ (v1 = 0) → ((mz_ib v2 53) ∧ (cp_214_35 v3 (mz_gI N 53 v2) v3 N))))) ∧ (¬ (v3 < 196) → True)
noncomputable def cf_214_147 (v3 : Int32) (N : mz_N) : (Int32 × mz_N) := ((v3 - 1), N)
def cp_214_147 (v3 : Int32) (N : mz_N) : Prop := True
noncomputable def cf_214_0 (v1 : Int32) (v2 : Int32) (v3 : Int32) (N : mz_N) : (Int32 × mz_N) := if v1 = 0 then (cf_214_9 v1 v2 v3 N) else (if v1 = 1 then (cf_214_9 v1 v2 v3 N) else (if v3 < 1 then (0, N) else (if 196 < v3 then (0, N) else (if v1 = 2 then ((v3 - 1), (cf_215_0 v2 (mz_gI N 54 (v3 - 1)) N)) else (if v1 = 3 then (v3, mz_wI N 54 (v3 - 1) (-(mz_gI N 54 (v3 - 1)))) else (if v1 = 63 then (((cf_216_0 v3 N).1), (cf_216_0 v3 N).2) else (if v3 < 2 then (0, N) else (cf_214_147 v3 (mz_wI N 54 (v3 - 2) (cf_217_0 v1 (mz_gI N 54 (v3 - 2)) (mz_gI N 54 (v3 - 1))))))))))))
def cp_214_0 (v1 : Int32) (v2 : Int32) (v3 : Int32) (N : mz_N) : Prop := (v1 = 0 → (cp_214_9 v1 v2 v3 N)) ∧ (¬ (v1 = 0) → ((v1 = 1 → (cp_214_9 v1 v2 v3 N)) ∧ (¬ (v1 = 1) → ((v3 < 1 → True) ∧ (¬ (v3 < 1) → ((196 < v3 → True) ∧ (¬ (196 < v3) → ((v1 = 2 → ((mz_ib (v3 - 1) 196) ∧ (cp_215_0 v2 (mz_gI N 54 (v3 - 1)) N))) ∧ (¬ (v1 = 2) → ((v1 = 3 → ((mz_ib (v3 - 1) 196) ∧ (mz_ib (v3 - 1) 196))) ∧ (¬ (v1 = 3) → ((v1 = 63 → (cp_216_0 v3 N)) ∧ (¬ (v1 = 63) → ((v3 < 2 → True) ∧ (¬ (v3 < 2) → ((mz_ib (v3 - 2) 196) ∧ ((mz_ib (v3 - 1) 196) ∧ ((mz_ib (v3 - 2) 196) ∧ (cp_214_147 v3 (mz_wI N 54 (v3 - 2) (cf_217_0 v1 (mz_gI N 54 (v3 - 2)) (mz_gI N 54 (v3 - 1)))))))))))))))))))))))
/-! 213 KeptHouse$Program.perform ()V -/
noncomputable def cf_213_39 (v1 : Int32) (v2 : Int32) (N : mz_N) (b : Bool) : ((Int32 × Int32 × mz_N) ⊕ (mz_N)) := (.inl (v1, (v2 + 1), N))
def cp_213_39 (v1 : Int32) (v2 : Int32) (N : mz_N) (b : Bool) : Prop := True
noncomputable def cq_213_4 (b : Bool) (s : Int32 × Int32 × mz_N) : ((Int32 × Int32 × mz_N) ⊕ (mz_N)) := if s.2.1 < (s.2.2.1 (mz_lv b) 4) then (cf_213_39 ((cf_214_0 (mz_gI s.2.2 ((mz_lv b) + 2) s.2.1) (mz_gI s.2.2 ((mz_lv b) + 3) s.2.1) s.1 s.2.2).1) s.2.1 ((cf_214_0 (mz_gI s.2.2 ((mz_lv b) + 2) s.2.1) (mz_gI s.2.2 ((mz_lv b) + 3) s.2.1) s.1 s.2.2).2) b) else (.inr s.2.2)
def cd_213_4 (b : Bool) (s : Int32 × Int32 × mz_N) : Prop := (s.2.1 < (s.2.2.1 (mz_lv b) 4) → ((mz_ib s.2.1 196) ∧ ((mz_ib s.2.1 196) ∧ ((cp_214_0 (mz_gI s.2.2 ((mz_lv b) + 2) s.2.1) (mz_gI s.2.2 ((mz_lv b) + 3) s.2.1) s.1 s.2.2) ∧ (cp_213_39 ((cf_214_0 (mz_gI s.2.2 ((mz_lv b) + 2) s.2.1) (mz_gI s.2.2 ((mz_lv b) + 3) s.2.1) s.1 s.2.2).1) s.2.1 ((cf_214_0 (mz_gI s.2.2 ((mz_lv b) + 2) s.2.1) (mz_gI s.2.2 ((mz_lv b) + 3) s.2.1) s.1 s.2.2).2) b))))) ∧ (¬ (s.2.1 < (s.2.2.1 (mz_lv b) 4)) → True)
noncomputable def cf_213_4 (v1 : Int32) (v2 : Int32) (N : mz_N) (b : Bool) : (mz_N) := mz_run (cq_213_4 b) (v1, v2, N)
def cp_213_4 (v1 : Int32) (v2 : Int32) (N : mz_N) (b : Bool) : Prop := ∃ n, mz_ok (cq_213_4 b) (cd_213_4 b) n (v1, v2, N)
noncomputable def cf_213_0 (N : mz_N) (b : Bool) : (mz_N) := (cf_213_4 0 0 N b)
def cp_213_0 (N : mz_N) (b : Bool) : Prop := cp_213_4 0 0 N b
/-! 208 KeptHouse.followProgram (I)V -/
noncomputable def cf_208_139 (s1 : Int32) (s2 : Bool) (v1 : Int32) (v2 : Int32) (N : mz_N) (b : Bool) : ((Int32 × mz_N) ⊕ (mz_N)) := (.inl ((v2 + 1), mz_wI N 53 s1 (mz_b01 s2)))
def cp_208_139 (s1 : Int32) (s2 : Bool) (v1 : Int32) (v2 : Int32) (N : mz_N) (b : Bool) : Prop := mz_ib s1 53
noncomputable def cf_208_138 (s1 : Int32) (v1 : Int32) (v2 : Int32) (N : mz_N) (b : Bool) : ((Int32 × mz_N) ⊕ (mz_N)) := (cf_208_139 s1 false v1 v2 N b)
def cp_208_138 (s1 : Int32) (v1 : Int32) (v2 : Int32) (N : mz_N) (b : Bool) : Prop := cp_208_139 s1 false v1 v2 N b
noncomputable def cf_208_105 (s1 : Int32) (s2 : Int32) (v1 : Int32) (v2 : Int32) (v3 : Int32) (v4 : Bool) (N : mz_N) (b : Bool) : ((Int32 × mz_N) ⊕ (mz_N)) := if v4 = true then (if (cf_210_0 v3 (mz_wI N 53 s1 s2)) = true then (cf_208_139 (36 + v2) true v1 v2 (mz_wI N 53 s1 s2) b) else (cf_208_138 (36 + v2) v1 v2 (mz_wI N 53 s1 s2) b)) else (cf_208_138 (36 + v2) v1 v2 (mz_wI N 53 s1 s2) b)
def cp_208_105 (s1 : Int32) (s2 : Int32) (v1 : Int32) (v2 : Int32) (v3 : Int32) (v4 : Bool) (N : mz_N) (b : Bool) : Prop := (mz_ib s1 53) ∧ ((v4 = true → ((cp_210_0 v3 (mz_wI N 53 s1 s2)) ∧ (((cf_210_0 v3 (mz_wI N 53 s1 s2)) = true → (cp_208_139 (36 + v2) true v1 v2 (mz_wI N 53 s1 s2) b)) ∧ (¬ ((cf_210_0 v3 (mz_wI N 53 s1 s2)) = true) → (cp_208_138 (36 + v2) v1 v2 (mz_wI N 53 s1 s2) b))))) ∧ (¬ (v4 = true) → (cp_208_138 (36 + v2) v1 v2 (mz_wI N 53 s1 s2) b)))
noncomputable def cf_208_74 (s1 : Int32) (s2 : Int32) (v1 : Int32) (v2 : Int32) (v3 : Int32) (v4 : Bool) (N : mz_N) (b : Bool) : ((Int32 × mz_N) ⊕ (mz_N)) := if v4 = true then (cf_208_105 (26 + v2) ((cf_209_0 v3 (mz_wI N 53 s1 s2)).toInt32) v1 v2 v3 v4 (mz_wI N 53 s1 s2) b) else (cf_208_105 (26 + v2) 0 v1 v2 v3 v4 (mz_wI N 53 s1 s2) b)
def cp_208_74 (s1 : Int32) (s2 : Int32) (v1 : Int32) (v2 : Int32) (v3 : Int32) (v4 : Bool) (N : mz_N) (b : Bool) : Prop := (mz_ib s1 53) ∧ ((v4 = true → ((cp_209_0 v3 (mz_wI N 53 s1 s2)) ∧ (cp_208_105 (26 + v2) ((cf_209_0 v3 (mz_wI N 53 s1 s2)).toInt32) v1 v2 v3 v4 (mz_wI N 53 s1 s2) b))) ∧ (¬ (v4 = true) → (cp_208_105 (26 + v2) 0 v1 v2 v3 v4 (mz_wI N 53 s1 s2) b)))
noncomputable def cf_208_42 (s0 : Bool) (v1 : Int32) (v2 : Int32) (v3 : Int32) (N : mz_N) (b : Bool) : ((Int32 × mz_N) ⊕ (mz_N)) := if s0 = true then (cf_208_74 (16 + v2) ((cf_157_0 v3 N).toInt32) v1 v2 v3 s0 N b) else (cf_208_74 (16 + v2) 0 v1 v2 v3 s0 N b)
def cp_208_42 (s0 : Bool) (v1 : Int32) (v2 : Int32) (v3 : Int32) (N : mz_N) (b : Bool) : Prop := (s0 = true → ((cp_157_0 v3 N) ∧ (cp_208_74 (16 + v2) ((cf_157_0 v3 N).toInt32) v1 v2 v3 s0 N b))) ∧ (¬ (s0 = true) → (cp_208_74 (16 + v2) 0 v1 v2 v3 s0 N b))
noncomputable def cf_208_263 (s1 : Int32) (s2 : Bool) (N : mz_N) (b : Bool) : (mz_N) := (cf_213_0 (mz_wI N 53 s1 (mz_b01 s2)) b)
def cp_208_263 (s1 : Int32) (s2 : Bool) (N : mz_N) (b : Bool) : Prop := (mz_ib s1 53) ∧ (cp_213_0 (mz_wI N 53 s1 (mz_b01 s2)) b)
noncomputable def cf_208_228 (N : mz_N) (b : Bool) : (mz_N) := if (mz_fZ (mz_wI N 53 51 (cf_212_0 N)) 56 4) = true then (cf_208_263 52 true (mz_wI N 53 51 (cf_212_0 N)) b) else (cf_208_263 52 false (mz_wI N 53 51 (cf_212_0 N)) b)
def cp_208_228 (N : mz_N) (b : Bool) : Prop := (cp_212_0 N) ∧ ((mz_z01 ((mz_wI N 53 51 (cf_212_0 N)).1 56 4)) ∧ (((mz_fZ (mz_wI N 53 51 (cf_212_0 N)) 56 4) = true → (cp_208_263 52 true (mz_wI N 53 51 (cf_212_0 N)) b)) ∧ (¬ ((mz_fZ (mz_wI N 53 51 (cf_212_0 N)) 56 4) = true) → (cp_208_263 52 false (mz_wI N 53 51 (cf_212_0 N)) b))))
noncomputable def cf_208_196 (N : mz_N) (b : Bool) : (mz_N) := (cf_208_228 (mz_wI (mz_wI N 53 49 (mz_irem (N.1 208 0) 240)) 53 50 ((mz_wI N 53 49 (mz_irem (N.1 208 0) 240)).1 56 7)) b)
def cp_208_196 (N : mz_N) (b : Bool) : Prop := cp_208_228 (mz_wI (mz_wI N 53 49 (mz_irem (N.1 208 0) 240)) 53 50 ((mz_wI N 53 49 (mz_irem (N.1 208 0) 240)).1 56 7)) b
noncomputable def cf_208_171 (s1 : Int32) (s2 : Bool) (v1 : Int32) (N : mz_N) (b : Bool) : (mz_N) := (cf_208_196 (mz_wI (mz_wI (mz_wI N 53 s1 (mz_b01 s2)) 53 47 (mz_gI (mz_wI N 53 s1 (mz_b01 s2)) 66 v1)) 53 48 v1) b)
def cp_208_171 (s1 : Int32) (s2 : Bool) (v1 : Int32) (N : mz_N) (b : Bool) : Prop := (mz_ib s1 53) ∧ ((mz_ib v1 24) ∧ (cp_208_196 (mz_wI (mz_wI (mz_wI N 53 s1 (mz_b01 s2)) 53 47 (mz_gI (mz_wI N 53 s1 (mz_b01 s2)) 66 v1)) 53 48 v1) b))
noncomputable def cq_208_16 (v1 : Int32) (b : Bool) (s : Int32 × mz_N) : ((Int32 × mz_N) ⊕ (mz_N)) := if s.1 < 10 then (if (mz_gI s.2 38 s.1) = (-1) then (cf_208_42 false v1 s.1 (mz_gI s.2 38 s.1) s.2 b) else (cf_208_42 true v1 s.1 (mz_gI s.2 38 s.1) s.2 b)) else (if (cf_211_0 s.2) = true then (.inr (cf_208_171 46 true v1 s.2 b)) else (.inr (cf_208_171 46 false v1 s.2 b)))
def cd_208_16 (v1 : Int32) (b : Bool) (s : Int32 × mz_N) : Prop := (s.1 < 10 → ((mz_ib s.1 10) ∧ (((mz_gI s.2 38 s.1) = (-1) → (cp_208_42 false v1 s.1 (mz_gI s.2 38 s.1) s.2 b)) ∧ (¬ ((mz_gI s.2 38 s.1) = (-1)) → (cp_208_42 true v1 s.1 (mz_gI s.2 38 s.1) s.2 b))))) ∧ (¬ (s.1 < 10) → ((cp_211_0 s.2) ∧ (((cf_211_0 s.2) = true → (cp_208_171 46 true v1 s.2 b)) ∧ (¬ ((cf_211_0 s.2) = true) → (cp_208_171 46 false v1 s.2 b)))))
noncomputable def cf_208_16 (v1 : Int32) (v2 : Int32) (N : mz_N) (b : Bool) : (mz_N) := mz_run (cq_208_16 v1 b) (v2, N)
def cp_208_16 (v1 : Int32) (v2 : Int32) (N : mz_N) (b : Bool) : Prop := ∃ n, mz_ok (cq_208_16 v1 b) (cd_208_16 v1 b) n (v2, N)
noncomputable def cf_208_0 (v1 : Int32) (N : mz_N) (b : Bool) : (mz_N) := if (N.1 (mz_lv b) 5) = 0 then N else (cf_208_16 v1 0 N b)
def cp_208_0 (v1 : Int32) (N : mz_N) (b : Bool) : Prop := ((N.1 (mz_lv b) 5) = 0 → True) ∧ (¬ ((N.1 (mz_lv b) 5) = 0) → (cp_208_16 v1 0 N b))
/-! 222 KeptHouse$Plan.hasHeart (I)Z -/
noncomputable def cf_222_0 (v1 : Int32) (N : mz_N) : (Bool) := if v1 < 0 then false else (if v1 < 10 then (if (mz_gI N 38 v1) = (-1) then false else true) else false)
def cp_222_0 (v1 : Int32) (N : mz_N) : Prop := (v1 < 0 → True) ∧ (¬ (v1 < 0) → ((v1 < 10 → (mz_ib v1 10)) ∧ (¬ (v1 < 10) → True)))
/-! 221 KeptHouse$Plan.present (II)I -/
noncomputable def cf_221_0 (v1 : Int32) (v2 : Int32) (N : mz_N) : (Int32) := if (cf_222_0 v1 N) = true then (mz_gI N 40 ((v1 * 24) + v2)) else 0
def cp_221_0 (v1 : Int32) (v2 : Int32) (N : mz_N) : Prop := (cp_222_0 v1 N) ∧ (((cf_222_0 v1 N) = true → (mz_ib ((v1 * 24) + v2) 240)) ∧ (¬ ((cf_222_0 v1 N) = true) → True))
/-! 220 KeptHouse$Supply.setLoads (LKeptHouse$Plan;[II)V -/
noncomputable def cf_220_95 (s1 : Int32) (s2 : Int32) (s3 : Int32) (v3 : Int32) (v4 : Bool) (v5 : Int32) (N : mz_N) : ((Int32 × mz_N) ⊕ (mz_N)) := (.inl ((v5 + 1), mz_wI N 58 s1 (s2 + s3)))
def cp_220_95 (s1 : Int32) (s2 : Int32) (s3 : Int32) (v3 : Int32) (v4 : Bool) (v5 : Int32) (N : mz_N) : Prop := mz_ib s1 11
noncomputable def cf_220_61 (s0 : Bool) (v3 : Int32) (v4 : Bool) (v5 : Int32) (v6 : Int32) (N : mz_N) : ((Int32 × mz_N) ⊕ (mz_N)) := if s0 = true then (cf_220_95 v5 (15 * v6) (6 * (mz_gI N 39 v5)) v3 v4 v5 N) else (cf_220_95 v5 (15 * v6) 0 v3 v4 v5 N)
def cp_220_61 (s0 : Bool) (v3 : Int32) (v4 : Bool) (v5 : Int32) (v6 : Int32) (N : mz_N) : Prop := (s0 = true → ((mz_ib v5 10) ∧ (cp_220_95 v5 (15 * v6) (6 * (mz_gI N 39 v5)) v3 v4 v5 N))) ∧ (¬ (s0 = true) → (cp_220_95 v5 (15 * v6) 0 v3 v4 v5 N))
noncomputable def cf_220_60 (v3 : Int32) (v4 : Bool) (v5 : Int32) (v6 : Int32) (N : mz_N) : ((Int32 × mz_N) ⊕ (mz_N)) := (cf_220_61 false v3 v4 v5 v6 N)
def cp_220_60 (v3 : Int32) (v4 : Bool) (v5 : Int32) (v6 : Int32) (N : mz_N) : Prop := cp_220_61 false v3 v4 v5 v6 N
noncomputable def cf_220_192 (v5 : Int32) (N : mz_N) : ((Int32 × mz_N) ⊕ (mz_N)) := (.inl ((v5 + 1), N))
def cp_220_192 (v5 : Int32) (N : mz_N) : Prop := True
noncomputable def cq_220_152  (s : Int32 × mz_N) : ((Int32 × mz_N) ⊕ (mz_N)) := if s.1 < 11 then (if (mz_gI (mz_wI s.2 61 s.1 0) 60 s.1) = 1 then (cf_220_192 s.1 (mz_wI (mz_wI s.2 61 s.1 0) 58 s.1 0)) else (cf_220_192 s.1 (mz_wI s.2 61 s.1 0))) else (.inr s.2)
def cd_220_152  (s : Int32 × mz_N) : Prop := (s.1 < 11 → ((mz_ib s.1 11) ∧ ((mz_ib s.1 11) ∧ (((mz_gI (mz_wI s.2 61 s.1 0) 60 s.1) = 1 → ((mz_ib s.1 11) ∧ (cp_220_192 s.1 (mz_wI (mz_wI s.2 61 s.1 0) 58 s.1 0)))) ∧ (¬ ((mz_gI (mz_wI s.2 61 s.1 0) 60 s.1) = 1) → (cp_220_192 s.1 (mz_wI s.2 61 s.1 0))))))) ∧ (¬ (s.1 < 11) → True)
noncomputable def cf_220_152 (v5 : Int32) (N : mz_N) : (mz_N) := mz_run (cq_220_152 ) (v5, N)
def cp_220_152 (v5 : Int32) (N : mz_N) : Prop := ∃ n, mz_ok (cq_220_152 ) (cd_220_152 ) n (v5, N)
noncomputable def cf_220_147 (s1 : Int32) (s2 : Int32) (s3 : Int32) (N : mz_N) : (mz_N) := (cf_220_152 0 (mz_wI N 58 s1 (s2 + s3)))
def cp_220_147 (s1 : Int32) (s2 : Int32) (s3 : Int32) (N : mz_N) : Prop := (mz_ib s1 11) ∧ (cp_220_152 0 (mz_wI N 58 s1 (s2 + s3)))
noncomputable def cf_220_133 (s1 : Int32) (s2 : Int32) (s3 : Int32) (N : mz_N) : (mz_N) := if (mz_fZ N 56 9) = true then (cf_220_147 s1 (s2 + s3) 40 N) else (cf_220_147 s1 (s2 + s3) 0 N)
def cp_220_133 (s1 : Int32) (s2 : Int32) (s3 : Int32) (N : mz_N) : Prop := (mz_z01 (N.1 56 9)) ∧ (((mz_fZ N 56 9) = true → (cp_220_147 s1 (s2 + s3) 40 N)) ∧ (¬ ((mz_fZ N 56 9) = true) → (cp_220_147 s1 (s2 + s3) 0 N)))
noncomputable def cq_220_22 (v3 : Int32) (v4 : Bool) (s : Int32 × mz_N) : ((Int32 × mz_N) ⊕ (mz_N)) := if s.1 < 10 then (if 0 < (cf_221_0 s.1 v3 s.2) then (if v4 = true then (if (mz_gI s.2 53 10) = 1 then (cf_220_61 true v3 v4 s.1 (cf_221_0 s.1 v3 s.2) s.2) else (cf_220_60 v3 v4 s.1 (cf_221_0 s.1 v3 s.2) s.2)) else (cf_220_60 v3 v4 s.1 (cf_221_0 s.1 v3 s.2) s.2)) else (cf_220_60 v3 v4 s.1 (cf_221_0 s.1 v3 s.2) s.2)) else (if 0 < (s.2.1 56 13) then (.inr (cf_220_133 10 (20 + (5 * (mz_gI s.2 53 13))) 30 s.2)) else (.inr (cf_220_133 10 (20 + (5 * (mz_gI s.2 53 13))) 0 s.2)))
def cd_220_22 (v3 : Int32) (v4 : Bool) (s : Int32 × mz_N) : Prop := (s.1 < 10 → ((cp_221_0 s.1 v3 s.2) ∧ ((0 < (cf_221_0 s.1 v3 s.2) → ((v4 = true → (((mz_gI s.2 53 10) = 1 → (cp_220_61 true v3 v4 s.1 (cf_221_0 s.1 v3 s.2) s.2)) ∧ (¬ ((mz_gI s.2 53 10) = 1) → (cp_220_60 v3 v4 s.1 (cf_221_0 s.1 v3 s.2) s.2)))) ∧ (¬ (v4 = true) → (cp_220_60 v3 v4 s.1 (cf_221_0 s.1 v3 s.2) s.2)))) ∧ (¬ (0 < (cf_221_0 s.1 v3 s.2)) → (cp_220_60 v3 v4 s.1 (cf_221_0 s.1 v3 s.2) s.2))))) ∧ (¬ (s.1 < 10) → ((0 < (s.2.1 56 13) → (cp_220_133 10 (20 + (5 * (mz_gI s.2 53 13))) 30 s.2)) ∧ (¬ (0 < (s.2.1 56 13)) → (cp_220_133 10 (20 + (5 * (mz_gI s.2 53 13))) 0 s.2))))
noncomputable def cf_220_22 (v3 : Int32) (v4 : Bool) (v5 : Int32) (N : mz_N) : (mz_N) := mz_run (cq_220_22 v3 v4) (v5, N)
def cp_220_22 (v3 : Int32) (v4 : Bool) (v5 : Int32) (N : mz_N) : Prop := ∃ n, mz_ok (cq_220_22 v3 v4) (cd_220_22 v3 v4) n (v5, N)
noncomputable def cf_220_17 (s0 : Bool) (v3 : Int32) (N : mz_N) : (mz_N) := (cf_220_22 v3 s0 0 N)
def cp_220_17 (s0 : Bool) (v3 : Int32) (N : mz_N) : Prop := cp_220_22 v3 s0 0 N
noncomputable def cf_220_12 (v3 : Int32) (N : mz_N) : (mz_N) := (cf_220_17 true v3 N)
def cp_220_12 (v3 : Int32) (N : mz_N) : Prop := cp_220_17 true v3 N
noncomputable def cf_220_0 (v3 : Int32) (N : mz_N) : (mz_N) := if v3 < 7 then (cf_220_12 v3 N) else (if v3 < 18 then (cf_220_17 false v3 N) else (cf_220_12 v3 N))
def cp_220_0 (v3 : Int32) (N : mz_N) : Prop := (v3 < 7 → (cp_220_12 v3 N)) ∧ (¬ (v3 < 7) → ((v3 < 18 → (cp_220_17 false v3 N)) ∧ (¬ (v3 < 18) → (cp_220_12 v3 N))))
/-! 223 KeptHouse$Supply.chargeUp ()V -/
noncomputable def cf_223_27 (N : mz_N) : (mz_N) := N
def cp_223_27 (N : mz_N) : Prop := True
noncomputable def cf_223_0 (N : mz_N) : (mz_N) := (cf_223_27 (mz_pI (mz_pI (mz_pI N 56 5 (mz_b01 false)) 56 1 (mz_imin 3000 (((mz_pI N 56 5 (mz_b01 false)).1 56 1) + 30))) 56 3 0))
def cp_223_0 (N : mz_N) : Prop := cp_223_27 (mz_pI (mz_pI (mz_pI N 56 5 (mz_b01 false)) 56 1 (mz_imin 3000 (((mz_pI N 56 5 (mz_b01 false)).1 56 1) + 30))) 56 3 0)
/-! 224 KeptHouse$Care.isFit (I)Z -/
noncomputable def cf_224_0 (v1 : Int32) (N : mz_N) : (Bool) := if (mz_gI N 128 v1) = 0 then true else false
def cp_224_0 (v1 : Int32) (N : mz_N) : Prop := mz_ib v1 3
/-! 226 KeptHouse$Supply.shedOne ()V -/
noncomputable def cf_226_47 (v1 : Int32) (v2 : Int32) (N : mz_N) : ((Int32 × Int32) ⊕ (mz_N)) := (.inl (v1, (v2 + 1)))
def cp_226_47 (v1 : Int32) (v2 : Int32) (N : mz_N) : Prop := True
noncomputable def cf_226_45 (v2 : Int32) (N : mz_N) : ((Int32 × Int32) ⊕ (mz_N)) := (cf_226_47 v2 v2 N)
def cp_226_45 (v2 : Int32) (N : mz_N) : Prop := cp_226_47 v2 v2 N
noncomputable def cq_226_4 (N : mz_N) (s : Int32 × Int32) : ((Int32 × Int32) ⊕ (mz_N)) := if s.2 < 11 then (if 0 < (mz_gI N 58 s.2) then (if s.1 = (-1) then (cf_226_45 s.2 N) else (if (mz_gI N 63 s.2) < (mz_gI N 63 s.1) then (cf_226_47 s.1 s.2 N) else (cf_226_45 s.2 N))) else (cf_226_47 s.1 s.2 N)) else (if s.1 = (-1) then (.inr N) else (.inr (mz_wI (mz_wI N 58 s.1 0) 61 s.1 1)))
def cd_226_4 (N : mz_N) (s : Int32 × Int32) : Prop := (s.2 < 11 → ((mz_ib s.2 11) ∧ ((0 < (mz_gI N 58 s.2) → ((s.1 = (-1) → (cp_226_45 s.2 N)) ∧ (¬ (s.1 = (-1)) → ((mz_ib s.2 11) ∧ ((mz_ib s.1 11) ∧ (((mz_gI N 63 s.2) < (mz_gI N 63 s.1) → (cp_226_47 s.1 s.2 N)) ∧ (¬ ((mz_gI N 63 s.2) < (mz_gI N 63 s.1)) → (cp_226_45 s.2 N)))))))) ∧ (¬ (0 < (mz_gI N 58 s.2)) → (cp_226_47 s.1 s.2 N))))) ∧ (¬ (s.2 < 11) → ((s.1 = (-1) → True) ∧ (¬ (s.1 = (-1)) → ((mz_ib s.1 11) ∧ (mz_ib s.1 11)))))
noncomputable def cf_226_4 (v1 : Int32) (v2 : Int32) (N : mz_N) : (mz_N) := mz_run (cq_226_4 N) (v1, v2)
def cp_226_4 (v1 : Int32) (v2 : Int32) (N : mz_N) : Prop := ∃ n, mz_ok (cq_226_4 N) (cd_226_4 N) n (v1, v2)
noncomputable def cf_226_0 (N : mz_N) : (mz_N) := (cf_226_4 (-1) 0 N)
def cp_226_0 (N : mz_N) : Prop := cp_226_4 (-1) 0 N
/-! 225 KeptHouse$Supply.liveOnCharge (Z)V -/
noncomputable def cf_225_101 (v2 : Int32) (N : mz_N) : (mz_N) := mz_pI N 56 1 ((N.1 56 1) - (mz_imax 0 ((cf_212_0 N) - v2)))
def cp_225_101 (v2 : Int32) (N : mz_N) : Prop := cp_212_0 N
noncomputable def cq_225_72 (v2 : Int32) (s : Int32 × mz_N) : ((Int32 × mz_N) ⊕ (mz_N)) := if s.1 < 11 then (if (v2 + (s.2.1 56 1)) < (cf_212_0 s.2) then (.inl ((s.1 + 1), (cf_226_0 s.2))) else (.inr (cf_225_101 v2 s.2))) else (.inr (cf_225_101 v2 s.2))
def cd_225_72 (v2 : Int32) (s : Int32 × mz_N) : Prop := (s.1 < 11 → ((cp_212_0 s.2) ∧ (((v2 + (s.2.1 56 1)) < (cf_212_0 s.2) → (cp_226_0 s.2)) ∧ (¬ ((v2 + (s.2.1 56 1)) < (cf_212_0 s.2)) → (cp_225_101 v2 s.2))))) ∧ (¬ (s.1 < 11) → (cp_225_101 v2 s.2))
noncomputable def cf_225_72 (v2 : Int32) (v3 : Int32) (N : mz_N) : (mz_N) := mz_run (cq_225_72 v2) (v3, N)
def cp_225_72 (v2 : Int32) (v3 : Int32) (N : mz_N) : Prop := ∃ n, mz_ok (cq_225_72 v2) (cd_225_72 v2) n (v3, N)
noncomputable def cf_225_60 (v2 : Int32) (N : mz_N) : (mz_N) := (cf_225_72 v2 0 (mz_pI N 56 3 ((N.1 56 3) + 1)))
def cp_225_60 (v2 : Int32) (N : mz_N) : Prop := cp_225_72 v2 0 (mz_pI N 56 3 ((N.1 56 3) + 1))
noncomputable def cf_225_42 (s0 : Int32) (N : mz_N) : (mz_N) := if (mz_fZ N 56 5) = true then (cf_225_60 s0 (mz_pI N 56 2 ((N.1 56 2) - 1))) else (cf_225_60 s0 N)
def cp_225_42 (s0 : Int32) (N : mz_N) : Prop := (mz_z01 (N.1 56 5)) ∧ (((mz_fZ N 56 5) = true → (cp_225_60 s0 (mz_pI N 56 2 ((N.1 56 2) - 1)))) ∧ (¬ ((mz_fZ N 56 5) = true) → (cp_225_60 s0 N)))
noncomputable def cf_225_25 (s1 : Bool) (N : mz_N) : (mz_N) := if (mz_fZ (mz_pI N 56 5 (mz_b01 s1)) 56 5) = true then (cf_225_42 150 (mz_pI N 56 5 (mz_b01 s1))) else (cf_225_42 0 (mz_pI N 56 5 (mz_b01 s1)))
def cp_225_25 (s1 : Bool) (N : mz_N) : Prop := (mz_z01 ((mz_pI N 56 5 (mz_b01 s1)).1 56 5)) ∧ (((mz_fZ (mz_pI N 56 5 (mz_b01 s1)) 56 5) = true → (cp_225_42 150 (mz_pI N 56 5 (mz_b01 s1)))) ∧ (¬ ((mz_fZ (mz_pI N 56 5 (mz_b01 s1)) 56 5) = true) → (cp_225_42 0 (mz_pI N 56 5 (mz_b01 s1)))))
noncomputable def cf_225_24 (N : mz_N) : (mz_N) := (cf_225_25 false N)
def cp_225_24 (N : mz_N) : Prop := cp_225_25 false N
noncomputable def cf_225_0 (v1 : Bool) (N : mz_N) : (mz_N) := if (N.1 56 3) < 2 then (cf_225_24 N) else (if 0 < (N.1 56 2) then (if v1 = true then (cf_225_25 true N) else (cf_225_24 N)) else (cf_225_24 N))
def cp_225_0 (v1 : Bool) (N : mz_N) : Prop := ((N.1 56 3) < 2 → (cp_225_24 N)) ∧ (¬ ((N.1 56 3) < 2) → ((0 < (N.1 56 2) → ((v1 = true → (cp_225_25 true N)) ∧ (¬ (v1 = true) → (cp_225_24 N)))) ∧ (¬ (0 < (N.1 56 2)) → (cp_225_24 N))))
/-! 227 KeptHouse$Supply.isLive (I)Z -/
noncomputable def cf_227_0 (v1 : Int32) (N : mz_N) : (Bool) := if (mz_gI N 60 v1) = 0 then (if (mz_gI N 61 v1) = 0 then true else false) else false
def cp_227_0 (v1 : Int32) (N : mz_N) : Prop := (mz_ib v1 11) ∧ (((mz_gI N 60 v1) = 0 → (mz_ib v1 11)) ∧ (¬ ((mz_gI N 60 v1) = 0) → True))
/-! 228 KeptHouse$Supply.heatCircuit (I)V -/
noncomputable def cf_228_84 (v1 : Int32) (N : mz_N) : (mz_N) := if (mz_gI N 59 v1) < 50 then N else (mz_wI N 60 v1 1)
def cp_228_84 (v1 : Int32) (N : mz_N) : Prop := (mz_ib v1 11) ∧ (((mz_gI N 59 v1) < 50 → True) ∧ (¬ ((mz_gI N 59 v1) < 50) → (mz_ib v1 11)))
noncomputable def cf_228_59 (v1 : Int32) (N : mz_N) : (mz_N) := (cf_228_84 v1 N)
def cp_228_59 (v1 : Int32) (N : mz_N) : Prop := cp_228_84 v1 N
noncomputable def cf_228_62 (v1 : Int32) (N : mz_N) : (mz_N) := (cf_228_84 v1 (mz_wI N 59 v1 (mz_imax 0 ((mz_gI N 59 v1) - 2))))
def cp_228_62 (v1 : Int32) (N : mz_N) : Prop := (mz_ib v1 11) ∧ ((mz_ib v1 11) ∧ (cp_228_84 v1 (mz_wI N 59 v1 (mz_imax 0 ((mz_gI N 59 v1) - 2)))))
noncomputable def cf_228_0 (v1 : Int32) (N : mz_N) : (mz_N) := if 0 < ((mz_gI N 58 v1) - (mz_gI N 62 v1)) then (if 0 < (mz_gI N 62 v1) then (cf_228_59 v1 (mz_wI N 59 v1 ((mz_gI N 59 v1) + (1 + ((10 * ((mz_gI N 58 v1) - (mz_gI N 62 v1))) / (mz_gI N 62 v1)))))) else (cf_228_62 v1 N)) else (cf_228_62 v1 N)
def cp_228_0 (v1 : Int32) (N : mz_N) : Prop := (mz_ib v1 11) ∧ ((mz_ib v1 11) ∧ ((0 < ((mz_gI N 58 v1) - (mz_gI N 62 v1)) → ((mz_ib v1 11) ∧ ((0 < (mz_gI N 62 v1) → ((mz_ib v1 11) ∧ ((mz_ib v1 11) ∧ ((¬ (mz_gI N 62 v1) = 0) ∧ ((mz_ib v1 11) ∧ (cp_228_59 v1 (mz_wI N 59 v1 ((mz_gI N 59 v1) + (1 + ((10 * ((mz_gI N 58 v1) - (mz_gI N 62 v1))) / (mz_gI N 62 v1))))))))))) ∧ (¬ (0 < (mz_gI N 62 v1)) → (cp_228_62 v1 N))))) ∧ (¬ (0 < ((mz_gI N 58 v1) - (mz_gI N 62 v1))) → (cp_228_62 v1 N))))
/-! 219 KeptHouse.supplyPower (I)V -/
noncomputable def cf_219_108 (v2 : Int32) (N : mz_N) : ((Int32 × mz_N) ⊕ (mz_N)) := (.inl ((v2 + 1), N))
def cp_219_108 (v2 : Int32) (N : mz_N) : Prop := True
noncomputable def cq_219_69  (s : Int32 × mz_N) : ((Int32 × mz_N) ⊕ (mz_N)) := if s.1 < 11 then (cf_219_108 s.1 (mz_wI (cf_228_0 s.1 s.2) 211 s.1 ((mz_gI (cf_228_0 s.1 s.2) 211 s.1) + (mz_gI (cf_228_0 s.1 s.2) 58 s.1)))) else (.inr s.2)
def cd_219_69  (s : Int32 × mz_N) : Prop := (s.1 < 11 → ((cp_228_0 s.1 s.2) ∧ ((mz_ib s.1 11) ∧ ((mz_ib s.1 11) ∧ ((mz_ib s.1 11) ∧ (cp_219_108 s.1 (mz_wI (cf_228_0 s.1 s.2) 211 s.1 ((mz_gI (cf_228_0 s.1 s.2) 211 s.1) + (mz_gI (cf_228_0 s.1 s.2) 58 s.1))))))))) ∧ (¬ (s.1 < 11) → True)
noncomputable def cf_219_69 (v2 : Int32) (N : mz_N) : (mz_N) := mz_run (cq_219_69 ) (v2, N)
def cp_219_69 (v2 : Int32) (N : mz_N) : Prop := ∃ n, mz_ok (cq_219_69 ) (cd_219_69 ) n (v2, N)
noncomputable def cf_219_51 (N : mz_N) : (mz_N) := (cf_219_69 0 (mz_pI N 56 6 (mz_b01 (cf_227_0 10 N))))
def cp_219_51 (N : mz_N) : Prop := (cp_227_0 10 N) ∧ (cp_219_69 0 (mz_pI N 56 6 (mz_b01 (cf_227_0 10 N))))
noncomputable def cf_219_0 (v1 : Int32) (N : mz_N) : (mz_N) := if (mz_fZ (cf_220_0 v1 N) 56 4) = true then (cf_219_51 (cf_223_0 (cf_220_0 v1 N))) else (cf_219_51 (cf_225_0 (cf_224_0 2 (cf_220_0 v1 N)) (cf_220_0 v1 N)))
def cp_219_0 (v1 : Int32) (N : mz_N) : Prop := (cp_220_0 v1 N) ∧ ((mz_z01 ((cf_220_0 v1 N).1 56 4)) ∧ (((mz_fZ (cf_220_0 v1 N) 56 4) = true → ((cp_223_0 (cf_220_0 v1 N)) ∧ (cp_219_51 (cf_223_0 (cf_220_0 v1 N))))) ∧ (¬ ((mz_fZ (cf_220_0 v1 N) 56 4) = true) → ((cp_224_0 2 (cf_220_0 v1 N)) ∧ ((cp_225_0 (cf_224_0 2 (cf_220_0 v1 N)) (cf_220_0 v1 N)) ∧ (cp_219_51 (cf_225_0 (cf_224_0 2 (cf_220_0 v1 N)) (cf_220_0 v1 N))))))))
/-! 231 KeptHouse$Supply.lot (II)I -/
noncomputable def cf_231_0 (v1 : Int32) (v2 : Int32) (N : mz_N) : (Int32) := ((mz_lrem (mz_lushr (((((((N.2 56 15) + ((-7046029254386353131) * (((16 * v1.toInt64) + v2.toInt64) + 1))) ^^^ (mz_lushr ((N.2 56 15) + ((-7046029254386353131) * (((16 * v1.toInt64) + v2.toInt64) + 1))) 30)) * (-4658895280553007687)) ^^^ (mz_lushr ((((N.2 56 15) + ((-7046029254386353131) * (((16 * v1.toInt64) + v2.toInt64) + 1))) ^^^ (mz_lushr ((N.2 56 15) + ((-7046029254386353131) * (((16 * v1.toInt64) + v2.toInt64) + 1))) 30)) * (-4658895280553007687)) 27)) * (-7723592293110705685)) ^^^ (mz_lushr ((((((N.2 56 15) + ((-7046029254386353131) * (((16 * v1.toInt64) + v2.toInt64) + 1))) ^^^ (mz_lushr ((N.2 56 15) + ((-7046029254386353131) * (((16 * v1.toInt64) + v2.toInt64) + 1))) 30)) * (-4658895280553007687)) ^^^ (mz_lushr ((((N.2 56 15) + ((-7046029254386353131) * (((16 * v1.toInt64) + v2.toInt64) + 1))) ^^^ (mz_lushr ((N.2 56 15) + ((-7046029254386353131) * (((16 * v1.toInt64) + v2.toInt64) + 1))) 30)) * (-4658895280553007687)) 27)) * (-7723592293110705685)) 31)) 33) 100).toInt32)
def cp_231_0 (v1 : Int32) (v2 : Int32) (N : mz_N) : Prop := True
/-! 230 KeptHouse$Supply.drawWater (III)I -/
noncomputable def cf_230_120 (v5 : Int32) (N : mz_N) : (Int32 × mz_N) := (v5, N)
def cp_230_120 (v5 : Int32) (N : mz_N) : Prop := True
noncomputable def cf_230_84 (s1 : Bool) (v1 : Int32) (v5 : Int32) (N : mz_N) : (Int32 × mz_N) := (cf_230_120 v5 (mz_pI (mz_pI (mz_pI N 56 10 (mz_b01 s1)) 56 7 (((mz_pI N 56 10 (mz_b01 s1)).1 56 7) - v5)) 56 11 (mz_imax 0 (((mz_pI (mz_pI N 56 10 (mz_b01 s1)) 56 7 (((mz_pI N 56 10 (mz_b01 s1)).1 56 7) - v5)).1 56 11) - (40 * (mz_gI (mz_pI (mz_pI N 56 10 (mz_b01 s1)) 56 7 (((mz_pI N 56 10 (mz_b01 s1)).1 56 7) - v5)) 64 v1))))))
def cp_230_84 (s1 : Bool) (v1 : Int32) (v5 : Int32) (N : mz_N) : Prop := (mz_ib v1 10) ∧ (cp_230_120 v5 (mz_pI (mz_pI (mz_pI N 56 10 (mz_b01 s1)) 56 7 (((mz_pI N 56 10 (mz_b01 s1)).1 56 7) - v5)) 56 11 (mz_imax 0 (((mz_pI (mz_pI N 56 10 (mz_b01 s1)) 56 7 (((mz_pI N 56 10 (mz_b01 s1)).1 56 7) - v5)).1 56 11) - (40 * (mz_gI (mz_pI (mz_pI N 56 10 (mz_b01 s1)) 56 7 (((mz_pI N 56 10 (mz_b01 s1)).1 56 7) - v5)) 64 v1))))))
noncomputable def cf_230_79 (v1 : Int32) (v5 : Int32) (N : mz_N) : (Int32 × mz_N) := (cf_230_84 true v1 v5 N)
def cp_230_79 (v1 : Int32) (v5 : Int32) (N : mz_N) : Prop := cp_230_84 true v1 v5 N
noncomputable def cf_230_53 (v1 : Int32) (v4 : Int32) (N : mz_N) : (Int32 × mz_N) := if (mz_fZ N 56 10) = true then (cf_230_79 v1 (v4 + (mz_gI N 64 v1)) N) else (if (v4 + (mz_gI N 64 v1)) < 10 then (cf_230_79 v1 (v4 + (mz_gI N 64 v1)) N) else (cf_230_84 false v1 (v4 + (mz_gI N 64 v1)) N))
def cp_230_53 (v1 : Int32) (v4 : Int32) (N : mz_N) : Prop := (mz_ib v1 10) ∧ ((mz_z01 (N.1 56 10)) ∧ (((mz_fZ N 56 10) = true → (cp_230_79 v1 (v4 + (mz_gI N 64 v1)) N)) ∧ (¬ ((mz_fZ N 56 10) = true) → (((v4 + (mz_gI N 64 v1)) < 10 → (cp_230_79 v1 (v4 + (mz_gI N 64 v1)) N)) ∧ (¬ ((v4 + (mz_gI N 64 v1)) < 10) → (cp_230_84 false v1 (v4 + (mz_gI N 64 v1)) N))))))
noncomputable def cf_230_0 (v1 : Int32) (v2 : Int32) (v3 : Int32) (N : mz_N) : (Int32 × mz_N) := if v2 = 0 then (0, mz_wI N 64 v1 0) else (if (cf_231_0 v3 v1 (mz_wI N 64 v1 0)) < (4 * v2) then (cf_230_53 v1 (mz_imin 6 ((mz_wI N 64 v1 0).1 56 7)) (mz_wI (mz_wI N 64 v1 0) 64 v1 (mz_imin 4 (((mz_wI N 64 v1 0).1 56 7) - (mz_imin 6 ((mz_wI N 64 v1 0).1 56 7)))))) else (0, mz_wI N 64 v1 0))
def cp_230_0 (v1 : Int32) (v2 : Int32) (v3 : Int32) (N : mz_N) : Prop := (mz_ib v1 10) ∧ ((v2 = 0 → True) ∧ (¬ (v2 = 0) → (((cf_231_0 v3 v1 (mz_wI N 64 v1 0)) < (4 * v2) → ((mz_ib v1 10) ∧ (cp_230_53 v1 (mz_imin 6 ((mz_wI N 64 v1 0).1 56 7)) (mz_wI (mz_wI N 64 v1 0) 64 v1 (mz_imin 4 (((mz_wI N 64 v1 0).1 56 7) - (mz_imin 6 ((mz_wI N 64 v1 0).1 56 7)))))))) ∧ (¬ ((cf_231_0 v3 v1 (mz_wI N 64 v1 0)) < (4 * v2)) → True))))
/-! 232 KeptHouse$Supply.pumpUp (Z)V -/
noncomputable def cf_232_93 (s1 : Bool) (N : mz_N) : (mz_N) := mz_pI N 56 8 (mz_b01 s1)
def cp_232_93 (s1 : Bool) (N : mz_N) : Prop := True
noncomputable def cf_232_77 (N : mz_N) : (mz_N) := if (N.1 56 7) < 2000 then (cf_232_93 true N) else (cf_232_93 false N)
def cp_232_77 (N : mz_N) : Prop := ((N.1 56 7) < 2000 → (cp_232_93 true N)) ∧ (¬ ((N.1 56 7) < 2000) → (cp_232_93 false N))
noncomputable def cf_232_50 (s1 : Bool) (N : mz_N) : (mz_N) := if (mz_fZ (mz_pI N 56 9 (mz_b01 s1)) 56 9) = true then (cf_232_77 (mz_pI (mz_pI N 56 9 (mz_b01 s1)) 56 7 (mz_imin 2000 (((mz_pI N 56 9 (mz_b01 s1)).1 56 7) + 60)))) else (mz_pI N 56 9 (mz_b01 s1))
def cp_232_50 (s1 : Bool) (N : mz_N) : Prop := (mz_z01 ((mz_pI N 56 9 (mz_b01 s1)).1 56 9)) ∧ (((mz_fZ (mz_pI N 56 9 (mz_b01 s1)) 56 9) = true → (cp_232_77 (mz_pI (mz_pI N 56 9 (mz_b01 s1)) 56 7 (mz_imin 2000 (((mz_pI N 56 9 (mz_b01 s1)).1 56 7) + 60))))) ∧ (¬ ((mz_fZ (mz_pI N 56 9 (mz_b01 s1)) 56 9) = true) → True))
noncomputable def cf_232_49 (N : mz_N) : (mz_N) := (cf_232_50 false N)
def cp_232_49 (N : mz_N) : Prop := cp_232_50 false N
noncomputable def cf_232_23 (s1 : Bool) (v1 : Bool) (N : mz_N) : (mz_N) := if (mz_fZ (mz_pI N 56 8 (mz_b01 s1)) 56 8) = true then (if v1 = true then (if (mz_fZ (mz_pI N 56 8 (mz_b01 s1)) 56 6) = true then (cf_232_50 true (mz_pI N 56 8 (mz_b01 s1))) else (cf_232_49 (mz_pI N 56 8 (mz_b01 s1)))) else (cf_232_49 (mz_pI N 56 8 (mz_b01 s1)))) else (cf_232_49 (mz_pI N 56 8 (mz_b01 s1)))
def cp_232_23 (s1 : Bool) (v1 : Bool) (N : mz_N) : Prop := (mz_z01 ((mz_pI N 56 8 (mz_b01 s1)).1 56 8)) ∧ (((mz_fZ (mz_pI N 56 8 (mz_b01 s1)) 56 8) = true → ((v1 = true → ((mz_z01 ((mz_pI N 56 8 (mz_b01 s1)).1 56 6)) ∧ (((mz_fZ (mz_pI N 56 8 (mz_b01 s1)) 56 6) = true → (cp_232_50 true (mz_pI N 56 8 (mz_b01 s1)))) ∧ (¬ ((mz_fZ (mz_pI N 56 8 (mz_b01 s1)) 56 6) = true) → (cp_232_49 (mz_pI N 56 8 (mz_b01 s1))))))) ∧ (¬ (v1 = true) → (cp_232_49 (mz_pI N 56 8 (mz_b01 s1)))))) ∧ (¬ ((mz_fZ (mz_pI N 56 8 (mz_b01 s1)) 56 8) = true) → (cp_232_49 (mz_pI N 56 8 (mz_b01 s1)))))
noncomputable def cf_232_18 (v1 : Bool) (N : mz_N) : (mz_N) := (cf_232_23 true v1 N)
def cp_232_18 (v1 : Bool) (N : mz_N) : Prop := cp_232_23 true v1 N
noncomputable def cf_232_0 (v1 : Bool) (N : mz_N) : (mz_N) := if (mz_fZ N 56 8) = true then (cf_232_18 v1 N) else (if (N.1 56 7) < 500 then (cf_232_18 v1 N) else (cf_232_23 false v1 N))
def cp_232_0 (v1 : Bool) (N : mz_N) : Prop := (mz_z01 (N.1 56 8)) ∧ (((mz_fZ N 56 8) = true → (cp_232_18 v1 N)) ∧ (¬ ((mz_fZ N 56 8) = true) → (((N.1 56 7) < 500 → (cp_232_18 v1 N)) ∧ (¬ ((N.1 56 7) < 500) → (cp_232_23 false v1 N)))))
/-! 229 KeptHouse.supplyWater (I)V -/
noncomputable def cf_229_124 (s1 : Int32) (N : mz_N) : (mz_N) := mz_pI N 56 12 s1
def cp_229_124 (s1 : Int32) (N : mz_N) : Prop := True
noncomputable def cf_229_91 (s1 : Bool) (N : mz_N) : (mz_N) := if ((cf_232_0 s1 N).1 56 11) < 5000 then (cf_229_124 (((cf_232_0 s1 N).1 56 12) + 1) (cf_232_0 s1 N)) else (cf_229_124 0 (cf_232_0 s1 N))
def cp_229_91 (s1 : Bool) (N : mz_N) : Prop := (cp_232_0 s1 N) ∧ ((((cf_232_0 s1 N).1 56 11) < 5000 → (cp_229_124 (((cf_232_0 s1 N).1 56 12) + 1) (cf_232_0 s1 N))) ∧ (¬ (((cf_232_0 s1 N).1 56 11) < 5000) → (cp_229_124 0 (cf_232_0 s1 N))))
noncomputable def cf_229_90 (N : mz_N) : (mz_N) := (cf_229_91 false N)
def cp_229_90 (N : mz_N) : Prop := cp_229_91 false N
noncomputable def cf_229_54 (v1 : Int32) (v2 : Int32) (N : mz_N) : ((Int32 × mz_N) ⊕ (mz_N)) := (.inl ((v2 + 1), N))
def cp_229_54 (v1 : Int32) (v2 : Int32) (N : mz_N) : Prop := True
noncomputable def cq_229_10 (v1 : Int32) (s : Int32 × mz_N) : ((Int32 × mz_N) ⊕ (mz_N)) := if s.1 < 10 then (cf_229_54 v1 s.1 (mz_wI ((cf_230_0 s.1 (cf_221_0 s.1 v1 s.2) (s.2.1 208 0) s.2).2) 212 s.1 ((mz_gI s.2 212 s.1) + ((cf_230_0 s.1 (cf_221_0 s.1 v1 s.2) (s.2.1 208 0) s.2).1)))) else (if (mz_gI s.2 53 12) = 1 then (if (cf_224_0 1 s.2) = true then (.inr (cf_229_91 true s.2)) else (.inr (cf_229_90 s.2))) else (.inr (cf_229_90 s.2)))
def cd_229_10 (v1 : Int32) (s : Int32 × mz_N) : Prop := (s.1 < 10 → ((mz_ib s.1 11) ∧ ((cp_221_0 s.1 v1 s.2) ∧ ((cp_230_0 s.1 (cf_221_0 s.1 v1 s.2) (s.2.1 208 0) s.2) ∧ ((mz_ib s.1 11) ∧ (cp_229_54 v1 s.1 (mz_wI ((cf_230_0 s.1 (cf_221_0 s.1 v1 s.2) (s.2.1 208 0) s.2).2) 212 s.1 ((mz_gI s.2 212 s.1) + ((cf_230_0 s.1 (cf_221_0 s.1 v1 s.2) (s.2.1 208 0) s.2).1))))))))) ∧ (¬ (s.1 < 10) → (((mz_gI s.2 53 12) = 1 → ((cp_224_0 1 s.2) ∧ (((cf_224_0 1 s.2) = true → (cp_229_91 true s.2)) ∧ (¬ ((cf_224_0 1 s.2) = true) → (cp_229_90 s.2))))) ∧ (¬ ((mz_gI s.2 53 12) = 1) → (cp_229_90 s.2))))
noncomputable def cf_229_10 (v1 : Int32) (v2 : Int32) (N : mz_N) : (mz_N) := mz_run (cq_229_10 v1) (v2, N)
def cp_229_10 (v1 : Int32) (v2 : Int32) (N : mz_N) : Prop := ∃ n, mz_ok (cq_229_10 v1) (cd_229_10 v1) n (v2, N)
noncomputable def cf_229_0 (v1 : Int32) (N : mz_N) : (mz_N) := (cf_229_10 v1 0 (mz_pI N 56 10 (mz_b01 false)))
def cp_229_0 (v1 : Int32) (N : mz_N) : Prop := cp_229_10 v1 0 (mz_pI N 56 10 (mz_b01 false))
/-! 235 KeptHouse$Climate.gather (LKeptHouse$Plan;[J)V -/
noncomputable def cq_235_2 (a2 : Nat) (s : Int32 × mz_N) : ((Int32 × mz_N) ⊕ (mz_N)) := if s.1 < (s.2.1 2 7) then (.inl ((s.1 + 1), mz_wL s.2 74 s.1 (cf_158_0 a2 s.1 s.2))) else (.inr s.2)
def cd_235_2 (a2 : Nat) (s : Int32 × mz_N) : Prop := (s.1 < (s.2.1 2 7) → ((cp_158_0 a2 s.1 s.2) ∧ (mz_ib s.1 40))) ∧ (¬ (s.1 < (s.2.1 2 7)) → True)
noncomputable def cf_235_2 (a2 : Nat) (v3 : Int32) (N : mz_N) : (mz_N) := mz_run (cq_235_2 a2) (v3, N)
def cp_235_2 (a2 : Nat) (v3 : Int32) (N : mz_N) : Prop := ∃ n, mz_ok (cq_235_2 a2) (cd_235_2 a2) n (v3, N)
noncomputable def cf_235_0 (a2 : Nat) (N : mz_N) : (mz_N) := (cf_235_2 a2 0 N)
def cp_235_0 (a2 : Nat) (N : mz_N) : Prop := cp_235_2 a2 0 N
/-! 236 KeptHouse$Climate.measureWarmths (LKeptHouse$Plan;)V -/
noncomputable def cq_236_2  (s : Int32 × mz_N) : ((Int32 × mz_N) ⊕ (mz_N)) := if s.1 < (s.2.1 2 7) then (.inl ((s.1 + 1), mz_wL s.2 75 s.1 (cf_159_0 (mz_gL s.2 74 s.1) 100 (mz_gI s.2 19 s.1)))) else (.inr s.2)
def cd_236_2  (s : Int32 × mz_N) : Prop := (s.1 < (s.2.1 2 7) → ((mz_ib s.1 40) ∧ ((mz_ib s.1 40) ∧ ((cp_159_0 (mz_gL s.2 74 s.1) 100 (mz_gI s.2 19 s.1)) ∧ (mz_ib s.1 40))))) ∧ (¬ (s.1 < (s.2.1 2 7)) → True)
noncomputable def cf_236_2 (v2 : Int32) (N : mz_N) : (mz_N) := mz_run (cq_236_2 ) (v2, N)
def cp_236_2 (v2 : Int32) (N : mz_N) : Prop := ∃ n, mz_ok (cq_236_2 ) (cd_236_2 ) n (v2, N)
noncomputable def cf_236_0 (N : mz_N) : (mz_N) := (cf_236_2 0 N)
def cp_236_0 (N : mz_N) : Prop := cp_236_2 0 N
/-! 234 KeptHouse$Climate.flow (LKeptHouse$Plan;I)V -/
noncomputable def cf_234_99 (v2 : Int32) (v3 : Int32) (N : mz_N) : ((Int32 × mz_N) ⊕ (mz_N)) := (.inl ((v3 + 1), N))
def cp_234_99 (v2 : Int32) (v3 : Int32) (N : mz_N) : Prop := True
noncomputable def cf_234_200 (v2 : Int32) (v3 : Int32) (v4 : Int32) (N : mz_N) : ((Int32 × mz_N) ⊕ ((Int32 × mz_N) ⊕ (mz_N))) := (.inl ((v4 + 1), N))
def cp_234_200 (v2 : Int32) (v3 : Int32) (v4 : Int32) (N : mz_N) : Prop := True
noncomputable def cq_234_156 (v2 : Int32) (v3 : Int32) (s : Int32 × mz_N) : ((Int32 × mz_N) ⊕ ((Int32 × mz_N) ⊕ (mz_N))) := if s.1 < 4 then (cf_234_200 v2 v3 s.1 (mz_wL s.2 74 v3 ((mz_gL s.2 74 v3) + (((mz_gI s.2 (17 + (6 + s.1).toNatClampNeg) v3) * ((mz_gI s.2 67 ((s.1 * 24) + v2)) / 10)).toInt64)))) else (.inr (.inl ((v3 + 1), s.2)))
def cd_234_156 (v2 : Int32) (v3 : Int32) (s : Int32 × mz_N) : Prop := (s.1 < 4 → ((mz_ib v3 40) ∧ ((mz_ib (6 + s.1) 13) ∧ ((mz_ib v3 40) ∧ ((mz_ib ((s.1 * 24) + v2) 96) ∧ ((mz_ib v3 40) ∧ (cp_234_200 v2 v3 s.1 (mz_wL s.2 74 v3 ((mz_gL s.2 74 v3) + (((mz_gI s.2 (17 + (6 + s.1).toNatClampNeg) v3) * ((mz_gI s.2 67 ((s.1 * 24) + v2)) / 10)).toInt64)))))))))) ∧ (¬ (s.1 < 4) → True)
noncomputable def cf_234_156 (v2 : Int32) (v3 : Int32) (v4 : Int32) (N : mz_N) : ((Int32 × mz_N) ⊕ (mz_N)) := mz_run (cq_234_156 v2 v3) (v4, N)
def cp_234_156 (v2 : Int32) (v3 : Int32) (v4 : Int32) (N : mz_N) : Prop := ∃ n, mz_ok (cq_234_156 v2 v3) (cd_234_156 v2 v3) n (v4, N)
noncomputable def cf_234_153 (v2 : Int32) (v3 : Int32) (N : mz_N) : ((Int32 × mz_N) ⊕ (mz_N)) := (cf_234_156 v2 v3 0 N)
def cp_234_153 (v2 : Int32) (v3 : Int32) (N : mz_N) : Prop := cp_234_156 v2 v3 0 N
noncomputable def cq_234_107 (v2 : Int32) (s : Int32 × mz_N) : ((Int32 × mz_N) ⊕ (mz_N)) := if s.1 < (s.2.1 2 7) then (cf_234_153 v2 s.1 (mz_wL s.2 74 s.1 ((mz_gL s.2 74 s.1) - ((((mz_gL s.2 75 s.1) - ((mz_gI s.2 66 v2).toInt64)) * ((mz_gI s.2 27 s.1).toInt64)) / 10)))) else (.inr s.2)
def cd_234_107 (v2 : Int32) (s : Int32 × mz_N) : Prop := (s.1 < (s.2.1 2 7) → ((mz_ib s.1 40) ∧ ((mz_ib s.1 40) ∧ ((mz_ib v2 24) ∧ ((mz_ib s.1 40) ∧ ((mz_ib s.1 40) ∧ (cp_234_153 v2 s.1 (mz_wL s.2 74 s.1 ((mz_gL s.2 74 s.1) - ((((mz_gL s.2 75 s.1) - ((mz_gI s.2 66 v2).toInt64)) * ((mz_gI s.2 27 s.1).toInt64)) / 10)))))))))) ∧ (¬ (s.1 < (s.2.1 2 7)) → True)
noncomputable def cf_234_107 (v2 : Int32) (v3 : Int32) (N : mz_N) : (mz_N) := mz_run (cq_234_107 v2) (v3, N)
def cp_234_107 (v2 : Int32) (v3 : Int32) (N : mz_N) : Prop := ∃ n, mz_ok (cq_234_107 v2) (cd_234_107 v2) n (v3, N)
noncomputable def cq_234_16 (v2 : Int32) (s : Int32 × mz_N) : ((Int32 × mz_N) ⊕ (mz_N)) := if s.1 < (s.2.1 2 13) then (cf_234_99 v2 s.1 (mz_wL (mz_wL s.2 74 (mz_gI s.2 33 s.1) ((mz_gL s.2 74 (mz_gI s.2 33 s.1)) - ((((mz_gL s.2 75 (mz_gI s.2 33 s.1)) - (mz_gL s.2 75 (mz_gI s.2 34 s.1))) * ((mz_gI s.2 35 s.1).toInt64)) / 10))) 74 (mz_gI s.2 34 s.1) ((mz_gL (mz_wL s.2 74 (mz_gI s.2 33 s.1) ((mz_gL s.2 74 (mz_gI s.2 33 s.1)) - ((((mz_gL s.2 75 (mz_gI s.2 33 s.1)) - (mz_gL s.2 75 (mz_gI s.2 34 s.1))) * ((mz_gI s.2 35 s.1).toInt64)) / 10))) 74 (mz_gI s.2 34 s.1)) + ((((mz_gL s.2 75 (mz_gI s.2 33 s.1)) - (mz_gL s.2 75 (mz_gI s.2 34 s.1))) * ((mz_gI s.2 35 s.1).toInt64)) / 10)))) else (.inr (cf_234_107 v2 0 s.2))
def cd_234_16 (v2 : Int32) (s : Int32 × mz_N) : Prop := (s.1 < (s.2.1 2 13) → ((mz_ib s.1 780) ∧ ((mz_ib s.1 780) ∧ ((mz_ib (mz_gI s.2 33 s.1) 40) ∧ ((mz_ib (mz_gI s.2 34 s.1) 40) ∧ ((mz_ib s.1 780) ∧ ((mz_ib (mz_gI s.2 33 s.1) 40) ∧ ((mz_ib (mz_gI s.2 33 s.1) 40) ∧ ((mz_ib (mz_gI s.2 34 s.1) 40) ∧ ((mz_ib (mz_gI s.2 34 s.1) 40) ∧ (cp_234_99 v2 s.1 (mz_wL (mz_wL s.2 74 (mz_gI s.2 33 s.1) ((mz_gL s.2 74 (mz_gI s.2 33 s.1)) - ((((mz_gL s.2 75 (mz_gI s.2 33 s.1)) - (mz_gL s.2 75 (mz_gI s.2 34 s.1))) * ((mz_gI s.2 35 s.1).toInt64)) / 10))) 74 (mz_gI s.2 34 s.1) ((mz_gL (mz_wL s.2 74 (mz_gI s.2 33 s.1) ((mz_gL s.2 74 (mz_gI s.2 33 s.1)) - ((((mz_gL s.2 75 (mz_gI s.2 33 s.1)) - (mz_gL s.2 75 (mz_gI s.2 34 s.1))) * ((mz_gI s.2 35 s.1).toInt64)) / 10))) 74 (mz_gI s.2 34 s.1)) + ((((mz_gL s.2 75 (mz_gI s.2 33 s.1)) - (mz_gL s.2 75 (mz_gI s.2 34 s.1))) * ((mz_gI s.2 35 s.1).toInt64)) / 10)))))))))))))) ∧ (¬ (s.1 < (s.2.1 2 13)) → (cp_234_107 v2 0 s.2))
noncomputable def cf_234_16 (v2 : Int32) (v3 : Int32) (N : mz_N) : (mz_N) := mz_run (cq_234_16 v2) (v3, N)
def cp_234_16 (v2 : Int32) (v3 : Int32) (N : mz_N) : Prop := ∃ n, mz_ok (cq_234_16 v2) (cd_234_16 v2) n (v3, N)
noncomputable def cf_234_0 (v2 : Int32) (N : mz_N) : (mz_N) := (cf_234_16 v2 0 (cf_236_0 (cf_235_0 68 N)))
def cp_234_0 (v2 : Int32) (N : mz_N) : Prop := (cp_235_0 68 N) ∧ ((cp_236_0 (cf_235_0 68 N)) ∧ (cp_234_16 v2 0 (cf_236_0 (cf_235_0 68 N))))
/-! 238 KeptHouse$Supply.loadOf (I)I -/
noncomputable def cf_238_0 (v1 : Int32) (N : mz_N) : (Int32) := if v1 < 0 then 0 else (if v1 < 11 then (mz_gI N 58 v1) else 0)
def cp_238_0 (v1 : Int32) (N : mz_N) : Prop := (v1 < 0 → True) ∧ (¬ (v1 < 0) → ((v1 < 11 → (mz_ib v1 11)) ∧ (¬ (v1 < 11) → True)))
/-! 237 KeptHouse$Climate.warmHearts (LKeptHouse$Plan;LKeptHouse$Supply;I)V -/
noncomputable def cf_237_55 (v3 : Int32) (v4 : Int32) (N : mz_N) : ((Int32 × mz_N) ⊕ (mz_N)) := (.inl ((v4 + 1), N))
def cp_237_55 (v3 : Int32) (v4 : Int32) (N : mz_N) : Prop := True
noncomputable def cq_237_3 (v3 : Int32) (s : Int32 × mz_N) : ((Int32 × mz_N) ⊕ (mz_N)) := if s.1 < 10 then (if (mz_gI s.2 38 s.1) = (-1) then (cf_237_55 v3 s.1 s.2) else (cf_237_55 v3 s.1 (mz_wL s.2 74 (mz_gI s.2 38 s.1) ((mz_gL s.2 74 (mz_gI s.2 38 s.1)) + (((8 * (cf_221_0 s.1 v3 s.2)) + (3 * (cf_238_0 s.1 s.2))).toInt64))))) else (.inr s.2)
def cd_237_3 (v3 : Int32) (s : Int32 × mz_N) : Prop := (s.1 < 10 → ((mz_ib s.1 10) ∧ (((mz_gI s.2 38 s.1) = (-1) → (cp_237_55 v3 s.1 s.2)) ∧ (¬ ((mz_gI s.2 38 s.1) = (-1)) → ((mz_ib (mz_gI s.2 38 s.1) 40) ∧ ((cp_221_0 s.1 v3 s.2) ∧ ((cp_238_0 s.1 s.2) ∧ ((mz_ib (mz_gI s.2 38 s.1) 40) ∧ (cp_237_55 v3 s.1 (mz_wL s.2 74 (mz_gI s.2 38 s.1) ((mz_gL s.2 74 (mz_gI s.2 38 s.1)) + (((8 * (cf_221_0 s.1 v3 s.2)) + (3 * (cf_238_0 s.1 s.2))).toInt64)))))))))))) ∧ (¬ (s.1 < 10) → True)
noncomputable def cf_237_3 (v3 : Int32) (v4 : Int32) (N : mz_N) : (mz_N) := mz_run (cq_237_3 v3) (v4, N)
def cp_237_3 (v3 : Int32) (v4 : Int32) (N : mz_N) : Prop := ∃ n, mz_ok (cq_237_3 v3) (cd_237_3 v3) n (v4, N)
noncomputable def cf_237_0 (v3 : Int32) (N : mz_N) : (mz_N) := (cf_237_3 v3 0 N)
def cp_237_0 (v3 : Int32) (N : mz_N) : Prop := cp_237_3 v3 0 N
/-! 241 KeptHouse$Books.greatest ([JI)I -/
noncomputable def cf_241_21 (a0 : Nat) (n0 : Nat) (v1 : Int32) (v2 : Int32) (v3 : Int32) (N : mz_N) : ((Int32 × Int32) ⊕ (Int32)) := (.inl (v2, (v3 + 1)))
def cp_241_21 (a0 : Nat) (n0 : Nat) (v1 : Int32) (v2 : Int32) (v3 : Int32) (N : mz_N) : Prop := True
noncomputable def cq_241_4 (a0 : Nat) (n0 : Nat) (v1 : Int32) (N : mz_N) (s : Int32 × Int32) : ((Int32 × Int32) ⊕ (Int32)) := if s.2 < v1 then (if (mz_gL N a0 s.1) < (mz_gL N a0 s.2) then (cf_241_21 a0 n0 v1 s.2 s.2 N) else (cf_241_21 a0 n0 v1 s.1 s.2 N)) else (.inr s.1)
def cd_241_4 (a0 : Nat) (n0 : Nat) (v1 : Int32) (N : mz_N) (s : Int32 × Int32) : Prop := (s.2 < v1 → ((mz_ib s.2 n0) ∧ ((mz_ib s.1 n0) ∧ (((mz_gL N a0 s.1) < (mz_gL N a0 s.2) → (cp_241_21 a0 n0 v1 s.2 s.2 N)) ∧ (¬ ((mz_gL N a0 s.1) < (mz_gL N a0 s.2)) → (cp_241_21 a0 n0 v1 s.1 s.2 N)))))) ∧ (¬ (s.2 < v1) → True)
noncomputable def cf_241_4 (a0 : Nat) (n0 : Nat) (v1 : Int32) (v2 : Int32) (v3 : Int32) (N : mz_N) : (Int32) := mz_run (cq_241_4 a0 n0 v1 N) (v2, v3)
def cp_241_4 (a0 : Nat) (n0 : Nat) (v1 : Int32) (v2 : Int32) (v3 : Int32) (N : mz_N) : Prop := ∃ n, mz_ok (cq_241_4 a0 n0 v1 N) (cd_241_4 a0 n0 v1 N) n (v2, v3)
noncomputable def cf_241_0 (a0 : Nat) (n0 : Nat) (v1 : Int32) (N : mz_N) : (Int32) := (cf_241_4 a0 n0 v1 0 1 N)
def cp_241_0 (a0 : Nat) (n0 : Nat) (v1 : Int32) (N : mz_N) : Prop := cp_241_4 a0 n0 v1 0 1 N
/-! 240 KeptHouse$Books.share (J[JI[J[J)Z -/
noncomputable def cf_240_92 (a1 : Nat) (n1 : Nat) (a3 : Nat) (n3 : Nat) (a4 : Nat) (n4 : Nat) (v0 : Int64) (v3 : Int32) (v6 : Int64) (v8 : Int64) (v10 : Int32) (N : mz_N) : ((Int64 × Int32 × mz_N) ⊕ (Bool × mz_N)) := (.inl (v8, (v10 + 1), N))
def cp_240_92 (a1 : Nat) (n1 : Nat) (a3 : Nat) (n3 : Nat) (a4 : Nat) (n4 : Nat) (v0 : Int64) (v3 : Int32) (v6 : Int64) (v8 : Int64) (v10 : Int32) (N : mz_N) : Prop := True
noncomputable def cf_240_131 (a1 : Nat) (n1 : Nat) (a3 : Nat) (n3 : Nat) (a4 : Nat) (n4 : Nat) (v3 : Int32) (v8 : Int64) (v10 : Int32) (v11 : Int32) (N : mz_N) : ((Int64 × Int32 × mz_N) ⊕ (Bool × mz_N)) := (.inl ((v8 - 1), (v10 + 1), mz_wL N a4 v11 (-1)))
def cp_240_131 (a1 : Nat) (n1 : Nat) (a3 : Nat) (n3 : Nat) (a4 : Nat) (n4 : Nat) (v3 : Int32) (v8 : Int64) (v10 : Int32) (v11 : Int32) (N : mz_N) : Prop := mz_ib v11 n4
noncomputable def cq_240_101 (a1 : Nat) (n1 : Nat) (a3 : Nat) (n3 : Nat) (a4 : Nat) (n4 : Nat) (v3 : Int32) (s : Int64 × Int32 × mz_N) : ((Int64 × Int32 × mz_N) ⊕ (Bool × mz_N)) := if s.2.1 < v3 then (if 0 < s.1 then (cf_240_131 a1 n1 a3 n3 a4 n4 v3 s.1 s.2.1 (cf_241_0 a4 n4 v3 s.2.2) (mz_wL s.2.2 a3 (cf_241_0 a4 n4 v3 s.2.2) ((mz_gL s.2.2 a3 (cf_241_0 a4 n4 v3 s.2.2)) + 1))) else (.inr (true, s.2.2))) else (.inr (true, s.2.2))
def cd_240_101 (a1 : Nat) (n1 : Nat) (a3 : Nat) (n3 : Nat) (a4 : Nat) (n4 : Nat) (v3 : Int32) (s : Int64 × Int32 × mz_N) : Prop := (s.2.1 < v3 → ((0 < s.1 → ((cp_241_0 a4 n4 v3 s.2.2) ∧ ((mz_ib (cf_241_0 a4 n4 v3 s.2.2) n3) ∧ ((mz_ib (cf_241_0 a4 n4 v3 s.2.2) n3) ∧ (cp_240_131 a1 n1 a3 n3 a4 n4 v3 s.1 s.2.1 (cf_241_0 a4 n4 v3 s.2.2) (mz_wL s.2.2 a3 (cf_241_0 a4 n4 v3 s.2.2) ((mz_gL s.2.2 a3 (cf_241_0 a4 n4 v3 s.2.2)) + 1))))))) ∧ (¬ (0 < s.1) → True))) ∧ (¬ (s.2.1 < v3) → True)
noncomputable def cf_240_101 (a1 : Nat) (n1 : Nat) (a3 : Nat) (n3 : Nat) (a4 : Nat) (n4 : Nat) (v3 : Int32) (v8 : Int64) (v10 : Int32) (N : mz_N) : (Bool × mz_N) := mz_run (cq_240_101 a1 n1 a3 n3 a4 n4 v3) (v8, v10, N)
def cp_240_101 (a1 : Nat) (n1 : Nat) (a3 : Nat) (n3 : Nat) (a4 : Nat) (n4 : Nat) (v3 : Int32) (v8 : Int64) (v10 : Int32) (N : mz_N) : Prop := ∃ n, mz_ok (cq_240_101 a1 n1 a3 n3 a4 n4 v3) (cd_240_101 a1 n1 a3 n3 a4 n4 v3) n (v8, v10, N)
noncomputable def cq_240_48 (a1 : Nat) (n1 : Nat) (a3 : Nat) (n3 : Nat) (a4 : Nat) (n4 : Nat) (v0 : Int64) (v3 : Int32) (v6 : Int64) (s : Int64 × Int32 × mz_N) : ((Int64 × Int32 × mz_N) ⊕ (Bool × mz_N)) := if s.2.1 < v3 then (cf_240_92 a1 n1 a3 n3 a4 n4 v0 v3 v6 (s.1 - (mz_gL (mz_wL (mz_wL s.2.2 a3 s.2.1 ((v0 * (mz_gL s.2.2 a1 s.2.1)) / v6)) a4 s.2.1 (mz_lrem (v0 * (mz_gL (mz_wL s.2.2 a3 s.2.1 ((v0 * (mz_gL s.2.2 a1 s.2.1)) / v6)) a1 s.2.1)) v6)) a3 s.2.1)) s.2.1 (mz_wL (mz_wL s.2.2 a3 s.2.1 ((v0 * (mz_gL s.2.2 a1 s.2.1)) / v6)) a4 s.2.1 (mz_lrem (v0 * (mz_gL (mz_wL s.2.2 a3 s.2.1 ((v0 * (mz_gL s.2.2 a1 s.2.1)) / v6)) a1 s.2.1)) v6))) else (.inr (cf_240_101 a1 n1 a3 n3 a4 n4 v3 s.1 0 s.2.2))
def cd_240_48 (a1 : Nat) (n1 : Nat) (a3 : Nat) (n3 : Nat) (a4 : Nat) (n4 : Nat) (v0 : Int64) (v3 : Int32) (v6 : Int64) (s : Int64 × Int32 × mz_N) : Prop := (s.2.1 < v3 → ((mz_ib s.2.1 n1) ∧ ((¬ v6 = 0) ∧ ((mz_ib s.2.1 n3) ∧ ((mz_ib s.2.1 n1) ∧ ((¬ v6 = 0) ∧ ((mz_ib s.2.1 n4) ∧ ((mz_ib s.2.1 n3) ∧ (cp_240_92 a1 n1 a3 n3 a4 n4 v0 v3 v6 (s.1 - (mz_gL (mz_wL (mz_wL s.2.2 a3 s.2.1 ((v0 * (mz_gL s.2.2 a1 s.2.1)) / v6)) a4 s.2.1 (mz_lrem (v0 * (mz_gL (mz_wL s.2.2 a3 s.2.1 ((v0 * (mz_gL s.2.2 a1 s.2.1)) / v6)) a1 s.2.1)) v6)) a3 s.2.1)) s.2.1 (mz_wL (mz_wL s.2.2 a3 s.2.1 ((v0 * (mz_gL s.2.2 a1 s.2.1)) / v6)) a4 s.2.1 (mz_lrem (v0 * (mz_gL (mz_wL s.2.2 a3 s.2.1 ((v0 * (mz_gL s.2.2 a1 s.2.1)) / v6)) a1 s.2.1)) v6))))))))))) ∧ (¬ (s.2.1 < v3) → (cp_240_101 a1 n1 a3 n3 a4 n4 v3 s.1 0 s.2.2))
noncomputable def cf_240_48 (a1 : Nat) (n1 : Nat) (a3 : Nat) (n3 : Nat) (a4 : Nat) (n4 : Nat) (v0 : Int64) (v3 : Int32) (v6 : Int64) (v8 : Int64) (v10 : Int32) (N : mz_N) : (Bool × mz_N) := mz_run (cq_240_48 a1 n1 a3 n3 a4 n4 v0 v3 v6) (v8, v10, N)
def cp_240_48 (a1 : Nat) (n1 : Nat) (a3 : Nat) (n3 : Nat) (a4 : Nat) (n4 : Nat) (v0 : Int64) (v3 : Int32) (v6 : Int64) (v8 : Int64) (v10 : Int32) (N : mz_N) : Prop := ∃ n, mz_ok (cq_240_48 a1 n1 a3 n3 a4 n4 v0 v3 v6) (cd_240_48 a1 n1 a3 n3 a4 n4 v0 v3 v6) n (v8, v10, N)
noncomputable def cq_240_6 (a1 : Nat) (n1 : Nat) (a3 : Nat) (n3 : Nat) (a4 : Nat) (n4 : Nat) (v0 : Int64) (v3 : Int32) (s : Int64 × Int32 × mz_N) : ((Int64 × Int32 × mz_N) ⊕ (Bool × mz_N)) := if s.2.1 < v3 then (.inl ((s.1 + (mz_gL s.2.2 a1 s.2.1)), (s.2.1 + 1), mz_wL s.2.2 a3 s.2.1 0)) else (if 0 < s.1 then (.inr (cf_240_48 a1 n1 a3 n3 a4 n4 v0 v3 s.1 v0 0 s.2.2)) else (.inr (false, s.2.2)))
def cd_240_6 (a1 : Nat) (n1 : Nat) (a3 : Nat) (n3 : Nat) (a4 : Nat) (n4 : Nat) (v0 : Int64) (v3 : Int32) (s : Int64 × Int32 × mz_N) : Prop := (s.2.1 < v3 → ((mz_ib s.2.1 n1) ∧ (mz_ib s.2.1 n3))) ∧ (¬ (s.2.1 < v3) → ((0 < s.1 → (cp_240_48 a1 n1 a3 n3 a4 n4 v0 v3 s.1 v0 0 s.2.2)) ∧ (¬ (0 < s.1) → True)))
noncomputable def cf_240_6 (a1 : Nat) (n1 : Nat) (a3 : Nat) (n3 : Nat) (a4 : Nat) (n4 : Nat) (v0 : Int64) (v3 : Int32) (v6 : Int64) (v8 : Int32) (N : mz_N) : (Bool × mz_N) := mz_run (cq_240_6 a1 n1 a3 n3 a4 n4 v0 v3) (v6, v8, N)
def cp_240_6 (a1 : Nat) (n1 : Nat) (a3 : Nat) (n3 : Nat) (a4 : Nat) (n4 : Nat) (v0 : Int64) (v3 : Int32) (v6 : Int64) (v8 : Int32) (N : mz_N) : Prop := ∃ n, mz_ok (cq_240_6 a1 n1 a3 n3 a4 n4 v0 v3) (cd_240_6 a1 n1 a3 n3 a4 n4 v0 v3) n (v6, v8, N)
noncomputable def cf_240_0 (a1 : Nat) (n1 : Nat) (a3 : Nat) (n3 : Nat) (a4 : Nat) (n4 : Nat) (v0 : Int64) (v3 : Int32) (N : mz_N) : (Bool × mz_N) := (cf_240_6 a1 n1 a3 n3 a4 n4 v0 v3 0 0 N)
def cp_240_0 (a1 : Nat) (n1 : Nat) (a3 : Nat) (n3 : Nat) (a4 : Nat) (n4 : Nat) (v0 : Int64) (v3 : Int32) (N : mz_N) : Prop := cp_240_6 a1 n1 a3 n3 a4 n4 v0 v3 0 0 N
/-! 239 KeptHouse$Climate.boil (LKeptHouse$Plan;LKeptHouse$Supply;LKeptHouse$Books;[I)V -/
noncomputable def cf_239_101 (v5 : Int32) (v6 : Int64) (v8 : Int32) (N : mz_N) : ((Int64 × Int32 × mz_N) ⊕ (mz_N)) := (.inl ((v6 + (mz_gL N 76 v8)), (v8 + 1), N))
def cp_239_101 (v5 : Int32) (v6 : Int64) (v8 : Int32) (N : mz_N) : Prop := mz_ib v8 41
noncomputable def cf_239_66 (s0 : Int64) (s1 : Int32) (v5 : Int32) (v6 : Int64) (v8 : Int32) (v9 : Int32) (N : mz_N) : ((Int64 × Int32 × mz_N) ⊕ (mz_N)) := (cf_239_101 v5 v6 v8 (mz_wL N 76 v8 (mz_lmin (60 * v9.toInt64) (mz_lmax 0 ((s0 * s1.toInt64) - (mz_gL N 74 v8))))))
def cp_239_66 (s0 : Int64) (s1 : Int32) (v5 : Int32) (v6 : Int64) (v8 : Int32) (v9 : Int32) (N : mz_N) : Prop := (mz_ib v8 40) ∧ ((mz_ib v8 41) ∧ (cp_239_101 v5 v6 v8 (mz_wL N 76 v8 (mz_lmin (60 * v9.toInt64) (mz_lmax 0 ((s0 * s1.toInt64) - (mz_gL N 74 v8)))))))
noncomputable def cf_239_248 (v5 : Int32) (v8 : Int64) (v10 : Int32) (N : mz_N) : ((Int32 × mz_N) ⊕ (mz_N)) := (.inl ((v10 + 1), N))
def cp_239_248 (v5 : Int32) (v8 : Int64) (v10 : Int32) (N : mz_N) : Prop := True
noncomputable def cf_239_291 (v8 : Int64) (N : mz_N) : (mz_N) := mz_pI (mz_pI N 208 3 ((N.1 208 3) + ((((11 * v8) + 9) / 10).toInt32))) 56 13 v8.toInt32
def cp_239_291 (v8 : Int64) (N : mz_N) : Prop := True
noncomputable def cq_239_192 (v5 : Int32) (v8 : Int64) (s : Int32 × mz_N) : ((Int32 × mz_N) ⊕ (mz_N)) := if s.1 < v5 then (cf_239_248 v5 v8 s.1 (mz_wI (mz_wL s.2 74 s.1 ((mz_gL s.2 74 s.1) + (mz_gL s.2 77 s.1))) 210 (mz_imin (mz_gI (mz_wL s.2 74 s.1 ((mz_gL s.2 74 s.1) + (mz_gL s.2 77 s.1))) 20 s.1) 10) ((mz_gI (mz_wL s.2 74 s.1 ((mz_gL s.2 74 s.1) + (mz_gL s.2 77 s.1))) 210 (mz_imin (mz_gI (mz_wL s.2 74 s.1 ((mz_gL s.2 74 s.1) + (mz_gL s.2 77 s.1))) 20 s.1) 10)) + ((mz_gL (mz_wL s.2 74 s.1 ((mz_gL s.2 74 s.1) + (mz_gL s.2 77 s.1))) 77 s.1).toInt32)))) else (.inr (cf_239_291 v8 (mz_wI (mz_pI s.2 56 11 ((s.2.1 56 11) + ((mz_gL s.2 77 v5).toInt32))) 210 10 ((mz_gI (mz_pI s.2 56 11 ((s.2.1 56 11) + ((mz_gL s.2 77 v5).toInt32))) 210 10) + ((mz_gL (mz_pI s.2 56 11 ((s.2.1 56 11) + ((mz_gL s.2 77 v5).toInt32))) 77 v5).toInt32)))))
def cd_239_192 (v5 : Int32) (v8 : Int64) (s : Int32 × mz_N) : Prop := (s.1 < v5 → ((mz_ib s.1 40) ∧ ((mz_ib s.1 41) ∧ ((mz_ib s.1 40) ∧ ((mz_ib s.1 40) ∧ ((mz_ib (mz_imin (mz_gI (mz_wL s.2 74 s.1 ((mz_gL s.2 74 s.1) + (mz_gL s.2 77 s.1))) 20 s.1) 10) 11) ∧ ((mz_ib s.1 41) ∧ ((mz_ib (mz_imin (mz_gI (mz_wL s.2 74 s.1 ((mz_gL s.2 74 s.1) + (mz_gL s.2 77 s.1))) 20 s.1) 10) 11) ∧ (cp_239_248 v5 v8 s.1 (mz_wI (mz_wL s.2 74 s.1 ((mz_gL s.2 74 s.1) + (mz_gL s.2 77 s.1))) 210 (mz_imin (mz_gI (mz_wL s.2 74 s.1 ((mz_gL s.2 74 s.1) + (mz_gL s.2 77 s.1))) 20 s.1) 10) ((mz_gI (mz_wL s.2 74 s.1 ((mz_gL s.2 74 s.1) + (mz_gL s.2 77 s.1))) 210 (mz_imin (mz_gI (mz_wL s.2 74 s.1 ((mz_gL s.2 74 s.1) + (mz_gL s.2 77 s.1))) 20 s.1) 10)) + ((mz_gL (mz_wL s.2 74 s.1 ((mz_gL s.2 74 s.1) + (mz_gL s.2 77 s.1))) 77 s.1).toInt32)))))))))))) ∧ (¬ (s.1 < v5) → ((mz_ib v5 41) ∧ ((mz_ib v5 41) ∧ (cp_239_291 v8 (mz_wI (mz_pI s.2 56 11 ((s.2.1 56 11) + ((mz_gL s.2 77 v5).toInt32))) 210 10 ((mz_gI (mz_pI s.2 56 11 ((s.2.1 56 11) + ((mz_gL s.2 77 v5).toInt32))) 210 10) + ((mz_gL (mz_pI s.2 56 11 ((s.2.1 56 11) + ((mz_gL s.2 77 v5).toInt32))) 77 v5).toInt32)))))))
noncomputable def cf_239_192 (v5 : Int32) (v8 : Int64) (v10 : Int32) (N : mz_N) : (mz_N) := mz_run (cq_239_192 v5 v8) (v10, N)
def cp_239_192 (v5 : Int32) (v8 : Int64) (v10 : Int32) (N : mz_N) : Prop := ∃ n, mz_ok (cq_239_192 v5 v8) (cd_239_192 v5 v8) n (v10, N)
noncomputable def cf_239_189 (v5 : Int32) (v8 : Int64) (N : mz_N) : (mz_N) := (cf_239_192 v5 v8 0 N)
def cp_239_189 (v5 : Int32) (v8 : Int64) (N : mz_N) : Prop := cp_239_192 v5 v8 0 N
noncomputable def cq_239_12 (v5 : Int32) (s : Int64 × Int32 × mz_N) : ((Int64 × Int32 × mz_N) ⊕ (mz_N)) := if s.2.1 < v5 then (if (mz_gI s.2.2 20 s.2.1) < 10 then (cf_239_66 (100 * ((mz_gI s.2.2 19 s.2.1).toInt64)) (mz_gI s.2.2 53 (mz_gI s.2.2 20 s.2.1)) v5 s.1 s.2.1 (mz_gI s.2.2 19 s.2.1) s.2.2) else (cf_239_66 (100 * ((mz_gI s.2.2 19 s.2.1).toInt64)) 150 v5 s.1 s.2.1 (mz_gI s.2.2 19 s.2.1) s.2.2)) else (.inr (cf_239_189 v5 (mz_lmin ((mz_gI (mz_wL s.2.2 76 v5 ((mz_imin 300 (20000 - (s.2.2.1 56 11))).toInt64)) 215 0).toInt64) (s.1 + (mz_gL (mz_wL s.2.2 76 v5 ((mz_imin 300 (20000 - (s.2.2.1 56 11))).toInt64)) 76 v5))) ((cf_240_0 76 41 77 41 78 41 (mz_lmin ((mz_gI (mz_wL s.2.2 76 v5 ((mz_imin 300 (20000 - (s.2.2.1 56 11))).toInt64)) 215 0).toInt64) (s.1 + (mz_gL (mz_wL s.2.2 76 v5 ((mz_imin 300 (20000 - (s.2.2.1 56 11))).toInt64)) 76 v5))) (v5 + 1) (mz_wL s.2.2 76 v5 ((mz_imin 300 (20000 - (s.2.2.1 56 11))).toInt64))).2)))
def cd_239_12 (v5 : Int32) (s : Int64 × Int32 × mz_N) : Prop := (s.2.1 < v5 → ((mz_ib s.2.1 40) ∧ ((mz_ib s.2.1 40) ∧ (((mz_gI s.2.2 20 s.2.1) < 10 → ((mz_ib (mz_gI s.2.2 20 s.2.1) 53) ∧ (cp_239_66 (100 * ((mz_gI s.2.2 19 s.2.1).toInt64)) (mz_gI s.2.2 53 (mz_gI s.2.2 20 s.2.1)) v5 s.1 s.2.1 (mz_gI s.2.2 19 s.2.1) s.2.2))) ∧ (¬ ((mz_gI s.2.2 20 s.2.1) < 10) → (cp_239_66 (100 * ((mz_gI s.2.2 19 s.2.1).toInt64)) 150 v5 s.1 s.2.1 (mz_gI s.2.2 19 s.2.1) s.2.2)))))) ∧ (¬ (s.2.1 < v5) → ((mz_ib v5 41) ∧ ((mz_ib v5 41) ∧ ((cp_240_0 76 41 77 41 78 41 (mz_lmin ((mz_gI (mz_wL s.2.2 76 v5 ((mz_imin 300 (20000 - (s.2.2.1 56 11))).toInt64)) 215 0).toInt64) (s.1 + (mz_gL (mz_wL s.2.2 76 v5 ((mz_imin 300 (20000 - (s.2.2.1 56 11))).toInt64)) 76 v5))) (v5 + 1) (mz_wL s.2.2 76 v5 ((mz_imin 300 (20000 - (s.2.2.1 56 11))).toInt64))) ∧ (cp_239_189 v5 (mz_lmin ((mz_gI (mz_wL s.2.2 76 v5 ((mz_imin 300 (20000 - (s.2.2.1 56 11))).toInt64)) 215 0).toInt64) (s.1 + (mz_gL (mz_wL s.2.2 76 v5 ((mz_imin 300 (20000 - (s.2.2.1 56 11))).toInt64)) 76 v5))) ((cf_240_0 76 41 77 41 78 41 (mz_lmin ((mz_gI (mz_wL s.2.2 76 v5 ((mz_imin 300 (20000 - (s.2.2.1 56 11))).toInt64)) 215 0).toInt64) (s.1 + (mz_gL (mz_wL s.2.2 76 v5 ((mz_imin 300 (20000 - (s.2.2.1 56 11))).toInt64)) 76 v5))) (v5 + 1) (mz_wL s.2.2 76 v5 ((mz_imin 300 (20000 - (s.2.2.1 56 11))).toInt64))).2))))))
noncomputable def cf_239_12 (v5 : Int32) (v6 : Int64) (v8 : Int32) (N : mz_N) : (mz_N) := mz_run (cq_239_12 v5) (v6, v8, N)
def cp_239_12 (v5 : Int32) (v6 : Int64) (v8 : Int32) (N : mz_N) : Prop := ∃ n, mz_ok (cq_239_12 v5) (cd_239_12 v5) n (v6, v8, N)
noncomputable def cf_239_0 (N : mz_N) : (mz_N) := (cf_239_12 (N.1 2 7) 0 0 N)
def cp_239_0 (N : mz_N) : Prop := cp_239_12 (N.1 2 7) 0 0 N
/-! 243 KeptHouse$Climate.spread (LKeptHouse$Plan;[J)V -/
noncomputable def cf_243_99 (a2 : Nat) (s1 : Int32) (s2 : Int64) (v3 : Int32) (v4 : Int32) (v5 : Int32) (v6 : Int64) (v8 : Int64) (v10 : Int32) (N : mz_N) : ((Int32 × mz_N) ⊕ ((Int32 × mz_N) ⊕ (mz_N))) := (.inl ((v10 + 1), mz_wL N a2 s1 s2))
def cp_243_99 (a2 : Nat) (s1 : Int32) (s2 : Int64) (v3 : Int32) (v4 : Int32) (v5 : Int32) (v6 : Int64) (v8 : Int64) (v10 : Int32) (N : mz_N) : Prop := mz_ib s1 240
noncomputable def cq_243_63 (a2 : Nat) (v3 : Int32) (v4 : Int32) (v5 : Int32) (v6 : Int64) (v8 : Int64) (s : Int32 × mz_N) : ((Int32 × mz_N) ⊕ ((Int32 × mz_N) ⊕ (mz_N))) := if s.1 < v4 then (if s.1.toInt64 < v8 then (cf_243_99 a2 (mz_gI s.2 30 (v5 + s.1)) (v6 + 1) v3 v4 v5 v6 v8 s.1 s.2) else (cf_243_99 a2 (mz_gI s.2 30 (v5 + s.1)) v6 v3 v4 v5 v6 v8 s.1 s.2)) else (.inr (.inl ((v3 + 1), s.2)))
def cd_243_63 (a2 : Nat) (v3 : Int32) (v4 : Int32) (v5 : Int32) (v6 : Int64) (v8 : Int64) (s : Int32 × mz_N) : Prop := (s.1 < v4 → ((mz_ib (v5 + s.1) 240) ∧ ((s.1.toInt64 < v8 → (cp_243_99 a2 (mz_gI s.2 30 (v5 + s.1)) (v6 + 1) v3 v4 v5 v6 v8 s.1 s.2)) ∧ (¬ (s.1.toInt64 < v8) → (cp_243_99 a2 (mz_gI s.2 30 (v5 + s.1)) v6 v3 v4 v5 v6 v8 s.1 s.2))))) ∧ (¬ (s.1 < v4) → True)
noncomputable def cf_243_63 (a2 : Nat) (v3 : Int32) (v4 : Int32) (v5 : Int32) (v6 : Int64) (v8 : Int64) (v10 : Int32) (N : mz_N) : ((Int32 × mz_N) ⊕ (mz_N)) := mz_run (cq_243_63 a2 v3 v4 v5 v6 v8) (v10, N)
def cp_243_63 (a2 : Nat) (v3 : Int32) (v4 : Int32) (v5 : Int32) (v6 : Int64) (v8 : Int64) (v10 : Int32) (N : mz_N) : Prop := ∃ n, mz_ok (cq_243_63 a2 v3 v4 v5 v6 v8) (cd_243_63 a2 v3 v4 v5 v6 v8) n (v10, N)
noncomputable def cq_243_2 (a2 : Nat) (s : Int32 × mz_N) : ((Int32 × mz_N) ⊕ (mz_N)) := if s.1 < (s.2.1 2 7) then (cf_243_63 a2 s.1 (mz_gI s.2 19 s.1) (mz_gI s.2 28 s.1) (cf_159_0 (mz_gL s.2 74 s.1) 1 (mz_gI s.2 19 s.1)) ((mz_gL s.2 74 s.1) - ((cf_159_0 (mz_gL s.2 74 s.1) 1 (mz_gI s.2 19 s.1)) * ((mz_gI s.2 19 s.1).toInt64))) 0 s.2) else (.inr s.2)
def cd_243_2 (a2 : Nat) (s : Int32 × mz_N) : Prop := (s.1 < (s.2.1 2 7) → ((mz_ib s.1 40) ∧ ((mz_ib s.1 40) ∧ ((mz_ib s.1 40) ∧ ((cp_159_0 (mz_gL s.2 74 s.1) 1 (mz_gI s.2 19 s.1)) ∧ ((mz_ib s.1 40) ∧ (cp_243_63 a2 s.1 (mz_gI s.2 19 s.1) (mz_gI s.2 28 s.1) (cf_159_0 (mz_gL s.2 74 s.1) 1 (mz_gI s.2 19 s.1)) ((mz_gL s.2 74 s.1) - ((cf_159_0 (mz_gL s.2 74 s.1) 1 (mz_gI s.2 19 s.1)) * ((mz_gI s.2 19 s.1).toInt64))) 0 s.2))))))) ∧ (¬ (s.1 < (s.2.1 2 7)) → True)
noncomputable def cf_243_2 (a2 : Nat) (v3 : Int32) (N : mz_N) : (mz_N) := mz_run (cq_243_2 a2) (v3, N)
def cp_243_2 (a2 : Nat) (v3 : Int32) (N : mz_N) : Prop := ∃ n, mz_ok (cq_243_2 a2) (cd_243_2 a2) n (v3, N)
noncomputable def cf_243_0 (a2 : Nat) (N : mz_N) : (mz_N) := (cf_243_2 a2 0 N)
def cp_243_0 (a2 : Nat) (N : mz_N) : Prop := cp_243_2 a2 0 N
/-! 242 KeptHouse$Climate.settleHeat (LKeptHouse$Plan;)V -/
noncomputable def cf_242_0 (N : mz_N) : (mz_N) := (cf_243_0 68 (cf_236_0 N))
def cp_242_0 (N : mz_N) : Prop := (cp_236_0 N) ∧ (cp_243_0 68 (cf_236_0 N))
/-! 233 KeptHouse.warm (I)V -/
noncomputable def cf_233_91 (N : mz_N) : (mz_N) := (cf_242_0 N)
def cp_233_91 (N : mz_N) : Prop := cp_242_0 N
noncomputable def cf_233_0 (v1 : Int32) (N : mz_N) : (mz_N) := if (mz_gI (mz_pI (cf_237_0 v1 (cf_234_0 v1 N)) 56 13 0) 53 11) = 1 then (if (mz_fZ (mz_pI (cf_237_0 v1 (cf_234_0 v1 N)) 56 13 0) 56 6) = true then (if (cf_224_0 0 (mz_pI (cf_237_0 v1 (cf_234_0 v1 N)) 56 13 0)) = true then (cf_233_91 (cf_239_0 (mz_pI (cf_237_0 v1 (cf_234_0 v1 N)) 56 13 0))) else (cf_233_91 (mz_pI (cf_237_0 v1 (cf_234_0 v1 N)) 56 13 0))) else (cf_233_91 (mz_pI (cf_237_0 v1 (cf_234_0 v1 N)) 56 13 0))) else (cf_233_91 (mz_pI (cf_237_0 v1 (cf_234_0 v1 N)) 56 13 0))
def cp_233_0 (v1 : Int32) (N : mz_N) : Prop := (cp_234_0 v1 N) ∧ ((cp_237_0 v1 (cf_234_0 v1 N)) ∧ (((mz_gI (mz_pI (cf_237_0 v1 (cf_234_0 v1 N)) 56 13 0) 53 11) = 1 → ((mz_z01 ((mz_pI (cf_237_0 v1 (cf_234_0 v1 N)) 56 13 0).1 56 6)) ∧ (((mz_fZ (mz_pI (cf_237_0 v1 (cf_234_0 v1 N)) 56 13 0) 56 6) = true → ((cp_224_0 0 (mz_pI (cf_237_0 v1 (cf_234_0 v1 N)) 56 13 0)) ∧ (((cf_224_0 0 (mz_pI (cf_237_0 v1 (cf_234_0 v1 N)) 56 13 0)) = true → ((cp_239_0 (mz_pI (cf_237_0 v1 (cf_234_0 v1 N)) 56 13 0)) ∧ (cp_233_91 (cf_239_0 (mz_pI (cf_237_0 v1 (cf_234_0 v1 N)) 56 13 0))))) ∧ (¬ ((cf_224_0 0 (mz_pI (cf_237_0 v1 (cf_234_0 v1 N)) 56 13 0)) = true) → (cp_233_91 (mz_pI (cf_237_0 v1 (cf_234_0 v1 N)) 56 13 0)))))) ∧ (¬ ((mz_fZ (mz_pI (cf_237_0 v1 (cf_234_0 v1 N)) 56 13 0) 56 6) = true) → (cp_233_91 (mz_pI (cf_237_0 v1 (cf_234_0 v1 N)) 56 13 0)))))) ∧ (¬ ((mz_gI (mz_pI (cf_237_0 v1 (cf_234_0 v1 N)) 56 13 0) 53 11) = 1) → (cp_233_91 (mz_pI (cf_237_0 v1 (cf_234_0 v1 N)) 56 13 0)))))
/-! 245 KeptHouse$Climate.ventilate (LKeptHouse$Plan;I)V -/
noncomputable def cf_245_43 (v2 : Int32) (v3 : Int32) (N : mz_N) : ((Int32 × mz_N) ⊕ (mz_N)) := (.inl ((v3 + 1), N))
def cp_245_43 (v2 : Int32) (v3 : Int32) (N : mz_N) : Prop := True
noncomputable def cq_245_2 (v2 : Int32) (s : Int32 × mz_N) : ((Int32 × mz_N) ⊕ (mz_N)) := if s.1 < (s.2.1 2 7) then (cf_245_43 v2 s.1 (mz_wL s.2 74 s.1 ((mz_gL s.2 74 s.1) - (((mz_gL s.2 74 s.1) * (((2 * (mz_gI s.2 22 s.1)) + v2).toInt64)) / 1000)))) else (.inr s.2)
def cd_245_2 (v2 : Int32) (s : Int32 × mz_N) : Prop := (s.1 < (s.2.1 2 7) → ((mz_ib s.1 40) ∧ ((mz_ib s.1 40) ∧ ((mz_ib s.1 40) ∧ ((mz_ib s.1 40) ∧ (cp_245_43 v2 s.1 (mz_wL s.2 74 s.1 ((mz_gL s.2 74 s.1) - (((mz_gL s.2 74 s.1) * (((2 * (mz_gI s.2 22 s.1)) + v2).toInt64)) / 1000))))))))) ∧ (¬ (s.1 < (s.2.1 2 7)) → True)
noncomputable def cf_245_2 (v2 : Int32) (v3 : Int32) (N : mz_N) : (mz_N) := mz_run (cq_245_2 v2) (v3, N)
def cp_245_2 (v2 : Int32) (v3 : Int32) (N : mz_N) : Prop := ∃ n, mz_ok (cq_245_2 v2) (cd_245_2 v2) n (v3, N)
noncomputable def cf_245_0 (v2 : Int32) (N : mz_N) : (mz_N) := (cf_245_2 v2 0 N)
def cp_245_0 (v2 : Int32) (N : mz_N) : Prop := cp_245_2 v2 0 N
/-! 246 KeptHouse$Climate.growMould (LKeptHouse$Plan;)V -/
noncomputable def cf_246_95 (v2 : Int32) (N : mz_N) : ((Int32 × mz_N) ⊕ (mz_N)) := (.inl ((v2 + 1), N))
def cp_246_95 (v2 : Int32) (N : mz_N) : Prop := True
noncomputable def cf_246_94 (s1 : Int32) (s2 : Int32) (v2 : Int32) (N : mz_N) : ((Int32 × mz_N) ⊕ (mz_N)) := (cf_246_95 v2 (mz_wI N 72 s1 s2))
def cp_246_94 (s1 : Int32) (s2 : Int32) (v2 : Int32) (N : mz_N) : Prop := (mz_ib s1 240) ∧ (cp_246_95 v2 (mz_wI N 72 s1 s2))
noncomputable def cf_246_55 (s0 : Bool) (v2 : Int32) (N : mz_N) : ((Int32 × mz_N) ⊕ (mz_N)) := if s0 = true then (cf_246_94 v2 (mz_imin 1000 ((mz_gI N 72 v2) + 1)) v2 N) else (cf_246_94 v2 (mz_imax 0 ((mz_gI N 72 v2) - 1)) v2 N)
def cp_246_55 (s0 : Bool) (v2 : Int32) (N : mz_N) : Prop := (s0 = true → ((mz_ib v2 240) ∧ (cp_246_94 v2 (mz_imin 1000 ((mz_gI N 72 v2) + 1)) v2 N))) ∧ (¬ (s0 = true) → ((mz_ib v2 240) ∧ (cp_246_94 v2 (mz_imax 0 ((mz_gI N 72 v2) - 1)) v2 N)))
noncomputable def cf_246_54 (v2 : Int32) (N : mz_N) : ((Int32 × mz_N) ⊕ (mz_N)) := (cf_246_55 false v2 N)
def cp_246_54 (v2 : Int32) (N : mz_N) : Prop := cp_246_55 false v2 N
noncomputable def cq_246_2  (s : Int32 × mz_N) : ((Int32 × mz_N) ⊕ (mz_N)) := if s.1 < 240 then (if (mz_gI s.2 36 s.1) = 1 then (if (mz_gL s.2 75 (mz_gI s.2 15 s.1)) < 130 then (if 300 < (mz_gL s.2 70 s.1) then (cf_246_55 true s.1 s.2) else (cf_246_54 s.1 s.2)) else (cf_246_54 s.1 s.2)) else (cf_246_95 s.1 s.2)) else (.inr s.2)
def cd_246_2  (s : Int32 × mz_N) : Prop := (s.1 < 240 → ((mz_ib s.1 240) ∧ (((mz_gI s.2 36 s.1) = 1 → ((mz_ib s.1 240) ∧ ((mz_ib (mz_gI s.2 15 s.1) 40) ∧ (((mz_gL s.2 75 (mz_gI s.2 15 s.1)) < 130 → ((mz_ib s.1 240) ∧ ((300 < (mz_gL s.2 70 s.1) → (cp_246_55 true s.1 s.2)) ∧ (¬ (300 < (mz_gL s.2 70 s.1)) → (cp_246_54 s.1 s.2))))) ∧ (¬ ((mz_gL s.2 75 (mz_gI s.2 15 s.1)) < 130) → (cp_246_54 s.1 s.2)))))) ∧ (¬ ((mz_gI s.2 36 s.1) = 1) → (cp_246_95 s.1 s.2))))) ∧ (¬ (s.1 < 240) → True)
noncomputable def cf_246_2 (v2 : Int32) (N : mz_N) : (mz_N) := mz_run (cq_246_2 ) (v2, N)
def cp_246_2 (v2 : Int32) (N : mz_N) : Prop := ∃ n, mz_ok (cq_246_2 ) (cd_246_2 ) n (v2, N)
noncomputable def cf_246_0 (N : mz_N) : (mz_N) := (cf_246_2 0 N)
def cp_246_0 (N : mz_N) : Prop := cp_246_2 0 N
/-! 244 KeptHouse$Climate.air (LKeptHouse$Plan;LKeptHouse$Supply;[II)V -/
noncomputable def cf_244_165 (v4 : Int32) (v5 : Int32) (v6 : Int32) (N : mz_N) : ((Int32 × mz_N) ⊕ (mz_N)) := (.inl ((v6 + 1), N))
def cp_244_165 (v4 : Int32) (v5 : Int32) (v6 : Int32) (N : mz_N) : Prop := True
noncomputable def cq_244_111 (v4 : Int32) (v5 : Int32) (s : Int32 × mz_N) : ((Int32 × mz_N) ⊕ (mz_N)) := if s.1 < 10 then (if (mz_gI s.2 38 s.1) = (-1) then (cf_244_165 v4 v5 s.1 s.2) else (cf_244_165 v4 v5 s.1 (mz_wL s.2 74 (mz_gI s.2 38 s.1) ((mz_gL s.2 74 (mz_gI s.2 38 s.1)) + (((5 * (cf_221_0 s.1 v4 s.2)) + (2 * (mz_gI s.2 64 s.1))).toInt64))))) else (.inr (cf_246_0 (cf_243_0 70 (cf_245_0 v5 s.2))))
def cd_244_111 (v4 : Int32) (v5 : Int32) (s : Int32 × mz_N) : Prop := (s.1 < 10 → ((mz_ib s.1 10) ∧ (((mz_gI s.2 38 s.1) = (-1) → (cp_244_165 v4 v5 s.1 s.2)) ∧ (¬ ((mz_gI s.2 38 s.1) = (-1)) → ((mz_ib s.1 10) ∧ ((mz_ib (mz_gI s.2 38 s.1) 40) ∧ ((cp_221_0 s.1 v4 s.2) ∧ ((mz_ib s.1 10) ∧ ((mz_ib (mz_gI s.2 38 s.1) 40) ∧ (cp_244_165 v4 v5 s.1 (mz_wL s.2 74 (mz_gI s.2 38 s.1) ((mz_gL s.2 74 (mz_gI s.2 38 s.1)) + (((5 * (cf_221_0 s.1 v4 s.2)) + (2 * (mz_gI s.2 64 s.1))).toInt64))))))))))))) ∧ (¬ (s.1 < 10) → ((cp_245_0 v5 s.2) ∧ ((cp_243_0 70 (cf_245_0 v5 s.2)) ∧ (cp_246_0 (cf_243_0 70 (cf_245_0 v5 s.2))))))
noncomputable def cf_244_111 (v4 : Int32) (v5 : Int32) (v6 : Int32) (N : mz_N) : (mz_N) := mz_run (cq_244_111 v4 v5) (v6, N)
def cp_244_111 (v4 : Int32) (v5 : Int32) (v6 : Int32) (N : mz_N) : Prop := ∃ n, mz_ok (cq_244_111 v4 v5) (cd_244_111 v4 v5) n (v6, N)
noncomputable def cf_244_81 (s0 : Int32) (v4 : Int32) (N : mz_N) : (mz_N) := (cf_244_111 v4 s0 0 (cf_235_0 70 (cf_243_0 69 (cf_245_0 s0 N))))
def cp_244_81 (s0 : Int32) (v4 : Int32) (N : mz_N) : Prop := (cp_245_0 s0 N) ∧ ((cp_243_0 69 (cf_245_0 s0 N)) ∧ ((cp_235_0 70 (cf_243_0 69 (cf_245_0 s0 N))) ∧ (cp_244_111 v4 s0 0 (cf_235_0 70 (cf_243_0 69 (cf_245_0 s0 N))))))
noncomputable def cf_244_57 (v4 : Int32) (v5 : Int32) (N : mz_N) : ((Int32 × mz_N) ⊕ (mz_N)) := (.inl ((v5 + 1), N))
def cp_244_57 (v4 : Int32) (v5 : Int32) (N : mz_N) : Prop := True
noncomputable def cq_244_12 (v4 : Int32) (s : Int32 × mz_N) : ((Int32 × mz_N) ⊕ (mz_N)) := if s.1 < 10 then (if (mz_gI s.2 38 s.1) = (-1) then (cf_244_57 v4 s.1 s.2) else (cf_244_57 v4 s.1 (mz_wL s.2 74 (mz_gI s.2 38 s.1) ((mz_gL s.2 74 (mz_gI s.2 38 s.1)) + ((20 * (cf_221_0 s.1 v4 s.2)).toInt64))))) else (if (mz_fZ s.2 56 6) = true then (.inr (cf_244_81 (10 * (mz_gI s.2 53 13)) v4 s.2)) else (.inr (cf_244_81 0 v4 s.2)))
def cd_244_12 (v4 : Int32) (s : Int32 × mz_N) : Prop := (s.1 < 10 → ((mz_ib s.1 10) ∧ (((mz_gI s.2 38 s.1) = (-1) → (cp_244_57 v4 s.1 s.2)) ∧ (¬ ((mz_gI s.2 38 s.1) = (-1)) → ((mz_ib s.1 10) ∧ ((mz_ib (mz_gI s.2 38 s.1) 40) ∧ ((cp_221_0 s.1 v4 s.2) ∧ ((mz_ib (mz_gI s.2 38 s.1) 40) ∧ (cp_244_57 v4 s.1 (mz_wL s.2 74 (mz_gI s.2 38 s.1) ((mz_gL s.2 74 (mz_gI s.2 38 s.1)) + ((20 * (cf_221_0 s.1 v4 s.2)).toInt64)))))))))))) ∧ (¬ (s.1 < 10) → ((mz_z01 (s.2.1 56 6)) ∧ (((mz_fZ s.2 56 6) = true → (cp_244_81 (10 * (mz_gI s.2 53 13)) v4 s.2)) ∧ (¬ ((mz_fZ s.2 56 6) = true) → (cp_244_81 0 v4 s.2)))))
noncomputable def cf_244_12 (v4 : Int32) (v5 : Int32) (N : mz_N) : (mz_N) := mz_run (cq_244_12 v4) (v5, N)
def cp_244_12 (v4 : Int32) (v5 : Int32) (N : mz_N) : Prop := ∃ n, mz_ok (cq_244_12 v4) (cd_244_12 v4) n (v5, N)
noncomputable def cf_244_0 (v4 : Int32) (N : mz_N) : (mz_N) := (cf_244_12 v4 0 (cf_235_0 69 N))
def cp_244_0 (v4 : Int32) (N : mz_N) : Prop := (cp_235_0 69 N) ∧ (cp_244_12 v4 0 (cf_235_0 69 N))
/-! 248 KeptHouse$Climate.growFlames ()V -/
noncomputable def cf_248_87 (v1 : Int32) (N : mz_N) : ((Int32 × mz_N) ⊕ (mz_N)) := (.inl ((v1 + 1), N))
def cp_248_87 (v1 : Int32) (N : mz_N) : Prop := True
noncomputable def cf_248_48 (v1 : Int32) (N : mz_N) : ((Int32 × mz_N) ⊕ (mz_N)) := (cf_248_87 v1 (mz_wI (mz_wL N 68 v1 ((mz_gL N 68 v1) + ((50 * (mz_gI N 73 v1)).toInt64))) 73 v1 (mz_imin 100 ((mz_gI (mz_wL N 68 v1 ((mz_gL N 68 v1) + ((50 * (mz_gI N 73 v1)).toInt64))) 73 v1) + 10))))
def cp_248_48 (v1 : Int32) (N : mz_N) : Prop := (mz_ib v1 240) ∧ ((mz_ib v1 240) ∧ ((mz_ib v1 240) ∧ ((mz_ib v1 240) ∧ ((mz_ib v1 240) ∧ (cp_248_87 v1 (mz_wI (mz_wL N 68 v1 ((mz_gL N 68 v1) + ((50 * (mz_gI N 73 v1)).toInt64))) 73 v1 (mz_imin 100 ((mz_gI (mz_wL N 68 v1 ((mz_gL N 68 v1) + ((50 * (mz_gI N 73 v1)).toInt64))) 73 v1) + 10))))))))
noncomputable def cq_248_2  (s : Int32 × mz_N) : ((Int32 × mz_N) ⊕ (mz_N)) := if s.1 < 240 then (if 0 < (mz_gI (mz_wI s.2 80 s.1 (mz_gI s.2 73 s.1)) 73 s.1) then (cf_248_48 s.1 (mz_wL (mz_wI s.2 80 s.1 (mz_gI s.2 73 s.1)) 71 s.1 ((mz_gL (mz_wI s.2 80 s.1 (mz_gI s.2 73 s.1)) 71 s.1) + ((2 * (mz_gI (mz_wI s.2 80 s.1 (mz_gI s.2 73 s.1)) 73 s.1)).toInt64)))) else (cf_248_87 s.1 (mz_wI s.2 80 s.1 (mz_gI s.2 73 s.1)))) else (.inr s.2)
def cd_248_2  (s : Int32 × mz_N) : Prop := (s.1 < 240 → ((mz_ib s.1 240) ∧ ((mz_ib s.1 240) ∧ ((mz_ib s.1 240) ∧ ((0 < (mz_gI (mz_wI s.2 80 s.1 (mz_gI s.2 73 s.1)) 73 s.1) → ((mz_ib s.1 240) ∧ ((mz_ib s.1 240) ∧ ((mz_ib s.1 240) ∧ (cp_248_48 s.1 (mz_wL (mz_wI s.2 80 s.1 (mz_gI s.2 73 s.1)) 71 s.1 ((mz_gL (mz_wI s.2 80 s.1 (mz_gI s.2 73 s.1)) 71 s.1) + ((2 * (mz_gI (mz_wI s.2 80 s.1 (mz_gI s.2 73 s.1)) 73 s.1)).toInt64)))))))) ∧ (¬ (0 < (mz_gI (mz_wI s.2 80 s.1 (mz_gI s.2 73 s.1)) 73 s.1)) → (cp_248_87 s.1 (mz_wI s.2 80 s.1 (mz_gI s.2 73 s.1))))))))) ∧ (¬ (s.1 < 240) → True)
noncomputable def cf_248_2 (v1 : Int32) (N : mz_N) : (mz_N) := mz_run (cq_248_2 ) (v1, N)
def cp_248_2 (v1 : Int32) (N : mz_N) : Prop := ∃ n, mz_ok (cq_248_2 ) (cd_248_2 ) n (v1, N)
noncomputable def cf_248_0 (N : mz_N) : (mz_N) := (cf_248_2 0 N)
def cp_248_0 (N : mz_N) : Prop := cp_248_2 0 N
/-! 250 KeptHouse$Climate.lightCell (I)Z -/
noncomputable def cf_250_0 (v1 : Int32) (N : mz_N) : (Bool × mz_N) := if 0 < (mz_gI N 73 v1) then (false, N) else (true, mz_pI (mz_wI N 73 v1 10) 65 8 (mz_b01 true))
def cp_250_0 (v1 : Int32) (N : mz_N) : Prop := (mz_ib v1 240) ∧ ((0 < (mz_gI N 73 v1) → True) ∧ (¬ (0 < (mz_gI N 73 v1)) → (mz_ib v1 240)))
/-! 249 KeptHouse$Climate.lightNeighbours (LKeptHouse$Plan;)V -/
noncomputable def cf_249_92 (v2 : Int32) (N : mz_N) : ((Int32 × mz_N) ⊕ (mz_N)) := (.inl ((v2 + 1), N))
def cp_249_92 (v2 : Int32) (N : mz_N) : Prop := True
noncomputable def cf_249_86 (v2 : Int32) (v3 : Int32) (N : mz_N) : ((Int32 × mz_N) ⊕ ((Int32 × mz_N) ⊕ (mz_N))) := (.inl ((v3 + 1), N))
def cp_249_86 (v2 : Int32) (v3 : Int32) (N : mz_N) : Prop := True
noncomputable def cq_249_22 (v2 : Int32) (s : Int32 × mz_N) : ((Int32 × mz_N) ⊕ ((Int32 × mz_N) ⊕ (mz_N))) := if s.1 < 4 then (if (cf_80_0 (mz_irem v2 48) s.1) = (-1) then (cf_249_86 v2 s.1 s.2) else (if (mz_gI s.2 3 (((v2 / 48) * 110) + (cf_81_0 (mz_irem v2 48) s.1))) = 0 then (cf_249_86 v2 s.1 ((cf_250_0 (((v2 / 48) * 48) + (cf_80_0 (mz_irem v2 48) s.1)) s.2).2)) else (cf_249_86 v2 s.1 s.2))) else (.inr (cf_249_92 v2 s.2))
def cd_249_22 (v2 : Int32) (s : Int32 × mz_N) : Prop := (s.1 < 4 → (((cf_80_0 (mz_irem v2 48) s.1) = (-1) → (cp_249_86 v2 s.1 s.2)) ∧ (¬ ((cf_80_0 (mz_irem v2 48) s.1) = (-1)) → ((mz_ib (((v2 / 48) * 110) + (cf_81_0 (mz_irem v2 48) s.1)) 550) ∧ (((mz_gI s.2 3 (((v2 / 48) * 110) + (cf_81_0 (mz_irem v2 48) s.1))) = 0 → ((cp_250_0 (((v2 / 48) * 48) + (cf_80_0 (mz_irem v2 48) s.1)) s.2) ∧ (cp_249_86 v2 s.1 ((cf_250_0 (((v2 / 48) * 48) + (cf_80_0 (mz_irem v2 48) s.1)) s.2).2)))) ∧ (¬ ((mz_gI s.2 3 (((v2 / 48) * 110) + (cf_81_0 (mz_irem v2 48) s.1))) = 0) → (cp_249_86 v2 s.1 s.2))))))) ∧ (¬ (s.1 < 4) → (cp_249_92 v2 s.2))
noncomputable def cf_249_22 (v2 : Int32) (v3 : Int32) (N : mz_N) : ((Int32 × mz_N) ⊕ (mz_N)) := mz_run (cq_249_22 v2) (v3, N)
def cp_249_22 (v2 : Int32) (v3 : Int32) (N : mz_N) : Prop := ∃ n, mz_ok (cq_249_22 v2) (cd_249_22 v2) n (v3, N)
noncomputable def cq_249_2  (s : Int32 × mz_N) : ((Int32 × mz_N) ⊕ (mz_N)) := if s.1 < 240 then (if (mz_gI s.2 80 s.1) = 100 then (cf_249_22 s.1 0 s.2) else (cf_249_92 s.1 s.2)) else (.inr s.2)
def cd_249_2  (s : Int32 × mz_N) : Prop := (s.1 < 240 → ((mz_ib s.1 240) ∧ (((mz_gI s.2 80 s.1) = 100 → (cp_249_22 s.1 0 s.2)) ∧ (¬ ((mz_gI s.2 80 s.1) = 100) → (cp_249_92 s.1 s.2))))) ∧ (¬ (s.1 < 240) → True)
noncomputable def cf_249_2 (v2 : Int32) (N : mz_N) : (mz_N) := mz_run (cq_249_2 ) (v2, N)
def cp_249_2 (v2 : Int32) (N : mz_N) : Prop := ∃ n, mz_ok (cq_249_2 ) (cd_249_2 ) n (v2, N)
noncomputable def cf_249_0 (N : mz_N) : (mz_N) := (cf_249_2 0 N)
def cp_249_0 (N : mz_N) : Prop := cp_249_2 0 N
/-! 251 KeptHouse$Climate.driftSmoke (LKeptHouse$Plan;)V -/
noncomputable def cf_251_120 (v2 : Int32) (N : mz_N) : ((Int32 × mz_N) ⊕ (mz_N)) := (.inl ((v2 + 1), N))
def cp_251_120 (v2 : Int32) (N : mz_N) : Prop := True
noncomputable def cq_251_18  (s : Int32 × mz_N) : ((Int32 × mz_N) ⊕ (mz_N)) := if s.1 < 550 then (if (mz_gI s.2 3 s.1) = 0 then (if (cf_21_0 (mz_irem s.1 110)) = (-1) then (cf_251_120 s.1 (mz_wL (mz_wL s.2 71 (((s.1 / 110) * 48) + (cf_84_0 (mz_irem s.1 110))) ((mz_gL s.2 71 (((s.1 / 110) * 48) + (cf_84_0 (mz_irem s.1 110)))) - (((mz_gL s.2 79 (((s.1 / 110) * 48) + (cf_84_0 (mz_irem s.1 110)))) - (mz_gL s.2 79 (((s.1 / 110) * 48) + (cf_85_0 (mz_irem s.1 110))))) / 4))) 71 (((s.1 / 110) * 48) + (cf_85_0 (mz_irem s.1 110))) ((mz_gL (mz_wL s.2 71 (((s.1 / 110) * 48) + (cf_84_0 (mz_irem s.1 110))) ((mz_gL s.2 71 (((s.1 / 110) * 48) + (cf_84_0 (mz_irem s.1 110)))) - (((mz_gL s.2 79 (((s.1 / 110) * 48) + (cf_84_0 (mz_irem s.1 110)))) - (mz_gL s.2 79 (((s.1 / 110) * 48) + (cf_85_0 (mz_irem s.1 110))))) / 4))) 71 (((s.1 / 110) * 48) + (cf_85_0 (mz_irem s.1 110)))) + (((mz_gL s.2 79 (((s.1 / 110) * 48) + (cf_84_0 (mz_irem s.1 110)))) - (mz_gL s.2 79 (((s.1 / 110) * 48) + (cf_85_0 (mz_irem s.1 110))))) / 4)))) else (cf_251_120 s.1 s.2)) else (cf_251_120 s.1 s.2)) else (.inr s.2)
def cd_251_18  (s : Int32 × mz_N) : Prop := (s.1 < 550 → ((mz_ib s.1 550) ∧ (((mz_gI s.2 3 s.1) = 0 → (((cf_21_0 (mz_irem s.1 110)) = (-1) → ((mz_ib (((s.1 / 110) * 48) + (cf_84_0 (mz_irem s.1 110))) 240) ∧ ((mz_ib (((s.1 / 110) * 48) + (cf_85_0 (mz_irem s.1 110))) 240) ∧ ((mz_ib (((s.1 / 110) * 48) + (cf_84_0 (mz_irem s.1 110))) 240) ∧ ((mz_ib (((s.1 / 110) * 48) + (cf_84_0 (mz_irem s.1 110))) 240) ∧ ((mz_ib (((s.1 / 110) * 48) + (cf_85_0 (mz_irem s.1 110))) 240) ∧ ((mz_ib (((s.1 / 110) * 48) + (cf_85_0 (mz_irem s.1 110))) 240) ∧ (cp_251_120 s.1 (mz_wL (mz_wL s.2 71 (((s.1 / 110) * 48) + (cf_84_0 (mz_irem s.1 110))) ((mz_gL s.2 71 (((s.1 / 110) * 48) + (cf_84_0 (mz_irem s.1 110)))) - (((mz_gL s.2 79 (((s.1 / 110) * 48) + (cf_84_0 (mz_irem s.1 110)))) - (mz_gL s.2 79 (((s.1 / 110) * 48) + (cf_85_0 (mz_irem s.1 110))))) / 4))) 71 (((s.1 / 110) * 48) + (cf_85_0 (mz_irem s.1 110))) ((mz_gL (mz_wL s.2 71 (((s.1 / 110) * 48) + (cf_84_0 (mz_irem s.1 110))) ((mz_gL s.2 71 (((s.1 / 110) * 48) + (cf_84_0 (mz_irem s.1 110)))) - (((mz_gL s.2 79 (((s.1 / 110) * 48) + (cf_84_0 (mz_irem s.1 110)))) - (mz_gL s.2 79 (((s.1 / 110) * 48) + (cf_85_0 (mz_irem s.1 110))))) / 4))) 71 (((s.1 / 110) * 48) + (cf_85_0 (mz_irem s.1 110)))) + (((mz_gL s.2 79 (((s.1 / 110) * 48) + (cf_84_0 (mz_irem s.1 110)))) - (mz_gL s.2 79 (((s.1 / 110) * 48) + (cf_85_0 (mz_irem s.1 110))))) / 4))))))))))) ∧ (¬ ((cf_21_0 (mz_irem s.1 110)) = (-1)) → (cp_251_120 s.1 s.2)))) ∧ (¬ ((mz_gI s.2 3 s.1) = 0) → (cp_251_120 s.1 s.2))))) ∧ (¬ (s.1 < 550) → True)
noncomputable def cf_251_18 (v2 : Int32) (N : mz_N) : (mz_N) := mz_run (cq_251_18 ) (v2, N)
def cp_251_18 (v2 : Int32) (N : mz_N) : Prop := ∃ n, mz_ok (cq_251_18 ) (cd_251_18 ) n (v2, N)
noncomputable def cf_251_0 (N : mz_N) : (mz_N) := (cf_251_18 0 (mz_yL N 71 0 79 0 240))
def cp_251_0 (N : mz_N) : Prop := cp_251_18 0 (mz_yL N 71 0 79 0 240)
/-! 252 KeptHouse$Climate.ventSmoke (I)V -/
noncomputable def cf_252_31 (v1 : Int32) (v2 : Int32) (N : mz_N) : ((Int32 × mz_N) ⊕ (mz_N)) := (.inl ((v2 + 1), N))
def cp_252_31 (v1 : Int32) (v2 : Int32) (N : mz_N) : Prop := True
noncomputable def cq_252_2 (v1 : Int32) (s : Int32 × mz_N) : ((Int32 × mz_N) ⊕ (mz_N)) := if s.1 < 240 then (cf_252_31 v1 s.1 (mz_wL s.2 71 s.1 ((mz_gL s.2 71 s.1) - (((mz_gL s.2 71 s.1) * v1.toInt64) / 50)))) else (.inr s.2)
def cd_252_2 (v1 : Int32) (s : Int32 × mz_N) : Prop := (s.1 < 240 → ((mz_ib s.1 240) ∧ ((mz_ib s.1 240) ∧ ((mz_ib s.1 240) ∧ (cp_252_31 v1 s.1 (mz_wL s.2 71 s.1 ((mz_gL s.2 71 s.1) - (((mz_gL s.2 71 s.1) * v1.toInt64) / 50)))))))) ∧ (¬ (s.1 < 240) → True)
noncomputable def cf_252_2 (v1 : Int32) (v2 : Int32) (N : mz_N) : (mz_N) := mz_run (cq_252_2 v1) (v2, N)
def cp_252_2 (v1 : Int32) (v2 : Int32) (N : mz_N) : Prop := ∃ n, mz_ok (cq_252_2 v1) (cd_252_2 v1) n (v2, N)
noncomputable def cf_252_0 (v1 : Int32) (N : mz_N) : (mz_N) := (cf_252_2 v1 0 N)
def cp_252_0 (v1 : Int32) (N : mz_N) : Prop := cp_252_2 v1 0 N
/-! 253 KeptHouse$Climate.sprinkle (LKeptHouse$Plan;LKeptHouse$Supply;)V -/
noncomputable def cf_253_115 (v3 : Int32) (N : mz_N) : ((Int32 × mz_N) ⊕ (mz_N)) := (.inl ((v3 + 1), N))
def cp_253_115 (v3 : Int32) (N : mz_N) : Prop := True
noncomputable def cf_253_109 (v3 : Int32) (v4 : Int32) (v5 : Int32) (N : mz_N) : ((Int32 × mz_N) ⊕ ((Int32 × mz_N) ⊕ (mz_N))) := (.inl ((v5 + 1), N))
def cp_253_109 (v3 : Int32) (v4 : Int32) (v5 : Int32) (N : mz_N) : Prop := True
noncomputable def cq_253_33 (v3 : Int32) (v4 : Int32) (s : Int32 × mz_N) : ((Int32 × mz_N) ⊕ ((Int32 × mz_N) ⊕ (mz_N))) := if s.1 < (mz_gI s.2 19 v3) then (if 0 < (mz_gI s.2 73 (mz_gI s.2 30 (v4 + s.1))) then (if (s.2.1 56 7) < 10 then (cf_253_109 v3 v4 s.1 s.2) else (cf_253_109 v3 v4 s.1 (mz_wI (mz_pI s.2 56 7 ((s.2.1 56 7) - 10)) 73 (mz_gI s.2 30 (v4 + s.1)) (mz_imax 0 ((mz_gI (mz_pI s.2 56 7 ((s.2.1 56 7) - 10)) 73 (mz_gI s.2 30 (v4 + s.1))) - 30))))) else (cf_253_109 v3 v4 s.1 s.2)) else (.inr (cf_253_115 v3 s.2))
def cd_253_33 (v3 : Int32) (v4 : Int32) (s : Int32 × mz_N) : Prop := (mz_ib v3 40) ∧ ((s.1 < (mz_gI s.2 19 v3) → ((mz_ib (v4 + s.1) 240) ∧ ((mz_ib (mz_gI s.2 30 (v4 + s.1)) 240) ∧ ((0 < (mz_gI s.2 73 (mz_gI s.2 30 (v4 + s.1))) → (((s.2.1 56 7) < 10 → (cp_253_109 v3 v4 s.1 s.2)) ∧ (¬ ((s.2.1 56 7) < 10) → ((mz_ib (mz_gI s.2 30 (v4 + s.1)) 240) ∧ ((mz_ib (mz_gI s.2 30 (v4 + s.1)) 240) ∧ (cp_253_109 v3 v4 s.1 (mz_wI (mz_pI s.2 56 7 ((s.2.1 56 7) - 10)) 73 (mz_gI s.2 30 (v4 + s.1)) (mz_imax 0 ((mz_gI (mz_pI s.2 56 7 ((s.2.1 56 7) - 10)) 73 (mz_gI s.2 30 (v4 + s.1))) - 30))))))))) ∧ (¬ (0 < (mz_gI s.2 73 (mz_gI s.2 30 (v4 + s.1)))) → (cp_253_109 v3 v4 s.1 s.2)))))) ∧ (¬ (s.1 < (mz_gI s.2 19 v3)) → (cp_253_115 v3 s.2)))
noncomputable def cf_253_33 (v3 : Int32) (v4 : Int32) (v5 : Int32) (N : mz_N) : ((Int32 × mz_N) ⊕ (mz_N)) := mz_run (cq_253_33 v3 v4) (v5, N)
def cp_253_33 (v3 : Int32) (v4 : Int32) (v5 : Int32) (N : mz_N) : Prop := ∃ n, mz_ok (cq_253_33 v3 v4) (cd_253_33 v3 v4) n (v5, N)
noncomputable def cq_253_2  (s : Int32 × mz_N) : ((Int32 × mz_N) ⊕ (mz_N)) := if s.1 < (s.2.1 2 7) then (if (cf_210_0 s.1 s.2) = true then (cf_253_33 s.1 (mz_gI s.2 28 s.1) 0 s.2) else (cf_253_115 s.1 s.2)) else (.inr s.2)
def cd_253_2  (s : Int32 × mz_N) : Prop := (s.1 < (s.2.1 2 7) → ((cp_210_0 s.1 s.2) ∧ (((cf_210_0 s.1 s.2) = true → ((mz_ib s.1 40) ∧ (cp_253_33 s.1 (mz_gI s.2 28 s.1) 0 s.2))) ∧ (¬ ((cf_210_0 s.1 s.2) = true) → (cp_253_115 s.1 s.2))))) ∧ (¬ (s.1 < (s.2.1 2 7)) → True)
noncomputable def cf_253_2 (v3 : Int32) (N : mz_N) : (mz_N) := mz_run (cq_253_2 ) (v3, N)
def cp_253_2 (v3 : Int32) (N : mz_N) : Prop := ∃ n, mz_ok (cq_253_2 ) (cd_253_2 ) n (v3, N)
noncomputable def cf_253_0 (N : mz_N) : (mz_N) := (cf_253_2 0 N)
def cp_253_0 (N : mz_N) : Prop := cp_253_2 0 N
/-! 254 KeptHouse$Climate.isAnyLeft ()Z -/
noncomputable def cq_254_2 (N : mz_N) (s : Int32) : ((Int32) ⊕ (Bool)) := if s < 240 then (if 0 < (mz_gI N 73 s) then (.inr true) else (if 0 < (mz_gL N 71 s) then (.inr true) else (.inl ((s + 1))))) else (.inr false)
def cd_254_2 (N : mz_N) (s : Int32) : Prop := (s < 240 → ((mz_ib s 240) ∧ ((0 < (mz_gI N 73 s) → True) ∧ (¬ (0 < (mz_gI N 73 s)) → (mz_ib s 240))))) ∧ (¬ (s < 240) → True)
noncomputable def cf_254_2 (v1 : Int32) (N : mz_N) : (Bool) := mz_run (cq_254_2 N) (v1)
def cp_254_2 (v1 : Int32) (N : mz_N) : Prop := ∃ n, mz_ok (cq_254_2 N) (cd_254_2 N) n (v1)
noncomputable def cf_254_0 (N : mz_N) : (Bool) := (cf_254_2 0 N)
def cp_254_0 (N : mz_N) : Prop := cp_254_2 0 N
/-! 247 KeptHouse$Climate.burn (LKeptHouse$Plan;LKeptHouse$Supply;[I)V -/
noncomputable def cf_247_43 (N : mz_N) : (mz_N) := mz_pI N 65 8 (mz_b01 (cf_254_0 N))
def cp_247_43 (N : mz_N) : Prop := cp_254_0 N
noncomputable def cf_247_29 (N : mz_N) : (mz_N) := if (mz_gI N 53 15) = 1 then (cf_247_43 (cf_253_0 N)) else (cf_247_43 N)
def cp_247_29 (N : mz_N) : Prop := ((mz_gI N 53 15) = 1 → ((cp_253_0 N) ∧ (cp_247_43 (cf_253_0 N)))) ∧ (¬ ((mz_gI N 53 15) = 1) → (cp_247_43 N))
noncomputable def cf_247_0 (N : mz_N) : (mz_N) := if (mz_fZ (cf_251_0 (cf_249_0 (cf_248_0 N))) 56 6) = true then (cf_247_29 (cf_252_0 (mz_gI (cf_251_0 (cf_249_0 (cf_248_0 N))) 53 13) (cf_251_0 (cf_249_0 (cf_248_0 N))))) else (cf_247_29 (cf_251_0 (cf_249_0 (cf_248_0 N))))
def cp_247_0 (N : mz_N) : Prop := (cp_248_0 N) ∧ ((cp_249_0 (cf_248_0 N)) ∧ ((cp_251_0 (cf_249_0 (cf_248_0 N))) ∧ ((mz_z01 ((cf_251_0 (cf_249_0 (cf_248_0 N))).1 56 6)) ∧ (((mz_fZ (cf_251_0 (cf_249_0 (cf_248_0 N))) 56 6) = true → ((cp_252_0 (mz_gI (cf_251_0 (cf_249_0 (cf_248_0 N))) 53 13) (cf_251_0 (cf_249_0 (cf_248_0 N)))) ∧ (cp_247_29 (cf_252_0 (mz_gI (cf_251_0 (cf_249_0 (cf_248_0 N))) 53 13) (cf_251_0 (cf_249_0 (cf_248_0 N))))))) ∧ (¬ ((mz_fZ (cf_251_0 (cf_249_0 (cf_248_0 N))) 56 6) = true) → (cp_247_29 (cf_251_0 (cf_249_0 (cf_248_0 N)))))))))
/-! 256 KeptHouse$Care.wearOut (IZ)V -/
noncomputable def cf_256_0 (v1 : Int32) (v2 : Bool) (N : mz_N) : (mz_N) := if v2 = true then (mz_wI N 126 v1 ((mz_gI N 126 v1) + 1)) else N
def cp_256_0 (v1 : Int32) (v2 : Bool) (N : mz_N) : Prop := (v2 = true → ((mz_ib v1 3) ∧ (mz_ib v1 3))) ∧ (¬ (v2 = true) → True)
/-! 257 KeptHouse$Care.isSpent (I)Z -/
noncomputable def cf_257_0 (v1 : Int32) (N : mz_N) : (Bool) := if (cf_224_0 v1 N) = true then (if (mz_gI N 126 v1) < (mz_gI N 125 v1) then false else true) else false
def cp_257_0 (v1 : Int32) (N : mz_N) : Prop := (cp_224_0 v1 N) ∧ (((cf_224_0 v1 N) = true → ((mz_ib v1 3) ∧ (mz_ib v1 3))) ∧ (¬ ((cf_224_0 v1 N) = true) → True))
/-! 259 KeptHouse$Care.freePlace ()I -/
noncomputable def cq_259_2 (N : mz_N) (s : Int32) : ((Int32) ⊕ (Int32)) := if s < 16 then (if (mz_gI N 123 s) = 0 then (.inr s) else (.inl ((s + 1)))) else (.inr (-1))
def cd_259_2 (N : mz_N) (s : Int32) : Prop := (s < 16 → (mz_ib s 16)) ∧ (¬ (s < 16) → True)
noncomputable def cf_259_2 (v1 : Int32) (N : mz_N) : (Int32) := mz_run (cq_259_2 N) (v1)
def cp_259_2 (v1 : Int32) (N : mz_N) : Prop := ∃ n, mz_ok (cq_259_2 N) (cd_259_2 N) n (v1)
noncomputable def cf_259_0 (N : mz_N) : (Int32) := (cf_259_2 0 N)
def cp_259_0 (N : mz_N) : Prop := cp_259_2 0 N
/-! 260 KeptHouse$Care.give (IIIII)V -/
noncomputable def cf_260_41 (N : mz_N) : (mz_N) := N
def cp_260_41 (N : mz_N) : Prop := True
noncomputable def cf_260_0 (v1 : Int32) (v2 : Int32) (v3 : Int32) (v4 : Int32) (v5 : Int32) (N : mz_N) : (mz_N) := (cf_260_41 (mz_pI (mz_wI (mz_wI (cf_68_0 v1 v2 v3 v4 N) 117 v1 ((cf_68_0 v1 v2 v3 v4 N).1 115 2)) 121 v1 v5) 115 2 (((mz_wI (mz_wI (cf_68_0 v1 v2 v3 v4 N) 117 v1 ((cf_68_0 v1 v2 v3 v4 N).1 115 2)) 121 v1 v5).1 115 2) + 1)))
def cp_260_0 (v1 : Int32) (v2 : Int32) (v3 : Int32) (v4 : Int32) (v5 : Int32) (N : mz_N) : Prop := (cp_68_0 v1 v2 v3 v4 N) ∧ ((mz_ib v1 16) ∧ ((mz_ib v1 16) ∧ (cp_260_41 (mz_pI (mz_wI (mz_wI (cf_68_0 v1 v2 v3 v4 N) 117 v1 ((cf_68_0 v1 v2 v3 v4 N).1 115 2)) 121 v1 v5) 115 2 (((mz_wI (mz_wI (cf_68_0 v1 v2 v3 v4 N) 117 v1 ((cf_68_0 v1 v2 v3 v4 N).1 115 2)) 121 v1 v5).1 115 2) + 1)))))
/-! 258 KeptHouse.failPart (I)Z -/
noncomputable def cf_258_70 (N : mz_N) (b : Bool) : (Bool × mz_N) := (((cf_121_0 N b).1), (cf_121_0 N b).2)
def cp_258_70 (N : mz_N) (b : Bool) : Prop := cp_121_0 N b
noncomputable def cf_258_60 (v2 : Int32) (N : mz_N) (b : Bool) : (Bool × mz_N) := (cf_258_70 (cf_119_0 12 v2 N) b)
def cp_258_60 (v2 : Int32) (N : mz_N) (b : Bool) : Prop := (cp_119_0 12 v2 N) ∧ (cp_258_70 (cf_119_0 12 v2 N) b)
noncomputable def cf_258_0 (v1 : Int32) (N : mz_N) (b : Bool) : (Bool × mz_N) := if (cf_259_0 (cf_119_0 11 v1 (cf_117_0 (mz_wI N 128 v1 1)))) = (-1) then (cf_258_70 (cf_119_0 11 v1 (cf_117_0 (mz_wI N 128 v1 1))) b) else (cf_258_60 (cf_259_0 (cf_119_0 11 v1 (cf_117_0 (mz_wI N 128 v1 1)))) (cf_260_0 (cf_259_0 (cf_119_0 11 v1 (cf_117_0 (mz_wI N 128 v1 1)))) 0 v1 v1 ((cf_119_0 11 v1 (cf_117_0 (mz_wI N 128 v1 1))).1 208 0) (cf_119_0 11 v1 (cf_117_0 (mz_wI N 128 v1 1)))) b)
def cp_258_0 (v1 : Int32) (N : mz_N) (b : Bool) : Prop := (mz_ib v1 3) ∧ ((cp_119_0 11 v1 (cf_117_0 (mz_wI N 128 v1 1))) ∧ ((cp_259_0 (cf_119_0 11 v1 (cf_117_0 (mz_wI N 128 v1 1)))) ∧ (((cf_259_0 (cf_119_0 11 v1 (cf_117_0 (mz_wI N 128 v1 1)))) = (-1) → (cp_258_70 (cf_119_0 11 v1 (cf_117_0 (mz_wI N 128 v1 1))) b)) ∧ (¬ ((cf_259_0 (cf_119_0 11 v1 (cf_117_0 (mz_wI N 128 v1 1)))) = (-1)) → ((cp_260_0 (cf_259_0 (cf_119_0 11 v1 (cf_117_0 (mz_wI N 128 v1 1)))) 0 v1 v1 ((cf_119_0 11 v1 (cf_117_0 (mz_wI N 128 v1 1))).1 208 0) (cf_119_0 11 v1 (cf_117_0 (mz_wI N 128 v1 1)))) ∧ (cp_258_60 (cf_259_0 (cf_119_0 11 v1 (cf_117_0 (mz_wI N 128 v1 1)))) (cf_260_0 (cf_259_0 (cf_119_0 11 v1 (cf_117_0 (mz_wI N 128 v1 1)))) 0 v1 v1 ((cf_119_0 11 v1 (cf_117_0 (mz_wI N 128 v1 1))).1 208 0) (cf_119_0 11 v1 (cf_117_0 (mz_wI N 128 v1 1)))) b))))))
/-! 255 KeptHouse.wearParts ()Z -/
noncomputable def cf_255_81 (v1 : Int32) (N : mz_N) (b : Bool) : ((Int32 × mz_N) ⊕ (Bool × mz_N)) := (.inl ((v1 + 1), N))
def cp_255_81 (v1 : Int32) (N : mz_N) (b : Bool) : Prop := True
noncomputable def cq_255_55 (b : Bool) (s : Int32 × mz_N) : ((Int32 × mz_N) ⊕ (Bool × mz_N)) := if s.1 < 3 then (if (cf_257_0 s.1 s.2) = true then (if ((cf_258_0 s.1 s.2 b).1) = true then (cf_255_81 s.1 ((cf_258_0 s.1 s.2 b).2) b) else (.inr (false, (cf_258_0 s.1 s.2 b).2))) else (cf_255_81 s.1 s.2 b)) else (.inr (true, s.2))
def cd_255_55 (b : Bool) (s : Int32 × mz_N) : Prop := (s.1 < 3 → ((cp_257_0 s.1 s.2) ∧ (((cf_257_0 s.1 s.2) = true → ((cp_258_0 s.1 s.2 b) ∧ ((((cf_258_0 s.1 s.2 b).1) = true → (cp_255_81 s.1 ((cf_258_0 s.1 s.2 b).2) b)) ∧ (¬ (((cf_258_0 s.1 s.2 b).1) = true) → True)))) ∧ (¬ ((cf_257_0 s.1 s.2) = true) → (cp_255_81 s.1 s.2 b))))) ∧ (¬ (s.1 < 3) → True)
noncomputable def cf_255_55 (v1 : Int32) (N : mz_N) (b : Bool) : (Bool × mz_N) := mz_run (cq_255_55 b) (v1, N)
def cp_255_55 (v1 : Int32) (N : mz_N) (b : Bool) : Prop := ∃ n, mz_ok (cq_255_55 b) (cd_255_55 b) n (v1, N)
noncomputable def cf_255_53 (N : mz_N) (b : Bool) : (Bool × mz_N) := (cf_255_55 0 N b)
def cp_255_53 (N : mz_N) (b : Bool) : Prop := cp_255_55 0 N b
noncomputable def cf_255_20 (s1 : Int32) (s2 : Bool) (N : mz_N) (b : Bool) : (Bool × mz_N) := (cf_255_53 (cf_256_0 2 (mz_fZ (cf_256_0 1 (mz_fZ (cf_256_0 s1 s2 N) 56 9) (cf_256_0 s1 s2 N)) 56 5) (cf_256_0 1 (mz_fZ (cf_256_0 s1 s2 N) 56 9) (cf_256_0 s1 s2 N))) b)
def cp_255_20 (s1 : Int32) (s2 : Bool) (N : mz_N) (b : Bool) : Prop := (cp_256_0 s1 s2 N) ∧ ((mz_z01 ((cf_256_0 s1 s2 N).1 56 9)) ∧ ((cp_256_0 1 (mz_fZ (cf_256_0 s1 s2 N) 56 9) (cf_256_0 s1 s2 N)) ∧ ((mz_z01 ((cf_256_0 1 (mz_fZ (cf_256_0 s1 s2 N) 56 9) (cf_256_0 s1 s2 N)).1 56 5)) ∧ ((cp_256_0 2 (mz_fZ (cf_256_0 1 (mz_fZ (cf_256_0 s1 s2 N) 56 9) (cf_256_0 s1 s2 N)) 56 5) (cf_256_0 1 (mz_fZ (cf_256_0 s1 s2 N) 56 9) (cf_256_0 s1 s2 N))) ∧ (cp_255_53 (cf_256_0 2 (mz_fZ (cf_256_0 1 (mz_fZ (cf_256_0 s1 s2 N) 56 9) (cf_256_0 s1 s2 N)) 56 5) (cf_256_0 1 (mz_fZ (cf_256_0 s1 s2 N) 56 9) (cf_256_0 s1 s2 N))) b)))))
noncomputable def cf_255_0 (N : mz_N) (b : Bool) : (Bool × mz_N) := if 0 < (N.1 56 13) then (cf_255_20 0 true N b) else (cf_255_20 0 false N b)
def cp_255_0 (N : mz_N) (b : Bool) : Prop := (0 < (N.1 56 13) → (cp_255_20 0 true N b)) ∧ (¬ (0 < (N.1 56 13)) → (cp_255_20 0 false N b))
/-! 262 KeptHouse$Watch.isLongCold (IZ)Z -/
noncomputable def cf_262_21 (s1 : Int32) (s2 : Int32) (v1 : Int32) (N : mz_N) : (Bool × mz_N) := if (mz_gI (mz_wI N 82 s1 s2) 82 v1) < 30 then (false, mz_wI N 82 s1 s2) else (true, mz_wI N 82 s1 s2)
def cp_262_21 (s1 : Int32) (s2 : Int32) (v1 : Int32) (N : mz_N) : Prop := (mz_ib s1 10) ∧ (mz_ib v1 10)
noncomputable def cf_262_0 (v1 : Int32) (v2 : Bool) (N : mz_N) : (Bool × mz_N) := if v2 = true then (cf_262_21 v1 ((mz_gI N 82 v1) + 1) v1 N) else (cf_262_21 v1 0 v1 N)
def cp_262_0 (v1 : Int32) (v2 : Bool) (N : mz_N) : Prop := (v2 = true → ((mz_ib v1 10) ∧ (cp_262_21 v1 ((mz_gI N 82 v1) + 1) v1 N))) ∧ (¬ (v2 = true) → (cp_262_21 v1 0 v1 N))
/-! 263 KeptHouse$Watch.sound (IZI)V -/
noncomputable def cf_263_53 (v1 : Int32) (v2 : Bool) (N : mz_N) : (mz_N) := mz_wI N 83 v1 (mz_b01 v2)
def cp_263_53 (v1 : Int32) (v2 : Bool) (N : mz_N) : Prop := mz_ib v1 18
noncomputable def cf_263_0 (v1 : Int32) (v2 : Bool) (v3 : Int32) (N : mz_N) : (mz_N) := if v2 = true then (if (mz_gZ N 83 v1) = true then (cf_263_53 v1 v2 N) else (cf_263_53 v1 v2 (mz_pI (mz_wI (mz_wI N 85 (mz_irem (N.1 81 3) 32) v1) 86 (mz_irem ((mz_wI N 85 (mz_irem (N.1 81 3) 32) v1).1 81 3) 32) v3) 81 3 (((mz_wI (mz_wI N 85 (mz_irem (N.1 81 3) 32) v1) 86 (mz_irem ((mz_wI N 85 (mz_irem (N.1 81 3) 32) v1).1 81 3) 32) v3).1 81 3) + 1)))) else (cf_263_53 v1 v2 N)
def cp_263_0 (v1 : Int32) (v2 : Bool) (v3 : Int32) (N : mz_N) : Prop := (v2 = true → ((mz_ib v1 18) ∧ ((mz_z01 (mz_gI N 83 v1)) ∧ (((mz_gZ N 83 v1) = true → (cp_263_53 v1 v2 N)) ∧ (¬ ((mz_gZ N 83 v1) = true) → ((mz_ib (mz_irem (N.1 81 3) 32) 32) ∧ ((mz_ib (mz_irem ((mz_wI N 85 (mz_irem (N.1 81 3) 32) v1).1 81 3) 32) 32) ∧ (cp_263_53 v1 v2 (mz_pI (mz_wI (mz_wI N 85 (mz_irem (N.1 81 3) 32) v1) 86 (mz_irem ((mz_wI N 85 (mz_irem (N.1 81 3) 32) v1).1 81 3) 32) v3) 81 3 (((mz_wI (mz_wI N 85 (mz_irem (N.1 81 3) 32) v1) 86 (mz_irem ((mz_wI N 85 (mz_irem (N.1 81 3) 32) v1).1 81 3) 32) v3).1 81 3) + 1)))))))))) ∧ (¬ (v2 = true) → (cp_263_53 v1 v2 N))
/-! 264 KeptHouse$Climate.isStuffy (LKeptHouse$Plan;I)Z -/
noncomputable def cf_264_0 (v2 : Int32) (N : mz_N) : (Bool) := if (1000 * ((mz_gI N 19 v2).toInt64)) < (cf_158_0 69 v2 N) then true else false
def cp_264_0 (v2 : Int32) (N : mz_N) : Prop := (cp_158_0 69 v2 N) ∧ (mz_ib v2 40)
/-! 265 KeptHouse$Supply.isAny (I)Z -/
noncomputable def cq_265_2 (v1 : Int32) (N : mz_N) (s : Int32) : ((Int32) ⊕ (Bool)) := if s < 11 then (if (mz_gI N (58 + v1.toNatClampNeg) s) = 1 then (.inr true) else (.inl ((s + 1)))) else (.inr false)
def cd_265_2 (v1 : Int32) (N : mz_N) (s : Int32) : Prop := (s < 11 → ((mz_ib v1 6) ∧ (mz_ib s 11))) ∧ (¬ (s < 11) → True)
noncomputable def cf_265_2 (v1 : Int32) (v2 : Int32) (N : mz_N) : (Bool) := mz_run (cq_265_2 v1 N) (v2)
def cp_265_2 (v1 : Int32) (v2 : Int32) (N : mz_N) : Prop := ∃ n, mz_ok (cq_265_2 v1 N) (cd_265_2 v1 N) n (v2)
noncomputable def cf_265_0 (v1 : Int32) (N : mz_N) : (Bool) := (cf_265_2 v1 0 N)
def cp_265_0 (v1 : Int32) (N : mz_N) : Prop := cp_265_2 v1 0 N
/-! 266 KeptHouse$Care.isAnyFailed ()Z -/
noncomputable def cf_266_0 (N : mz_N) : (Bool) := if (cf_224_0 0 N) = true then (if (cf_224_0 1 N) = true then (if (cf_224_0 2 N) = true then false else true) else true) else true
def cp_266_0 (N : mz_N) : Prop := (cp_224_0 0 N) ∧ (((cf_224_0 0 N) = true → ((cp_224_0 1 N) ∧ (((cf_224_0 1 N) = true → (cp_224_0 2 N)) ∧ (¬ ((cf_224_0 1 N) = true) → True)))) ∧ (¬ ((cf_224_0 0 N) = true) → True))
/-! 267 KeptHouse$Climate.isMouldy ()Z -/
noncomputable def cq_267_2 (N : mz_N) (s : Int32) : ((Int32) ⊕ (Bool)) := if s < 240 then (if (mz_gI N 72 s) < 500 then (.inl ((s + 1))) else (.inr true)) else (.inr false)
def cd_267_2 (N : mz_N) (s : Int32) : Prop := (s < 240 → (mz_ib s 240)) ∧ (¬ (s < 240) → True)
noncomputable def cf_267_2 (v1 : Int32) (N : mz_N) : (Bool) := mz_run (cq_267_2 N) (v1)
def cp_267_2 (v1 : Int32) (N : mz_N) : Prop := ∃ n, mz_ok (cq_267_2 N) (cd_267_2 N) n (v1)
noncomputable def cf_267_0 (N : mz_N) : (Bool) := (cf_267_2 0 N)
def cp_267_0 (N : mz_N) : Prop := cp_267_2 0 N
/-! 261 KeptHouse.soundAlarms ()V -/
noncomputable def cf_261_274 (N : mz_N) : (mz_N) := N
def cp_261_274 (N : mz_N) : Prop := True
noncomputable def cf_261_207 (v1 : Int32) (v2 : Bool) (N : mz_N) : (mz_N) := (cf_261_274 (cf_263_0 17 (cf_267_0 (cf_263_0 16 (cf_211_0 (cf_263_0 15 v2 v1 (cf_263_0 14 (cf_265_0 3 N) v1 N))) v1 (cf_263_0 15 v2 v1 (cf_263_0 14 (cf_265_0 3 N) v1 N)))) v1 (cf_263_0 16 (cf_211_0 (cf_263_0 15 v2 v1 (cf_263_0 14 (cf_265_0 3 N) v1 N))) v1 (cf_263_0 15 v2 v1 (cf_263_0 14 (cf_265_0 3 N) v1 N)))))
def cp_261_207 (v1 : Int32) (v2 : Bool) (N : mz_N) : Prop := (cp_265_0 3 N) ∧ ((cp_263_0 14 (cf_265_0 3 N) v1 N) ∧ ((cp_263_0 15 v2 v1 (cf_263_0 14 (cf_265_0 3 N) v1 N)) ∧ ((cp_211_0 (cf_263_0 15 v2 v1 (cf_263_0 14 (cf_265_0 3 N) v1 N))) ∧ ((cp_263_0 16 (cf_211_0 (cf_263_0 15 v2 v1 (cf_263_0 14 (cf_265_0 3 N) v1 N))) v1 (cf_263_0 15 v2 v1 (cf_263_0 14 (cf_265_0 3 N) v1 N))) ∧ ((cp_267_0 (cf_263_0 16 (cf_211_0 (cf_263_0 15 v2 v1 (cf_263_0 14 (cf_265_0 3 N) v1 N))) v1 (cf_263_0 15 v2 v1 (cf_263_0 14 (cf_265_0 3 N) v1 N)))) ∧ ((cp_263_0 17 (cf_267_0 (cf_263_0 16 (cf_211_0 (cf_263_0 15 v2 v1 (cf_263_0 14 (cf_265_0 3 N) v1 N))) v1 (cf_263_0 15 v2 v1 (cf_263_0 14 (cf_265_0 3 N) v1 N)))) v1 (cf_263_0 16 (cf_211_0 (cf_263_0 15 v2 v1 (cf_263_0 14 (cf_265_0 3 N) v1 N))) v1 (cf_263_0 15 v2 v1 (cf_263_0 14 (cf_265_0 3 N) v1 N)))) ∧ (cp_261_274 (cf_263_0 17 (cf_267_0 (cf_263_0 16 (cf_211_0 (cf_263_0 15 v2 v1 (cf_263_0 14 (cf_265_0 3 N) v1 N))) v1 (cf_263_0 15 v2 v1 (cf_263_0 14 (cf_265_0 3 N) v1 N)))) v1 (cf_263_0 16 (cf_211_0 (cf_263_0 15 v2 v1 (cf_263_0 14 (cf_265_0 3 N) v1 N))) v1 (cf_263_0 15 v2 v1 (cf_263_0 14 (cf_265_0 3 N) v1 N)))))))))))
noncomputable def cf_261_168 (s1 : Int32) (s2 : Bool) (v1 : Int32) (v2 : Bool) (N : mz_N) : (mz_N) := (cf_261_207 v1 v2 (cf_263_0 13 (cf_266_0 (cf_263_0 12 (cf_265_0 2 (cf_263_0 s1 s2 v1 N)) v1 (cf_263_0 s1 s2 v1 N))) v1 (cf_263_0 12 (cf_265_0 2 (cf_263_0 s1 s2 v1 N)) v1 (cf_263_0 s1 s2 v1 N))))
def cp_261_168 (s1 : Int32) (s2 : Bool) (v1 : Int32) (v2 : Bool) (N : mz_N) : Prop := (cp_263_0 s1 s2 v1 N) ∧ ((cp_265_0 2 (cf_263_0 s1 s2 v1 N)) ∧ ((cp_263_0 12 (cf_265_0 2 (cf_263_0 s1 s2 v1 N)) v1 (cf_263_0 s1 s2 v1 N)) ∧ ((cp_266_0 (cf_263_0 12 (cf_265_0 2 (cf_263_0 s1 s2 v1 N)) v1 (cf_263_0 s1 s2 v1 N))) ∧ ((cp_263_0 13 (cf_266_0 (cf_263_0 12 (cf_265_0 2 (cf_263_0 s1 s2 v1 N)) v1 (cf_263_0 s1 s2 v1 N))) v1 (cf_263_0 12 (cf_265_0 2 (cf_263_0 s1 s2 v1 N)) v1 (cf_263_0 s1 s2 v1 N))) ∧ (cp_261_207 v1 v2 (cf_263_0 13 (cf_266_0 (cf_263_0 12 (cf_265_0 2 (cf_263_0 s1 s2 v1 N)) v1 (cf_263_0 s1 s2 v1 N))) v1 (cf_263_0 12 (cf_265_0 2 (cf_263_0 s1 s2 v1 N)) v1 (cf_263_0 s1 s2 v1 N))))))))
noncomputable def cf_261_120 (s0 : Bool) (v1 : Int32) (v3 : Int32) (N : mz_N) : ((Bool × Int32 × mz_N) ⊕ (mz_N)) := (.inl (s0, (v3 + 1), N))
def cp_261_120 (s0 : Bool) (v1 : Int32) (v3 : Int32) (N : mz_N) : Prop := True
noncomputable def cf_261_115 (v1 : Int32) (v3 : Int32) (N : mz_N) : ((Bool × Int32 × mz_N) ⊕ (mz_N)) := (cf_261_120 true v1 v3 N)
def cp_261_115 (v1 : Int32) (v3 : Int32) (N : mz_N) : Prop := cp_261_120 true v1 v3 N
noncomputable def cf_261_119 (v1 : Int32) (v3 : Int32) (N : mz_N) : ((Bool × Int32 × mz_N) ⊕ (mz_N)) := (cf_261_120 false v1 v3 N)
def cp_261_119 (v1 : Int32) (v3 : Int32) (N : mz_N) : Prop := cp_261_120 false v1 v3 N
noncomputable def cf_261_68 (s0 : Bool) (v1 : Int32) (v2 : Bool) (v3 : Int32) (v4 : Int32) (N : mz_N) : ((Bool × Int32 × mz_N) ⊕ (mz_N)) := if v2 = true then (cf_261_115 v1 v3 (cf_263_0 v3 ((cf_262_0 v3 s0 N).1) v1 ((cf_262_0 v3 s0 N).2))) else (if v4 = (-1) then (cf_261_119 v1 v3 (cf_263_0 v3 ((cf_262_0 v3 s0 N).1) v1 ((cf_262_0 v3 s0 N).2))) else (if (cf_264_0 v4 (cf_263_0 v3 ((cf_262_0 v3 s0 N).1) v1 ((cf_262_0 v3 s0 N).2))) = true then (cf_261_115 v1 v3 (cf_263_0 v3 ((cf_262_0 v3 s0 N).1) v1 ((cf_262_0 v3 s0 N).2))) else (cf_261_119 v1 v3 (cf_263_0 v3 ((cf_262_0 v3 s0 N).1) v1 ((cf_262_0 v3 s0 N).2)))))
def cp_261_68 (s0 : Bool) (v1 : Int32) (v2 : Bool) (v3 : Int32) (v4 : Int32) (N : mz_N) : Prop := (cp_262_0 v3 s0 N) ∧ ((cp_263_0 v3 ((cf_262_0 v3 s0 N).1) v1 ((cf_262_0 v3 s0 N).2)) ∧ ((v2 = true → (cp_261_115 v1 v3 (cf_263_0 v3 ((cf_262_0 v3 s0 N).1) v1 ((cf_262_0 v3 s0 N).2)))) ∧ (¬ (v2 = true) → ((v4 = (-1) → (cp_261_119 v1 v3 (cf_263_0 v3 ((cf_262_0 v3 s0 N).1) v1 ((cf_262_0 v3 s0 N).2)))) ∧ (¬ (v4 = (-1)) → ((cp_264_0 v4 (cf_263_0 v3 ((cf_262_0 v3 s0 N).1) v1 ((cf_262_0 v3 s0 N).2))) ∧ (((cf_264_0 v4 (cf_263_0 v3 ((cf_262_0 v3 s0 N).1) v1 ((cf_262_0 v3 s0 N).2))) = true → (cp_261_115 v1 v3 (cf_263_0 v3 ((cf_262_0 v3 s0 N).1) v1 ((cf_262_0 v3 s0 N).2)))) ∧ (¬ ((cf_264_0 v4 (cf_263_0 v3 ((cf_262_0 v3 s0 N).1) v1 ((cf_262_0 v3 s0 N).2))) = true) → (cp_261_119 v1 v3 (cf_263_0 v3 ((cf_262_0 v3 s0 N).1) v1 ((cf_262_0 v3 s0 N).2)))))))))))
noncomputable def cf_261_67 (v1 : Int32) (v2 : Bool) (v3 : Int32) (v4 : Int32) (N : mz_N) : ((Bool × Int32 × mz_N) ⊕ (mz_N)) := (cf_261_68 false v1 v2 v3 v4 N)
def cp_261_67 (v1 : Int32) (v2 : Bool) (v3 : Int32) (v4 : Int32) (N : mz_N) : Prop := cp_261_68 false v1 v2 v3 v4 N
noncomputable def cq_261_12 (v1 : Int32) (s : Bool × Int32 × mz_N) : ((Bool × Int32 × mz_N) ⊕ (mz_N)) := if s.2.1 < 10 then (if (mz_gI s.2.2 38 s.2.1) = (-1) then (cf_261_67 v1 s.1 s.2.1 (mz_gI s.2.2 38 s.2.1) s.2.2) else (if 30 < (((mz_gI s.2.2 53 s.2.1).toInt64) - (cf_157_0 (mz_gI s.2.2 38 s.2.1) s.2.2)) then (cf_261_68 true v1 s.1 s.2.1 (mz_gI s.2.2 38 s.2.1) s.2.2) else (cf_261_67 v1 s.1 s.2.1 (mz_gI s.2.2 38 s.2.1) s.2.2))) else (if ((cf_263_0 10 (mz_fZ s.2.2 56 10) v1 s.2.2).1 56 12) < 240 then (.inr (cf_261_168 11 false v1 s.1 (cf_263_0 10 (mz_fZ s.2.2 56 10) v1 s.2.2))) else (.inr (cf_261_168 11 true v1 s.1 (cf_263_0 10 (mz_fZ s.2.2 56 10) v1 s.2.2))))
def cd_261_12 (v1 : Int32) (s : Bool × Int32 × mz_N) : Prop := (s.2.1 < 10 → ((mz_ib s.2.1 10) ∧ (((mz_gI s.2.2 38 s.2.1) = (-1) → (cp_261_67 v1 s.1 s.2.1 (mz_gI s.2.2 38 s.2.1) s.2.2)) ∧ (¬ ((mz_gI s.2.2 38 s.2.1) = (-1)) → ((mz_ib s.2.1 53) ∧ ((cp_157_0 (mz_gI s.2.2 38 s.2.1) s.2.2) ∧ ((30 < (((mz_gI s.2.2 53 s.2.1).toInt64) - (cf_157_0 (mz_gI s.2.2 38 s.2.1) s.2.2)) → (cp_261_68 true v1 s.1 s.2.1 (mz_gI s.2.2 38 s.2.1) s.2.2)) ∧ (¬ (30 < (((mz_gI s.2.2 53 s.2.1).toInt64) - (cf_157_0 (mz_gI s.2.2 38 s.2.1) s.2.2))) → (cp_261_67 v1 s.1 s.2.1 (mz_gI s.2.2 38 s.2.1) s.2.2))))))))) ∧ (¬ (s.2.1 < 10) → ((mz_z01 (s.2.2.1 56 10)) ∧ ((cp_263_0 10 (mz_fZ s.2.2 56 10) v1 s.2.2) ∧ ((((cf_263_0 10 (mz_fZ s.2.2 56 10) v1 s.2.2).1 56 12) < 240 → (cp_261_168 11 false v1 s.1 (cf_263_0 10 (mz_fZ s.2.2 56 10) v1 s.2.2))) ∧ (¬ (((cf_263_0 10 (mz_fZ s.2.2 56 10) v1 s.2.2).1 56 12) < 240) → (cp_261_168 11 true v1 s.1 (cf_263_0 10 (mz_fZ s.2.2 56 10) v1 s.2.2)))))))
noncomputable def cf_261_12 (v1 : Int32) (v2 : Bool) (v3 : Int32) (N : mz_N) : (mz_N) := mz_run (cq_261_12 v1) (v2, v3, N)
def cp_261_12 (v1 : Int32) (v2 : Bool) (v3 : Int32) (N : mz_N) : Prop := ∃ n, mz_ok (cq_261_12 v1) (cd_261_12 v1) n (v2, v3, N)
noncomputable def cf_261_0 (N : mz_N) : (mz_N) := (cf_261_12 (N.1 208 0) false 0 N)
def cp_261_0 (N : mz_N) : Prop := cp_261_12 (N.1 208 0) false 0 N
/-! 270 KeptHouse.measure (II)J -/
noncomputable def cf_270_0 (v1 : Int32) (v2 : Int32) (N : mz_N) : (Int64) := if v1 = 0 then (if (cf_222_0 v2 N) = true then (cf_157_0 (mz_gI N 38 v2) N) else 0) else (if v1 = 1 then (if (cf_222_0 v2 N) = true then (cf_158_0 69 (mz_gI N 38 v2) N) else 0) else (if v1 = 2 then ((cf_238_0 v2 N).toInt64) else (if v1 = 3 then ((N.1 56 7).toInt64) else (if v1 = 4 then ((N.1 56 11).toInt64) else (if v1 = 5 then ((N.1 56 1).toInt64) else ((N.1 208 3).toInt64))))))
def cp_270_0 (v1 : Int32) (v2 : Int32) (N : mz_N) : Prop := (v1 = 0 → ((cp_222_0 v2 N) ∧ (((cf_222_0 v2 N) = true → ((mz_ib v2 10) ∧ (cp_157_0 (mz_gI N 38 v2) N))) ∧ (¬ ((cf_222_0 v2 N) = true) → True)))) ∧ (¬ (v1 = 0) → ((v1 = 1 → ((cp_222_0 v2 N) ∧ (((cf_222_0 v2 N) = true → ((mz_ib v2 10) ∧ (cp_158_0 69 (mz_gI N 38 v2) N))) ∧ (¬ ((cf_222_0 v2 N) = true) → True)))) ∧ (¬ (v1 = 1) → ((v1 = 2 → (cp_238_0 v2 N)) ∧ (¬ (v1 = 2) → True)))))
/-! 271 KeptHouse$Watch.noteValue (IJ)V -/
noncomputable def cf_271_0 (v1 : Int32) (v2 : Int64) (N : mz_N) : (mz_N) := mz_wI (mz_wL N (91 + v1.toNatClampNeg) (mz_irem (mz_gI N 99 v1) 48) v2) 99 v1 ((mz_gI (mz_wL N (91 + v1.toNatClampNeg) (mz_irem (mz_gI N 99 v1) 48) v2) 99 v1) + 1)
def cp_271_0 (v1 : Int32) (v2 : Int64) (N : mz_N) : Prop := (mz_ib v1 8) ∧ ((mz_ib v1 8) ∧ ((mz_ib (mz_irem (mz_gI N 99 v1) 48) 48) ∧ ((mz_ib v1 8) ∧ (mz_ib v1 8))))
/-! 269 KeptHouse.notePoints ()V -/
noncomputable def cf_269_51 (v1 : Int32) (N : mz_N) : ((Int32 × mz_N) ⊕ (mz_N)) := (.inl ((v1 + 1), N))
def cp_269_51 (v1 : Int32) (N : mz_N) : Prop := True
noncomputable def cq_269_2  (s : Int32 × mz_N) : ((Int32 × mz_N) ⊕ (mz_N)) := if s.1 < 8 then (if (mz_gI s.2 87 s.1) = 1 then (cf_269_51 s.1 (cf_271_0 s.1 (cf_270_0 (mz_gI s.2 88 s.1) (mz_gI s.2 89 s.1) s.2) s.2)) else (cf_269_51 s.1 s.2)) else (.inr s.2)
def cd_269_2  (s : Int32 × mz_N) : Prop := (s.1 < 8 → ((mz_ib s.1 8) ∧ (((mz_gI s.2 87 s.1) = 1 → ((mz_ib s.1 8) ∧ ((mz_ib s.1 8) ∧ ((cp_270_0 (mz_gI s.2 88 s.1) (mz_gI s.2 89 s.1) s.2) ∧ ((cp_271_0 s.1 (cf_270_0 (mz_gI s.2 88 s.1) (mz_gI s.2 89 s.1) s.2) s.2) ∧ (cp_269_51 s.1 (cf_271_0 s.1 (cf_270_0 (mz_gI s.2 88 s.1) (mz_gI s.2 89 s.1) s.2) s.2))))))) ∧ (¬ ((mz_gI s.2 87 s.1) = 1) → (cp_269_51 s.1 s.2))))) ∧ (¬ (s.1 < 8) → True)
noncomputable def cf_269_2 (v1 : Int32) (N : mz_N) : (mz_N) := mz_run (cq_269_2 ) (v1, N)
def cp_269_2 (v1 : Int32) (N : mz_N) : Prop := ∃ n, mz_ok (cq_269_2 ) (cd_269_2 ) n (v1, N)
noncomputable def cf_269_0 (N : mz_N) : (mz_N) := (cf_269_2 0 N)
def cp_269_0 (N : mz_N) : Prop := cp_269_2 0 N
/-! 273 KeptHouse$Books.sumMeters (I)J -/
noncomputable def cq_273_5 (v1 : Int32) (N : mz_N) (s : Int64 × Int32) : ((Int64 × Int32) ⊕ (Int64)) := if s.2 < 11 then (.inl ((s.1 + ((mz_gI N (210 + v1.toNatClampNeg) s.2).toInt64)), (s.2 + 1))) else (.inr s.1)
def cd_273_5 (v1 : Int32) (N : mz_N) (s : Int64 × Int32) : Prop := (s.2 < 11 → ((mz_ib v1 3) ∧ (mz_ib s.2 11))) ∧ (¬ (s.2 < 11) → True)
noncomputable def cf_273_5 (v1 : Int32) (v2 : Int64) (v4 : Int32) (N : mz_N) : (Int64) := mz_run (cq_273_5 v1 N) (v2, v4)
def cp_273_5 (v1 : Int32) (v2 : Int64) (v4 : Int32) (N : mz_N) : Prop := ∃ n, mz_ok (cq_273_5 v1 N) (cd_273_5 v1 N) n (v2, v4)
noncomputable def cf_273_0 (v1 : Int32) (N : mz_N) : (Int64) := (cf_273_5 v1 0 0 N)
def cp_273_0 (v1 : Int32) (N : mz_N) : Prop := cp_273_5 v1 0 0 N
/-! 275 KeptHouse$Books.addShares ()V -/
noncomputable def cq_275_2  (s : Int32 × mz_N) : ((Int32 × mz_N) ⊕ (mz_N)) := if s.1 < 10 then (.inl ((s.1 + 1), mz_wL s.2 214 s.1 ((mz_gL s.2 214 s.1) + (mz_gL s.2 217 s.1)))) else (.inr s.2)
def cd_275_2  (s : Int32 × mz_N) : Prop := (s.1 < 10 → ((mz_ib s.1 10) ∧ ((mz_ib s.1 10) ∧ (mz_ib s.1 10)))) ∧ (¬ (s.1 < 10) → True)
noncomputable def cf_275_2 (v1 : Int32) (N : mz_N) : (mz_N) := mz_run (cq_275_2 ) (v1, N)
def cp_275_2 (v1 : Int32) (N : mz_N) : Prop := ∃ n, mz_ok (cq_275_2 ) (cd_275_2 ) n (v1, N)
noncomputable def cf_275_0 (N : mz_N) : (mz_N) := (cf_275_2 0 N)
def cp_275_0 (N : mz_N) : Prop := cp_275_2 0 N
/-! 276 KeptHouse$Books.chargeByAreas (J[I)V -/
noncomputable def cf_276_66 (N : mz_N) : (mz_N) := N
def cp_276_66 (N : mz_N) : Prop := True
noncomputable def cq_276_3 (v1 : Int64) (s : Int32 × mz_N) : ((Int32 × mz_N) ⊕ (mz_N)) := if s.1 < 10 then (.inl ((s.1 + 1), mz_wL s.2 216 s.1 ((mz_gI s.2 39 s.1).toInt64))) else (if ((cf_240_0 216 10 217 10 218 10 v1 10 s.2).1) = true then (.inr (cf_275_0 ((cf_240_0 216 10 217 10 218 10 v1 10 s.2).2))) else (.inr (cf_276_66 (mz_pL ((cf_240_0 216 10 217 10 218 10 v1 10 s.2).2) 208 2 ((((cf_240_0 216 10 217 10 218 10 v1 10 s.2).2).2 208 2) + v1)))))
def cd_276_3 (v1 : Int64) (s : Int32 × mz_N) : Prop := (s.1 < 10 → ((mz_ib s.1 10) ∧ (mz_ib s.1 10))) ∧ (¬ (s.1 < 10) → ((cp_240_0 216 10 217 10 218 10 v1 10 s.2) ∧ ((((cf_240_0 216 10 217 10 218 10 v1 10 s.2).1) = true → (cp_275_0 ((cf_240_0 216 10 217 10 218 10 v1 10 s.2).2))) ∧ (¬ (((cf_240_0 216 10 217 10 218 10 v1 10 s.2).1) = true) → (cp_276_66 (mz_pL ((cf_240_0 216 10 217 10 218 10 v1 10 s.2).2) 208 2 ((((cf_240_0 216 10 217 10 218 10 v1 10 s.2).2).2 208 2) + v1)))))))
noncomputable def cf_276_3 (v1 : Int64) (v4 : Int32) (N : mz_N) : (mz_N) := mz_run (cq_276_3 v1) (v4, N)
def cp_276_3 (v1 : Int64) (v4 : Int32) (N : mz_N) : Prop := ∃ n, mz_ok (cq_276_3 v1) (cd_276_3 v1) n (v4, N)
noncomputable def cf_276_0 (v1 : Int64) (N : mz_N) : (mz_N) := (cf_276_3 v1 0 N)
def cp_276_0 (v1 : Int64) (N : mz_N) : Prop := cp_276_3 v1 0 N
/-! 274 KeptHouse$Books.chargeByMeters (JI[I)V -/
noncomputable def cq_274_3 (v1 : Int64) (v3 : Int32) (s : Int32 × mz_N) : ((Int32 × mz_N) ⊕ (mz_N)) := if s.1 < 10 then (.inl ((s.1 + 1), mz_wL s.2 216 s.1 ((mz_gI s.2 (210 + v3.toNatClampNeg) s.1).toInt64))) else (if ((cf_240_0 216 10 217 10 218 10 v1 10 s.2).1) = true then (.inr (cf_275_0 ((cf_240_0 216 10 217 10 218 10 v1 10 s.2).2))) else (.inr (cf_276_0 v1 ((cf_240_0 216 10 217 10 218 10 v1 10 s.2).2))))
def cd_274_3 (v1 : Int64) (v3 : Int32) (s : Int32 × mz_N) : Prop := (s.1 < 10 → ((mz_ib v3 3) ∧ ((mz_ib s.1 11) ∧ (mz_ib s.1 10)))) ∧ (¬ (s.1 < 10) → ((cp_240_0 216 10 217 10 218 10 v1 10 s.2) ∧ ((((cf_240_0 216 10 217 10 218 10 v1 10 s.2).1) = true → (cp_275_0 ((cf_240_0 216 10 217 10 218 10 v1 10 s.2).2))) ∧ (¬ (((cf_240_0 216 10 217 10 218 10 v1 10 s.2).1) = true) → (cp_276_0 v1 ((cf_240_0 216 10 217 10 218 10 v1 10 s.2).2))))))
noncomputable def cf_274_3 (v1 : Int64) (v3 : Int32) (v5 : Int32) (N : mz_N) : (mz_N) := mz_run (cq_274_3 v1 v3) (v5, N)
def cp_274_3 (v1 : Int64) (v3 : Int32) (v5 : Int32) (N : mz_N) : Prop := ∃ n, mz_ok (cq_274_3 v1 v3) (cd_274_3 v1 v3) n (v5, N)
noncomputable def cf_274_0 (v1 : Int64) (v3 : Int32) (N : mz_N) : (mz_N) := (cf_274_3 v1 v3 0 N)
def cp_274_0 (v1 : Int64) (v3 : Int32) (N : mz_N) : Prop := cp_274_3 v1 v3 0 N
/-! 272 KeptHouse$Books.billAll ([I)V -/
noncomputable def cq_272_143  (s : Int32 × mz_N) : ((Int32 × mz_N) ⊕ (mz_N)) := if s.1 < 10 then (.inl ((s.1 + 1), mz_wL s.2 213 s.1 ((mz_gL s.2 213 s.1) - (mz_gL s.2 214 s.1)))) else (.inr (cf_54_0 s.2))
def cd_272_143  (s : Int32 × mz_N) : Prop := (s.1 < 10 → ((mz_ib s.1 10) ∧ ((mz_ib s.1 10) ∧ (mz_ib s.1 10)))) ∧ (¬ (s.1 < 10) → (cp_54_0 s.2))
noncomputable def cf_272_143 (v10 : Int32) (N : mz_N) : (mz_N) := mz_run (cq_272_143 ) (v10, N)
def cp_272_143 (v10 : Int32) (N : mz_N) : Prop := ∃ n, mz_ok (cq_272_143 ) (cd_272_143 ) n (v10, N)
noncomputable def cf_272_140 (N : mz_N) : (mz_N) := (cf_272_143 0 N)
def cp_272_140 (N : mz_N) : Prop := cp_272_143 0 N
noncomputable def cf_272_118 (v2 : Int64) (v4 : Int64) (v6 : Int64) (N : mz_N) : (mz_N) := (cf_272_140 (mz_pL N 208 1 ((N.2 208 1) - (((v2 + v4) + v6) + ((N.1 208 4).toInt64)))))
def cp_272_118 (v2 : Int64) (v4 : Int64) (v6 : Int64) (N : mz_N) : Prop := cp_272_140 (mz_pL N 208 1 ((N.2 208 1) - (((v2 + v4) + v6) + ((N.1 208 4).toInt64))))
noncomputable def cf_272_92 (v2 : Int64) (v4 : Int64) (v6 : Int64) (N : mz_N) : (mz_N) := (cf_272_118 v2 v4 v6 (cf_276_0 (((cf_274_0 v6 2 (cf_274_0 v4 1 N)).1 208 4).toInt64) (cf_274_0 v6 2 (cf_274_0 v4 1 N))))
def cp_272_92 (v2 : Int64) (v4 : Int64) (v6 : Int64) (N : mz_N) : Prop := (cp_274_0 v4 1 N) ∧ ((cp_274_0 v6 2 (cf_274_0 v4 1 N)) ∧ ((cp_276_0 (((cf_274_0 v6 2 (cf_274_0 v4 1 N)).1 208 4).toInt64) (cf_274_0 v6 2 (cf_274_0 v4 1 N))) ∧ (cp_272_118 v2 v4 v6 (cf_276_0 (((cf_274_0 v6 2 (cf_274_0 v4 1 N)).1 208 4).toInt64) (cf_274_0 v6 2 (cf_274_0 v4 1 N))))))
noncomputable def cf_272_0 (N : mz_N) : (mz_N) := (cf_272_92 (((((cf_49_0 214 10 0 N).1 208 3).toInt64) * ((mz_gI (cf_49_0 214 10 0 N) 215 1).toInt64)) / 100) (((cf_273_0 1 (cf_49_0 214 10 0 N)) * ((mz_gI (cf_49_0 214 10 0 N) 215 2).toInt64)) / 100) (((cf_273_0 2 (cf_49_0 214 10 0 N)) * ((mz_gI (cf_49_0 214 10 0 N) 215 3).toInt64)) / 100) (cf_276_0 ((((((cf_49_0 214 10 0 N).1 208 3).toInt64) * ((mz_gI (cf_49_0 214 10 0 N) 215 1).toInt64)) / 100) - (((((((cf_49_0 214 10 0 N).1 208 3).toInt64) * ((mz_gI (cf_49_0 214 10 0 N) 215 1).toInt64)) / 100) * 7) / 10)) (cf_274_0 (((((((cf_49_0 214 10 0 N).1 208 3).toInt64) * ((mz_gI (cf_49_0 214 10 0 N) 215 1).toInt64)) / 100) * 7) / 10) 0 (cf_49_0 214 10 0 N))))
def cp_272_0 (N : mz_N) : Prop := (cp_49_0 214 10 0 N) ∧ ((cp_273_0 1 (cf_49_0 214 10 0 N)) ∧ ((cp_273_0 2 (cf_49_0 214 10 0 N)) ∧ ((cp_274_0 (((((((cf_49_0 214 10 0 N).1 208 3).toInt64) * ((mz_gI (cf_49_0 214 10 0 N) 215 1).toInt64)) / 100) * 7) / 10) 0 (cf_49_0 214 10 0 N)) ∧ ((cp_276_0 ((((((cf_49_0 214 10 0 N).1 208 3).toInt64) * ((mz_gI (cf_49_0 214 10 0 N) 215 1).toInt64)) / 100) - (((((((cf_49_0 214 10 0 N).1 208 3).toInt64) * ((mz_gI (cf_49_0 214 10 0 N) 215 1).toInt64)) / 100) * 7) / 10)) (cf_274_0 (((((((cf_49_0 214 10 0 N).1 208 3).toInt64) * ((mz_gI (cf_49_0 214 10 0 N) 215 1).toInt64)) / 100) * 7) / 10) 0 (cf_49_0 214 10 0 N))) ∧ (cp_272_92 (((((cf_49_0 214 10 0 N).1 208 3).toInt64) * ((mz_gI (cf_49_0 214 10 0 N) 215 1).toInt64)) / 100) (((cf_273_0 1 (cf_49_0 214 10 0 N)) * ((mz_gI (cf_49_0 214 10 0 N) 215 2).toInt64)) / 100) (((cf_273_0 2 (cf_49_0 214 10 0 N)) * ((mz_gI (cf_49_0 214 10 0 N) 215 3).toInt64)) / 100) (cf_276_0 ((((((cf_49_0 214 10 0 N).1 208 3).toInt64) * ((mz_gI (cf_49_0 214 10 0 N) 215 1).toInt64)) / 100) - (((((((cf_49_0 214 10 0 N).1 208 3).toInt64) * ((mz_gI (cf_49_0 214 10 0 N) 215 1).toInt64)) / 100) * 7) / 10)) (cf_274_0 (((((((cf_49_0 214 10 0 N).1 208 3).toInt64) * ((mz_gI (cf_49_0 214 10 0 N) 215 1).toInt64)) / 100) * 7) / 10) 0 (cf_49_0 214 10 0 N))))))))
/-! 277 KeptHouse.keepDay ()Z -/
noncomputable def cq_277_53 (b : Bool) (s : Int32 × mz_N) : ((Int32 × mz_N) ⊕ (Bool × mz_N)) := if s.1 < 3 then (.inl ((s.1 + 1), (cf_119_0 11 s.1 s.2))) else (.inr (((cf_121_0 s.2 b).1), (cf_121_0 s.2 b).2))
def cd_277_53 (b : Bool) (s : Int32 × mz_N) : Prop := (s.1 < 3 → (cp_119_0 11 s.1 s.2)) ∧ (¬ (s.1 < 3) → (cp_121_0 s.2 b))
noncomputable def cf_277_53 (v1 : Int32) (N : mz_N) (b : Bool) : (Bool × mz_N) := mz_run (cq_277_53 b) (v1, N)
def cp_277_53 (v1 : Int32) (N : mz_N) (b : Bool) : Prop := ∃ n, mz_ok (cq_277_53 b) (cd_277_53 b) n (v1, N)
noncomputable def cq_277_9 (b : Bool) (s : Int32 × mz_N) : ((Int32 × mz_N) ⊕ (Bool × mz_N)) := if s.1 < 10 then (.inl ((s.1 + 1), (cf_119_0 8 s.1 s.2))) else (.inr (cf_277_53 0 (cf_119_0 10 0 (cf_119_0 9 0 s.2)) b))
def cd_277_9 (b : Bool) (s : Int32 × mz_N) : Prop := (s.1 < 10 → (cp_119_0 8 s.1 s.2)) ∧ (¬ (s.1 < 10) → ((cp_119_0 9 0 s.2) ∧ ((cp_119_0 10 0 (cf_119_0 9 0 s.2)) ∧ (cp_277_53 0 (cf_119_0 10 0 (cf_119_0 9 0 s.2)) b))))
noncomputable def cf_277_9 (v1 : Int32) (N : mz_N) (b : Bool) : (Bool × mz_N) := mz_run (cq_277_9 b) (v1, N)
def cp_277_9 (v1 : Int32) (N : mz_N) (b : Bool) : Prop := ∃ n, mz_ok (cq_277_9 b) (cd_277_9 b) n (v1, N)
noncomputable def cf_277_0 (N : mz_N) (b : Bool) : (Bool × mz_N) := (cf_277_9 0 (cf_117_0 N) b)
def cp_277_0 (N : mz_N) (b : Bool) : Prop := cp_277_9 0 (cf_117_0 N) b
/-! 268 KeptHouse.endMinute ()Z -/
noncomputable def cf_268_58 (N : mz_N) (b : Bool) : (Bool × mz_N) := if (mz_irem (N.1 208 0) 240) = 0 then (if ((cf_277_0 N b).1) = true then (true, (cf_277_0 N b).2) else (false, (cf_277_0 N b).2)) else (true, N)
def cp_268_58 (N : mz_N) (b : Bool) : Prop := ((mz_irem (N.1 208 0) 240) = 0 → (cp_277_0 N b)) ∧ (¬ ((mz_irem (N.1 208 0) 240) = 0) → True)
noncomputable def cf_268_30 (N : mz_N) (b : Bool) : (Bool × mz_N) := if (mz_irem (N.1 208 0) 2400) = 0 then (cf_268_58 (cf_272_0 N) b) else (cf_268_58 N b)
def cp_268_30 (N : mz_N) (b : Bool) : Prop := ((mz_irem (N.1 208 0) 2400) = 0 → ((cp_272_0 N) ∧ (cp_268_58 (cf_272_0 N) b))) ∧ (¬ ((mz_irem (N.1 208 0) 2400) = 0) → (cp_268_58 N b))
noncomputable def cf_268_0 (N : mz_N) (b : Bool) : (Bool × mz_N) := if (mz_irem ((mz_pI N 208 0 ((N.1 208 0) + 1)).1 208 0) 10) = 0 then (cf_268_30 (cf_269_0 (mz_pI N 208 0 ((N.1 208 0) + 1))) b) else (cf_268_30 (mz_pI N 208 0 ((N.1 208 0) + 1)) b)
def cp_268_0 (N : mz_N) (b : Bool) : Prop := ((mz_irem ((mz_pI N 208 0 ((N.1 208 0) + 1)).1 208 0) 10) = 0 → ((cp_269_0 (mz_pI N 208 0 ((N.1 208 0) + 1))) ∧ (cp_268_30 (cf_269_0 (mz_pI N 208 0 ((N.1 208 0) + 1))) b))) ∧ (¬ ((mz_irem ((mz_pI N 208 0 ((N.1 208 0) + 1)).1 208 0) 10) = 0) → (cp_268_30 (mz_pI N 208 0 ((N.1 208 0) + 1)) b))
/-! 199 KeptHouse.passMinute ()Z -/
noncomputable def cf_199_86 (N : mz_N) (b : Bool) : (Bool × mz_N) := if ((cf_255_0 N b).1) = true then (((cf_268_0 (cf_261_0 ((cf_255_0 N b).2)) b).1), (cf_268_0 (cf_261_0 ((cf_255_0 N b).2)) b).2) else (false, (cf_255_0 N b).2)
def cp_199_86 (N : mz_N) (b : Bool) : Prop := (cp_255_0 N b) ∧ ((((cf_255_0 N b).1) = true → ((cp_261_0 ((cf_255_0 N b).2)) ∧ (cp_268_0 (cf_261_0 ((cf_255_0 N b).2)) b))) ∧ (¬ (((cf_255_0 N b).1) = true) → True))
noncomputable def cf_199_37 (v1 : Int32) (N : mz_N) (b : Bool) : (Bool × mz_N) := if (mz_fZ (cf_244_0 v1 N) 65 8) = true then (cf_199_86 (cf_247_0 (cf_244_0 v1 N)) b) else (cf_199_86 (cf_244_0 v1 N) b)
def cp_199_37 (v1 : Int32) (N : mz_N) (b : Bool) : Prop := (cp_244_0 v1 N) ∧ ((mz_z01 ((cf_244_0 v1 N).1 65 8)) ∧ (((mz_fZ (cf_244_0 v1 N) 65 8) = true → ((cp_247_0 (cf_244_0 v1 N)) ∧ (cp_199_86 (cf_247_0 (cf_244_0 v1 N)) b))) ∧ (¬ ((mz_fZ (cf_244_0 v1 N) 65 8) = true) → (cp_199_86 (cf_244_0 v1 N) b))))
noncomputable def cf_199_0 (N : mz_N) (b : Bool) : (Bool × mz_N) := if ((cf_201_0 N b).1) = true then (cf_199_37 (cf_200_0 N) (cf_233_0 (cf_200_0 N) (cf_229_0 (cf_200_0 N) (cf_219_0 (cf_200_0 N) (cf_208_0 (cf_200_0 N) ((cf_201_0 N b).2) b)))) b) else (false, (cf_201_0 N b).2)
def cp_199_0 (N : mz_N) (b : Bool) : Prop := (cp_201_0 N b) ∧ ((((cf_201_0 N b).1) = true → ((cp_208_0 (cf_200_0 N) ((cf_201_0 N b).2) b) ∧ ((cp_219_0 (cf_200_0 N) (cf_208_0 (cf_200_0 N) ((cf_201_0 N b).2) b)) ∧ ((cp_229_0 (cf_200_0 N) (cf_219_0 (cf_200_0 N) (cf_208_0 (cf_200_0 N) ((cf_201_0 N b).2) b))) ∧ ((cp_233_0 (cf_200_0 N) (cf_229_0 (cf_200_0 N) (cf_219_0 (cf_200_0 N) (cf_208_0 (cf_200_0 N) ((cf_201_0 N b).2) b)))) ∧ (cp_199_37 (cf_200_0 N) (cf_233_0 (cf_200_0 N) (cf_229_0 (cf_200_0 N) (cf_219_0 (cf_200_0 N) (cf_208_0 (cf_200_0 N) ((cf_201_0 N b).2) b)))) b)))))) ∧ (¬ (((cf_201_0 N b).1) = true) → True))
/-! 198 KeptHouse.run (I)I -/
noncomputable def cq_198_35 (v1 : Int32) (b : Bool) (s : Int32 × mz_N) : ((Int32 × mz_N) ⊕ (Nat × Int32 × mz_N)) := if s.1 < v1 then (if ((cf_199_0 s.2 b).1) = true then (.inl ((s.1 + 1), (cf_199_0 s.2 b).2)) else (.inr (0, (-1001), (cf_199_0 s.2 b).2))) else (.inr (0, (s.2.1 208 0), s.2))
def cd_198_35 (v1 : Int32) (b : Bool) (s : Int32 × mz_N) : Prop := (s.1 < v1 → (cp_199_0 s.2 b)) ∧ (¬ (s.1 < v1) → True)
noncomputable def cf_198_35 (v1 : Int32) (v2 : Int32) (N : mz_N) (b : Bool) : (Nat × Int32 × mz_N) := mz_run (cq_198_35 v1 b) (v2, N)
def cp_198_35 (v1 : Int32) (v2 : Int32) (N : mz_N) (b : Bool) : Prop := ∃ n, mz_ok (cq_198_35 v1 b) (cd_198_35 v1 b) n (v2, N)
noncomputable def cf_198_30 (s0 : Bool) (v1 : Int32) (N : mz_N) (b : Bool) : (Nat × Int32 × mz_N) := if (cf_187_0 s0) = 0 then (cf_198_35 v1 0 N b) else ((cf_187_0 s0), 0, N)
def cp_198_30 (s0 : Bool) (v1 : Int32) (N : mz_N) (b : Bool) : Prop := ((cf_187_0 s0) = 0 → (cp_198_35 v1 0 N b)) ∧ (¬ ((cf_187_0 s0) = 0) → True)
noncomputable def cf_198_0 (v1 : Int32) (N : mz_N) (b : Bool) : (Nat × Int32 × mz_N) := if (cf_104_0 N) = 0 then (if (cf_105_0 v1 1 120) = 0 then (if 2000000 < ((N.1 208 0) + v1) then (cf_198_30 false v1 N b) else (cf_198_30 true v1 N b)) else ((cf_105_0 v1 1 120), 0, N)) else ((cf_104_0 N), 0, N)
def cp_198_0 (v1 : Int32) (N : mz_N) (b : Bool) : Prop := (cp_104_0 N) ∧ (((cf_104_0 N) = 0 → ((cp_105_0 v1 1 120) ∧ (((cf_105_0 v1 1 120) = 0 → ((2000000 < ((N.1 208 0) + v1) → (cp_198_30 false v1 N b)) ∧ (¬ (2000000 < ((N.1 208 0) + v1)) → (cp_198_30 true v1 N b)))) ∧ (¬ ((cf_105_0 v1 1 120) = 0) → True)))) ∧ (¬ ((cf_104_0 N) = 0) → True))
/-! 197 KeptHouseLaw.run (LKeptHouse;I[J)I -/
noncomputable def cf_197_0 (v1 : Int32) (N : mz_N) (b : Bool) (t : Nat) : (Int32 × mz_N × Nat) := if (cf_198_0 v1 N b).1 = 0 then (0, mz_wL ((cf_198_0 v1 N b).2.2) 342 0 (((cf_198_0 v1 N b).2.1).toInt64), t) else (if (cf_198_0 v1 N b).1 = 1 then (1, (cf_198_0 v1 N b).2.2, t + 1) else (2, (cf_198_0 v1 N b).2.2, t + 1))
def cp_197_0 (v1 : Int32) (N : mz_N) (b : Bool) (t : Nat) : Prop := (cp_198_0 v1 N b) ∧ ((t < 1000) ∧ (((cf_198_0 v1 N b).1 = 0 → True) ∧ (¬ ((cf_198_0 v1 N b).1 = 0) → (((cf_198_0 v1 N b).1 = 1 → True) ∧ (¬ ((cf_198_0 v1 N b).1 = 1) → ((cf_198_0 v1 N b).1 = 2))))))
/-! 279 KeptHouse.mains (Z)Z -/
noncomputable def cf_279_0 (v1 : Bool) (N : mz_N) : (Nat × Bool × mz_N) := if (cf_104_0 N) = 0 then (0, (mz_fZ N 56 4), mz_pI N 56 4 (mz_b01 v1)) else ((cf_104_0 N), false, N)
def cp_279_0 (v1 : Bool) (N : mz_N) : Prop := (cp_104_0 N) ∧ (((cf_104_0 N) = 0 → (mz_z01 (N.1 56 4))) ∧ (¬ ((cf_104_0 N) = 0) → True))
/-! 278 KeptHouseLaw.mains (LKeptHouse;Z[J)I -/
noncomputable def cf_278_15 (s1 : Int32) (s2 : Int64) (N : mz_N) (t : Nat) : (Int32 × mz_N × Nat) := (0, mz_wL N 342 s1 s2, t)
def cp_278_15 (s1 : Int32) (s2 : Int64) (N : mz_N) (t : Nat) : Prop := mz_ib s1 1
noncomputable def cf_278_0 (v1 : Bool) (N : mz_N) (t : Nat) : (Int32 × mz_N × Nat) := if (cf_279_0 v1 N).1 = 0 then (if ((cf_279_0 v1 N).2.1) = true then (cf_278_15 0 1 ((cf_279_0 v1 N).2.2) t) else (cf_278_15 0 0 ((cf_279_0 v1 N).2.2) t)) else (1, (cf_279_0 v1 N).2.2, t + 1)
def cp_278_0 (v1 : Bool) (N : mz_N) (t : Nat) : Prop := (cp_279_0 v1 N) ∧ ((t < 1000) ∧ (((cf_279_0 v1 N).1 = 0 → ((((cf_279_0 v1 N).2.1) = true → (cp_278_15 0 1 ((cf_279_0 v1 N).2.2) t)) ∧ (¬ (((cf_279_0 v1 N).2.1) = true) → (cp_278_15 0 0 ((cf_279_0 v1 N).2.2) t)))) ∧ (¬ ((cf_279_0 v1 N).1 = 0) → ((cf_279_0 v1 N).1 = 2))))
/-! 281 KeptHouse.fuel (I)I -/
noncomputable def cf_281_0 (v1 : Int32) (N : mz_N) : (Nat × Int32 × mz_N) := if (cf_104_0 N) = 0 then (if (cf_105_0 v1 0 1000) = 0 then (0, ((mz_pI N 56 2 (mz_imin 1000 ((N.1 56 2) + v1))).1 56 2), mz_pI N 56 2 (mz_imin 1000 ((N.1 56 2) + v1))) else ((cf_105_0 v1 0 1000), 0, N)) else ((cf_104_0 N), 0, N)
def cp_281_0 (v1 : Int32) (N : mz_N) : Prop := (cp_104_0 N) ∧ (((cf_104_0 N) = 0 → (cp_105_0 v1 0 1000)) ∧ (¬ ((cf_104_0 N) = 0) → True))
/-! 280 KeptHouseLaw.fuel (LKeptHouse;I[J)I -/
noncomputable def cf_280_0 (v1 : Int32) (N : mz_N) (t : Nat) : (Int32 × mz_N × Nat) := if (cf_281_0 v1 N).1 = 0 then (0, mz_wL ((cf_281_0 v1 N).2.2) 342 0 (((cf_281_0 v1 N).2.1).toInt64), t) else (if (cf_281_0 v1 N).1 = 1 then (1, (cf_281_0 v1 N).2.2, t + 1) else (2, (cf_281_0 v1 N).2.2, t + 1))
def cp_280_0 (v1 : Int32) (N : mz_N) (t : Nat) : Prop := (cp_281_0 v1 N) ∧ ((t < 1000) ∧ (((cf_281_0 v1 N).1 = 0 → True) ∧ (¬ ((cf_281_0 v1 N).1 = 0) → (((cf_281_0 v1 N).1 = 1 → True) ∧ (¬ ((cf_281_0 v1 N).1 = 1) → ((cf_281_0 v1 N).1 = 2))))))
/-! 283 KeptHouse.reset (I)Z -/
noncomputable def cf_283_0 (v1 : Int32) (N : mz_N) : (Nat × Bool × mz_N) := if (cf_104_0 N) = 0 then (if (cf_105_0 v1 0 10) = 0 then (if (mz_gI N 60 v1) = 0 then (0, false, N) else (0, true, mz_wI (mz_wI N 60 v1 0) 59 v1 0)) else ((cf_105_0 v1 0 10), false, N)) else ((cf_104_0 N), false, N)
def cp_283_0 (v1 : Int32) (N : mz_N) : Prop := (cp_104_0 N) ∧ (((cf_104_0 N) = 0 → ((cp_105_0 v1 0 10) ∧ (((cf_105_0 v1 0 10) = 0 → ((mz_ib v1 11) ∧ (((mz_gI N 60 v1) = 0 → True) ∧ (¬ ((mz_gI N 60 v1) = 0) → ((mz_ib v1 11) ∧ (mz_ib v1 11)))))) ∧ (¬ ((cf_105_0 v1 0 10) = 0) → True)))) ∧ (¬ ((cf_104_0 N) = 0) → True))
/-! 282 KeptHouseLaw.reset (LKeptHouse;I[J)I -/
noncomputable def cf_282_15 (s1 : Int32) (s2 : Int64) (N : mz_N) (t : Nat) : (Int32 × mz_N × Nat) := (0, mz_wL N 342 s1 s2, t)
def cp_282_15 (s1 : Int32) (s2 : Int64) (N : mz_N) (t : Nat) : Prop := mz_ib s1 1
noncomputable def cf_282_0 (v1 : Int32) (N : mz_N) (t : Nat) : (Int32 × mz_N × Nat) := if (cf_283_0 v1 N).1 = 0 then (if ((cf_283_0 v1 N).2.1) = true then (cf_282_15 0 1 ((cf_283_0 v1 N).2.2) t) else (cf_282_15 0 0 ((cf_283_0 v1 N).2.2) t)) else (if (cf_283_0 v1 N).1 = 1 then (1, (cf_283_0 v1 N).2.2, t + 1) else (2, (cf_283_0 v1 N).2.2, t + 1))
def cp_282_0 (v1 : Int32) (N : mz_N) (t : Nat) : Prop := (cp_283_0 v1 N) ∧ ((t < 1000) ∧ (((cf_283_0 v1 N).1 = 0 → ((((cf_283_0 v1 N).2.1) = true → (cp_282_15 0 1 ((cf_283_0 v1 N).2.2) t)) ∧ (¬ (((cf_283_0 v1 N).2.1) = true) → (cp_282_15 0 0 ((cf_283_0 v1 N).2.2) t)))) ∧ (¬ ((cf_283_0 v1 N).1 = 0) → (((cf_283_0 v1 N).1 = 1 → True) ∧ (¬ ((cf_283_0 v1 N).1 = 1) → ((cf_283_0 v1 N).1 = 2))))))
/-! 285 KeptHouse.circuit (II)I -/
noncomputable def cf_285_0 (v1 : Int32) (v2 : Int32) (N : mz_N) : (Nat × Int32) := if (cf_104_0 N) = 0 then (if (cf_105_0 v1 0 10) = 0 then (if (cf_105_0 v2 0 5) = 0 then (0, (mz_gI N (58 + v2.toNatClampNeg) v1)) else ((cf_105_0 v2 0 5), 0)) else ((cf_105_0 v1 0 10), 0)) else ((cf_104_0 N), 0)
def cp_285_0 (v1 : Int32) (v2 : Int32) (N : mz_N) : Prop := (cp_104_0 N) ∧ (((cf_104_0 N) = 0 → ((cp_105_0 v1 0 10) ∧ (((cf_105_0 v1 0 10) = 0 → ((cp_105_0 v2 0 5) ∧ (((cf_105_0 v2 0 5) = 0 → ((mz_ib v2 6) ∧ (mz_ib v1 11))) ∧ (¬ ((cf_105_0 v2 0 5) = 0) → True)))) ∧ (¬ ((cf_105_0 v1 0 10) = 0) → True)))) ∧ (¬ ((cf_104_0 N) = 0) → True))
/-! 284 KeptHouseLaw.circuit (LKeptHouse;II[J)I -/
noncomputable def cf_284_0 (v1 : Int32) (v2 : Int32) (N : mz_N) (t : Nat) : (Int32 × mz_N × Nat) := if (cf_285_0 v1 v2 N).1 = 0 then (0, mz_wL N 342 0 (((cf_285_0 v1 v2 N).2).toInt64), t) else (if (cf_285_0 v1 v2 N).1 = 1 then (1, N, t + 1) else (2, N, t + 1))
def cp_284_0 (v1 : Int32) (v2 : Int32) (N : mz_N) (t : Nat) : Prop := (cp_285_0 v1 v2 N) ∧ ((t < 1000) ∧ (((cf_285_0 v1 v2 N).1 = 0 → True) ∧ (¬ ((cf_285_0 v1 v2 N).1 = 0) → (((cf_285_0 v1 v2 N).1 = 1 → True) ∧ (¬ ((cf_285_0 v1 v2 N).1 = 1) → ((cf_285_0 v1 v2 N).1 = 2))))))
/-! 287 KeptHouse.state (I)I -/
noncomputable def cf_287_0 (v1 : Int32) (N : mz_N) : (Nat × Int32) := if (cf_104_0 N) = 0 then (if (cf_105_0 v1 0 10) = 0 then (if v1 = 0 then (0, (N.1 56 1)) else (if v1 = 1 then (0, (N.1 56 2)) else (if v1 = 2 then (0, (N.1 56 3)) else (if v1 = 3 then (0, (N.1 56 7)) else (if v1 = 4 then (if (mz_fZ N 56 8) = true then (0, 1) else (0, 0)) else (if v1 = 5 then (0, (N.1 56 11)) else (if v1 = 6 then (0, (N.1 56 12)) else (if v1 = 7 then (0, (N.1 56 13)) else (if v1 = 8 then (if (mz_fZ N 56 9) = true then (0, 1) else (0, 0)) else (if v1 = 9 then (if (mz_fZ N 56 5) = true then (0, 1) else (0, 0)) else (0, (N.1 208 0)))))))))))) else ((cf_105_0 v1 0 10), 0)) else ((cf_104_0 N), 0)
def cp_287_0 (v1 : Int32) (N : mz_N) : Prop := (cp_104_0 N) ∧ (((cf_104_0 N) = 0 → ((cp_105_0 v1 0 10) ∧ (((cf_105_0 v1 0 10) = 0 → ((v1 = 0 → True) ∧ (¬ (v1 = 0) → ((v1 = 1 → True) ∧ (¬ (v1 = 1) → ((v1 = 2 → True) ∧ (¬ (v1 = 2) → ((v1 = 3 → True) ∧ (¬ (v1 = 3) → ((v1 = 4 → (mz_z01 (N.1 56 8))) ∧ (¬ (v1 = 4) → ((v1 = 5 → True) ∧ (¬ (v1 = 5) → ((v1 = 6 → True) ∧ (¬ (v1 = 6) → ((v1 = 7 → True) ∧ (¬ (v1 = 7) → ((v1 = 8 → (mz_z01 (N.1 56 9))) ∧ (¬ (v1 = 8) → ((v1 = 9 → (mz_z01 (N.1 56 5))) ∧ (¬ (v1 = 9) → True))))))))))))))))))))) ∧ (¬ ((cf_105_0 v1 0 10) = 0) → True)))) ∧ (¬ ((cf_104_0 N) = 0) → True))
/-! 286 KeptHouseLaw.state (LKeptHouse;I[J)I -/
noncomputable def cf_286_0 (v1 : Int32) (N : mz_N) (t : Nat) : (Int32 × mz_N × Nat) := if (cf_287_0 v1 N).1 = 0 then (0, mz_wL N 342 0 (((cf_287_0 v1 N).2).toInt64), t) else (if (cf_287_0 v1 N).1 = 1 then (1, N, t + 1) else (2, N, t + 1))
def cp_286_0 (v1 : Int32) (N : mz_N) (t : Nat) : Prop := (cp_287_0 v1 N) ∧ ((t < 1000) ∧ (((cf_287_0 v1 N).1 = 0 → True) ∧ (¬ ((cf_287_0 v1 N).1 = 0) → (((cf_287_0 v1 N).1 = 1 → True) ∧ (¬ ((cf_287_0 v1 N).1 = 1) → ((cf_287_0 v1 N).1 = 2))))))
/-! 289 KeptHouse.cell (III)J -/
noncomputable def cf_289_0 (v1 : Int32) (v2 : Int32) (v3 : Int32) (N : mz_N) : (Nat × Int64) := if (cf_104_0 N) = 0 then (if (cf_105_0 v1 0 4) = 0 then (if (cf_105_0 v2 0 47) = 0 then (if (cf_105_0 v3 0 5) = 0 then (if v3 = 0 then (0, (mz_gL N 68 ((v1 * 48) + v2))) else (if v3 = 1 then (0, (mz_gL N 69 ((v1 * 48) + v2))) else (if v3 = 2 then (0, (mz_gL N 70 ((v1 * 48) + v2))) else (if v3 = 3 then (0, ((mz_gI N 72 ((v1 * 48) + v2)).toInt64)) else (if v3 = 4 then (0, ((mz_gI N 73 ((v1 * 48) + v2)).toInt64)) else (0, (mz_gL N 71 ((v1 * 48) + v2)))))))) else ((cf_105_0 v3 0 5), 0)) else ((cf_105_0 v2 0 47), 0)) else ((cf_105_0 v1 0 4), 0)) else ((cf_104_0 N), 0)
def cp_289_0 (v1 : Int32) (v2 : Int32) (v3 : Int32) (N : mz_N) : Prop := (cp_104_0 N) ∧ (((cf_104_0 N) = 0 → ((cp_105_0 v1 0 4) ∧ (((cf_105_0 v1 0 4) = 0 → ((cp_105_0 v2 0 47) ∧ (((cf_105_0 v2 0 47) = 0 → ((cp_105_0 v3 0 5) ∧ (((cf_105_0 v3 0 5) = 0 → ((v3 = 0 → (mz_ib ((v1 * 48) + v2) 240)) ∧ (¬ (v3 = 0) → ((v3 = 1 → (mz_ib ((v1 * 48) + v2) 240)) ∧ (¬ (v3 = 1) → ((v3 = 2 → (mz_ib ((v1 * 48) + v2) 240)) ∧ (¬ (v3 = 2) → ((v3 = 3 → (mz_ib ((v1 * 48) + v2) 240)) ∧ (¬ (v3 = 3) → ((v3 = 4 → (mz_ib ((v1 * 48) + v2) 240)) ∧ (¬ (v3 = 4) → (mz_ib ((v1 * 48) + v2) 240)))))))))))) ∧ (¬ ((cf_105_0 v3 0 5) = 0) → True)))) ∧ (¬ ((cf_105_0 v2 0 47) = 0) → True)))) ∧ (¬ ((cf_105_0 v1 0 4) = 0) → True)))) ∧ (¬ ((cf_104_0 N) = 0) → True))
/-! 288 KeptHouseLaw.cell (LKeptHouse;III[J)I -/
noncomputable def cf_288_0 (v1 : Int32) (v2 : Int32) (v3 : Int32) (N : mz_N) (t : Nat) : (Int32 × mz_N × Nat) := if (cf_289_0 v1 v2 v3 N).1 = 0 then (0, mz_wL N 342 0 ((cf_289_0 v1 v2 v3 N).2), t) else (if (cf_289_0 v1 v2 v3 N).1 = 1 then (1, N, t + 1) else (2, N, t + 1))
def cp_288_0 (v1 : Int32) (v2 : Int32) (v3 : Int32) (N : mz_N) (t : Nat) : Prop := (cp_289_0 v1 v2 v3 N) ∧ ((t < 1000) ∧ (((cf_289_0 v1 v2 v3 N).1 = 0 → True) ∧ (¬ ((cf_289_0 v1 v2 v3 N).1 = 0) → (((cf_289_0 v1 v2 v3 N).1 = 1 → True) ∧ (¬ ((cf_289_0 v1 v2 v3 N).1 = 1) → ((cf_289_0 v1 v2 v3 N).1 = 2))))))
/-! 291 KeptHouse.ignite (II)Z -/
noncomputable def cf_291_0 (v1 : Int32) (v2 : Int32) (N : mz_N) : (Nat × Bool × mz_N) := if (cf_104_0 N) = 0 then (if (cf_105_0 v1 0 4) = 0 then (if (cf_105_0 v2 0 47) = 0 then (0, ((cf_250_0 ((v1 * 48) + v2) N).1), (cf_250_0 ((v1 * 48) + v2) N).2) else ((cf_105_0 v2 0 47), false, N)) else ((cf_105_0 v1 0 4), false, N)) else ((cf_104_0 N), false, N)
def cp_291_0 (v1 : Int32) (v2 : Int32) (N : mz_N) : Prop := (cp_104_0 N) ∧ (((cf_104_0 N) = 0 → ((cp_105_0 v1 0 4) ∧ (((cf_105_0 v1 0 4) = 0 → ((cp_105_0 v2 0 47) ∧ (((cf_105_0 v2 0 47) = 0 → (cp_250_0 ((v1 * 48) + v2) N)) ∧ (¬ ((cf_105_0 v2 0 47) = 0) → True)))) ∧ (¬ ((cf_105_0 v1 0 4) = 0) → True)))) ∧ (¬ ((cf_104_0 N) = 0) → True))
/-! 290 KeptHouseLaw.ignite (LKeptHouse;II[J)I -/
noncomputable def cf_290_16 (s1 : Int32) (s2 : Int64) (N : mz_N) (t : Nat) : (Int32 × mz_N × Nat) := (0, mz_wL N 342 s1 s2, t)
def cp_290_16 (s1 : Int32) (s2 : Int64) (N : mz_N) (t : Nat) : Prop := mz_ib s1 1
noncomputable def cf_290_0 (v1 : Int32) (v2 : Int32) (N : mz_N) (t : Nat) : (Int32 × mz_N × Nat) := if (cf_291_0 v1 v2 N).1 = 0 then (if ((cf_291_0 v1 v2 N).2.1) = true then (cf_290_16 0 1 ((cf_291_0 v1 v2 N).2.2) t) else (cf_290_16 0 0 ((cf_291_0 v1 v2 N).2.2) t)) else (if (cf_291_0 v1 v2 N).1 = 1 then (1, (cf_291_0 v1 v2 N).2.2, t + 1) else (2, (cf_291_0 v1 v2 N).2.2, t + 1))
def cp_290_0 (v1 : Int32) (v2 : Int32) (N : mz_N) (t : Nat) : Prop := (cp_291_0 v1 v2 N) ∧ ((t < 1000) ∧ (((cf_291_0 v1 v2 N).1 = 0 → ((((cf_291_0 v1 v2 N).2.1) = true → (cp_290_16 0 1 ((cf_291_0 v1 v2 N).2.2) t)) ∧ (¬ (((cf_291_0 v1 v2 N).2.1) = true) → (cp_290_16 0 0 ((cf_291_0 v1 v2 N).2.2) t)))) ∧ (¬ ((cf_291_0 v1 v2 N).1 = 0) → (((cf_291_0 v1 v2 N).1 = 1 → True) ∧ (¬ ((cf_291_0 v1 v2 N).1 = 1) → ((cf_291_0 v1 v2 N).1 = 2))))))
/-! 293 KeptHouse.detected (I)Z -/
noncomputable def cf_293_0 (v1 : Int32) (N : mz_N) : (Nat × Bool) := if (cf_104_0 N) = 0 then (if (cf_105_0 v1 0 ((N.1 2 7) - 1)) = 0 then (0, (cf_210_0 v1 N)) else ((cf_105_0 v1 0 ((N.1 2 7) - 1)), false)) else ((cf_104_0 N), false)
def cp_293_0 (v1 : Int32) (N : mz_N) : Prop := (cp_104_0 N) ∧ (((cf_104_0 N) = 0 → ((cp_105_0 v1 0 ((N.1 2 7) - 1)) ∧ (((cf_105_0 v1 0 ((N.1 2 7) - 1)) = 0 → (cp_210_0 v1 N)) ∧ (¬ ((cf_105_0 v1 0 ((N.1 2 7) - 1)) = 0) → True)))) ∧ (¬ ((cf_104_0 N) = 0) → True))
/-! 292 KeptHouseLaw.detected (LKeptHouse;I[J)I -/
noncomputable def cf_292_15 (s1 : Int32) (s2 : Int64) (N : mz_N) (t : Nat) : (Int32 × mz_N × Nat) := (0, mz_wL N 342 s1 s2, t)
def cp_292_15 (s1 : Int32) (s2 : Int64) (N : mz_N) (t : Nat) : Prop := mz_ib s1 1
noncomputable def cf_292_0 (v1 : Int32) (N : mz_N) (t : Nat) : (Int32 × mz_N × Nat) := if (cf_293_0 v1 N).1 = 0 then (if ((cf_293_0 v1 N).2) = true then (cf_292_15 0 1 N t) else (cf_292_15 0 0 N t)) else (if (cf_293_0 v1 N).1 = 1 then (1, N, t + 1) else (2, N, t + 1))
def cp_292_0 (v1 : Int32) (N : mz_N) (t : Nat) : Prop := (cp_293_0 v1 N) ∧ ((t < 1000) ∧ (((cf_293_0 v1 N).1 = 0 → ((((cf_293_0 v1 N).2) = true → (cp_292_15 0 1 N t)) ∧ (¬ (((cf_293_0 v1 N).2) = true) → (cp_292_15 0 0 N t)))) ∧ (¬ ((cf_293_0 v1 N).1 = 0) → (((cf_293_0 v1 N).1 = 1 → True) ∧ (¬ ((cf_293_0 v1 N).1 = 1) → ((cf_293_0 v1 N).1 = 2))))))
/-! 295 KeptHouse.alarms ()I -/
noncomputable def cf_295_0 (N : mz_N) : (Nat × Int32) := if (cf_104_0 N) = 0 then (0, (N.1 81 3)) else ((cf_104_0 N), 0)
def cp_295_0 (N : mz_N) : Prop := cp_104_0 N
/-! 294 KeptHouseLaw.alarms (LKeptHouse;[J)I -/
noncomputable def cf_294_0 (N : mz_N) (t : Nat) : (Int32 × mz_N × Nat) := if (cf_295_0 N).1 = 0 then (0, mz_wL N 342 0 (((cf_295_0 N).2).toInt64), t) else (1, N, t + 1)
def cp_294_0 (N : mz_N) (t : Nat) : Prop := (cp_295_0 N) ∧ ((t < 1000) ∧ (((cf_295_0 N).1 = 0 → True) ∧ (¬ ((cf_295_0 N).1 = 0) → ((cf_295_0 N).1 = 2))))
/-! 297 KeptHouse.alarm (II)I -/
noncomputable def cf_297_0 (v1 : Int32) (v2 : Int32) (N : mz_N) : (Nat × Int32) := if (cf_104_0 N) = 0 then (if (cf_105_0 v1 0 ((mz_imin (N.1 81 3) 32) - 1)) = 0 then (if (cf_105_0 v2 0 1) = 0 then (0, (mz_gI N (85 + v2.toNatClampNeg) (mz_irem (((N.1 81 3) - 1) - v1) 32))) else ((cf_105_0 v2 0 1), 0)) else ((cf_105_0 v1 0 ((mz_imin (N.1 81 3) 32) - 1)), 0)) else ((cf_104_0 N), 0)
def cp_297_0 (v1 : Int32) (v2 : Int32) (N : mz_N) : Prop := (cp_104_0 N) ∧ (((cf_104_0 N) = 0 → ((cp_105_0 v1 0 ((mz_imin (N.1 81 3) 32) - 1)) ∧ (((cf_105_0 v1 0 ((mz_imin (N.1 81 3) 32) - 1)) = 0 → ((cp_105_0 v2 0 1) ∧ (((cf_105_0 v2 0 1) = 0 → ((mz_ib v2 2) ∧ (mz_ib (mz_irem (((N.1 81 3) - 1) - v1) 32) 32))) ∧ (¬ ((cf_105_0 v2 0 1) = 0) → True)))) ∧ (¬ ((cf_105_0 v1 0 ((mz_imin (N.1 81 3) 32) - 1)) = 0) → True)))) ∧ (¬ ((cf_104_0 N) = 0) → True))
/-! 296 KeptHouseLaw.alarm (LKeptHouse;II[J)I -/
noncomputable def cf_296_0 (v1 : Int32) (v2 : Int32) (N : mz_N) (t : Nat) : (Int32 × mz_N × Nat) := if (cf_297_0 v1 v2 N).1 = 0 then (0, mz_wL N 342 0 (((cf_297_0 v1 v2 N).2).toInt64), t) else (if (cf_297_0 v1 v2 N).1 = 1 then (1, N, t + 1) else (2, N, t + 1))
def cp_296_0 (v1 : Int32) (v2 : Int32) (N : mz_N) (t : Nat) : Prop := (cp_297_0 v1 v2 N) ∧ ((t < 1000) ∧ (((cf_297_0 v1 v2 N).1 = 0 → True) ∧ (¬ ((cf_297_0 v1 v2 N).1 = 0) → (((cf_297_0 v1 v2 N).1 = 1 → True) ∧ (¬ ((cf_297_0 v1 v2 N).1 = 1) → ((cf_297_0 v1 v2 N).1 = 2))))))
/-! 300 KeptHouse$Access.mayHaveDoor (II)Z -/
noncomputable def cf_300_0 (v0 : Int32) (v1 : Int32) : (Bool) := if v0 = 0 then true else (if (cf_21_0 v1) = (-1) then true else false)
def cp_300_0 (v0 : Int32) (v1 : Int32) : Prop := True
/-! 301 KeptHouse$Access.freeDoor ()I -/
noncomputable def cq_301_2 (N : mz_N) (s : Int32) : ((Int32) ⊕ (Int32)) := if s < 20 then (if (mz_gI N 101 s) = 0 then (.inr s) else (.inl ((s + 1)))) else (.inr (-1))
def cd_301_2 (N : mz_N) (s : Int32) : Prop := (s < 20 → (mz_ib s 20)) ∧ (¬ (s < 20) → True)
noncomputable def cf_301_2 (v1 : Int32) (N : mz_N) : (Int32) := mz_run (cq_301_2 N) (v1)
def cp_301_2 (v1 : Int32) (N : mz_N) : Prop := ∃ n, mz_ok (cq_301_2 N) (cd_301_2 N) n (v1)
noncomputable def cf_301_0 (N : mz_N) : (Int32) := (cf_301_2 0 N)
def cp_301_0 (N : mz_N) : Prop := cp_301_2 0 N
/-! 299 KeptHouse.door (II)I -/
noncomputable def cf_299_0 (v1 : Int32) (v2 : Int32) (N : mz_N) (b : Bool) : (Nat × Int32 × mz_N) := if (cf_104_0 N) = 0 then (if (cf_105_0 v1 0 4) = 0 then (if (cf_105_0 v2 0 109) = 0 then (if (cf_142_0 (cf_300_0 v1 v2)) = 0 then (if (cf_301_0 N) = (-1) then (0, (-1003), N) else (0, ((cf_171_0 13 (cf_301_0 N) (cf_301_0 N) (cf_69_0 (cf_301_0 N) v1 v2 N) b).1), (cf_171_0 13 (cf_301_0 N) (cf_301_0 N) (cf_69_0 (cf_301_0 N) v1 v2 N) b).2)) else ((cf_142_0 (cf_300_0 v1 v2)), 0, N)) else ((cf_105_0 v2 0 109), 0, N)) else ((cf_105_0 v1 0 4), 0, N)) else ((cf_104_0 N), 0, N)
def cp_299_0 (v1 : Int32) (v2 : Int32) (N : mz_N) (b : Bool) : Prop := (cp_104_0 N) ∧ (((cf_104_0 N) = 0 → ((cp_105_0 v1 0 4) ∧ (((cf_105_0 v1 0 4) = 0 → ((cp_105_0 v2 0 109) ∧ (((cf_105_0 v2 0 109) = 0 → (((cf_142_0 (cf_300_0 v1 v2)) = 0 → ((cp_301_0 N) ∧ (((cf_301_0 N) = (-1) → True) ∧ (¬ ((cf_301_0 N) = (-1)) → ((cp_69_0 (cf_301_0 N) v1 v2 N) ∧ (cp_171_0 13 (cf_301_0 N) (cf_301_0 N) (cf_69_0 (cf_301_0 N) v1 v2 N) b)))))) ∧ (¬ ((cf_142_0 (cf_300_0 v1 v2)) = 0) → True))) ∧ (¬ ((cf_105_0 v2 0 109) = 0) → True)))) ∧ (¬ ((cf_105_0 v1 0 4) = 0) → True)))) ∧ (¬ ((cf_104_0 N) = 0) → True))
/-! 298 KeptHouseLaw.door (LKeptHouse;II[J)I -/
noncomputable def cf_298_21 (N : mz_N) (b : Bool) (t : Nat) : (Int32 × mz_N × Nat) := (0, N, t)
def cp_298_21 (N : mz_N) (b : Bool) (t : Nat) : Prop := True
noncomputable def cf_298_0 (v1 : Int32) (v2 : Int32) (N : mz_N) (b : Bool) (t : Nat) : (Int32 × mz_N × Nat) := if (cf_299_0 v1 v2 N b).1 = 0 then (cf_298_21 (mz_wL ((cf_299_0 v1 v2 N b).2.2) 342 0 (((cf_299_0 v1 v2 N b).2.1).toInt64)) b t) else (if (cf_299_0 v1 v2 N b).1 = 1 then (1, (cf_299_0 v1 v2 N b).2.2, t + 1) else (2, (cf_299_0 v1 v2 N b).2.2, t + 1))
def cp_298_0 (v1 : Int32) (v2 : Int32) (N : mz_N) (b : Bool) (t : Nat) : Prop := (cp_299_0 v1 v2 N b) ∧ ((t < 1000) ∧ (((cf_299_0 v1 v2 N b).1 = 0 → (cp_298_21 (mz_wL ((cf_299_0 v1 v2 N b).2.2) 342 0 (((cf_299_0 v1 v2 N b).2.1).toInt64)) b t)) ∧ (¬ ((cf_299_0 v1 v2 N b).1 = 0) → (((cf_299_0 v1 v2 N b).1 = 1 → True) ∧ (¬ ((cf_299_0 v1 v2 N b).1 = 1) → ((cf_299_0 v1 v2 N b).1 = 2))))))
/-! 303 KeptHouse.card (IIIIZ)I -/
noncomputable def cf_303_53 (s1 : Int32) (s2 : Int32) (s3 : Int32) (s4 : Int32) (s5 : Bool) (v1 : Int32) (N : mz_N) (b : Bool) : (Nat × Int32 × mz_N) := (0, ((cf_171_0 14 v1 0 (cf_71_0 s1 s2 s3 s4 (mz_b01 s5) N) b).1), (cf_171_0 14 v1 0 (cf_71_0 s1 s2 s3 s4 (mz_b01 s5) N) b).2)
def cp_303_53 (s1 : Int32) (s2 : Int32) (s3 : Int32) (s4 : Int32) (s5 : Bool) (v1 : Int32) (N : mz_N) (b : Bool) : Prop := (cp_71_0 s1 s2 s3 s4 (mz_b01 s5) N) ∧ (cp_171_0 14 v1 0 (cf_71_0 s1 s2 s3 s4 (mz_b01 s5) N) b)
noncomputable def cf_303_0 (v1 : Int32) (v2 : Int32) (v3 : Int32) (v4 : Int32) (v5 : Bool) (N : mz_N) (b : Bool) : (Nat × Int32 × mz_N) := if (cf_104_0 N) = 0 then (if (cf_105_0 v1 0 39) = 0 then (if (cf_105_0 v2 0 1048575) = 0 then (if (cf_105_0 v3 0 23) = 0 then (if (cf_105_0 v4 0 23) = 0 then (if v5 = true then (cf_303_53 v1 v2 v3 v4 true v1 N b) else (cf_303_53 v1 v2 v3 v4 false v1 N b)) else ((cf_105_0 v4 0 23), 0, N)) else ((cf_105_0 v3 0 23), 0, N)) else ((cf_105_0 v2 0 1048575), 0, N)) else ((cf_105_0 v1 0 39), 0, N)) else ((cf_104_0 N), 0, N)
def cp_303_0 (v1 : Int32) (v2 : Int32) (v3 : Int32) (v4 : Int32) (v5 : Bool) (N : mz_N) (b : Bool) : Prop := (cp_104_0 N) ∧ (((cf_104_0 N) = 0 → ((cp_105_0 v1 0 39) ∧ (((cf_105_0 v1 0 39) = 0 → ((cp_105_0 v2 0 1048575) ∧ (((cf_105_0 v2 0 1048575) = 0 → ((cp_105_0 v3 0 23) ∧ (((cf_105_0 v3 0 23) = 0 → ((cp_105_0 v4 0 23) ∧ (((cf_105_0 v4 0 23) = 0 → ((v5 = true → (cp_303_53 v1 v2 v3 v4 true v1 N b)) ∧ (¬ (v5 = true) → (cp_303_53 v1 v2 v3 v4 false v1 N b)))) ∧ (¬ ((cf_105_0 v4 0 23) = 0) → True)))) ∧ (¬ ((cf_105_0 v3 0 23) = 0) → True)))) ∧ (¬ ((cf_105_0 v2 0 1048575) = 0) → True)))) ∧ (¬ ((cf_105_0 v1 0 39) = 0) → True)))) ∧ (¬ ((cf_104_0 N) = 0) → True))
/-! 302 KeptHouseLaw.card (LKeptHouse;IIIIZ[J)I -/
noncomputable def cf_302_27 (N : mz_N) (b : Bool) (t : Nat) : (Int32 × mz_N × Nat) := (0, N, t)
def cp_302_27 (N : mz_N) (b : Bool) (t : Nat) : Prop := True
noncomputable def cf_302_0 (v1 : Int32) (v2 : Int32) (v3 : Int32) (v4 : Int32) (v5 : Bool) (N : mz_N) (b : Bool) (t : Nat) : (Int32 × mz_N × Nat) := if (cf_303_0 v1 v2 v3 v4 v5 N b).1 = 0 then (cf_302_27 (mz_wL ((cf_303_0 v1 v2 v3 v4 v5 N b).2.2) 342 0 (((cf_303_0 v1 v2 v3 v4 v5 N b).2.1).toInt64)) b t) else (if (cf_303_0 v1 v2 v3 v4 v5 N b).1 = 1 then (1, (cf_303_0 v1 v2 v3 v4 v5 N b).2.2, t + 1) else (2, (cf_303_0 v1 v2 v3 v4 v5 N b).2.2, t + 1))
def cp_302_0 (v1 : Int32) (v2 : Int32) (v3 : Int32) (v4 : Int32) (v5 : Bool) (N : mz_N) (b : Bool) (t : Nat) : Prop := (cp_303_0 v1 v2 v3 v4 v5 N b) ∧ ((t < 1000) ∧ (((cf_303_0 v1 v2 v3 v4 v5 N b).1 = 0 → (cp_302_27 (mz_wL ((cf_303_0 v1 v2 v3 v4 v5 N b).2.2) 342 0 (((cf_303_0 v1 v2 v3 v4 v5 N b).2.1).toInt64)) b t)) ∧ (¬ ((cf_303_0 v1 v2 v3 v4 v5 N b).1 = 0) → (((cf_303_0 v1 v2 v3 v4 v5 N b).1 = 1 → True) ∧ (¬ ((cf_303_0 v1 v2 v3 v4 v5 N b).1 = 1) → ((cf_303_0 v1 v2 v3 v4 v5 N b).1 = 2))))))
/-! 306 KeptHouse$Access.isCard (I)Z -/
noncomputable def cf_306_0 (v1 : Int32) (N : mz_N) : (Bool) := if v1 < 0 then false else (if v1 < 40 then (if (mz_gI N 104 v1) = 1 then true else false) else false)
def cp_306_0 (v1 : Int32) (N : mz_N) : Prop := (v1 < 0 → True) ∧ (¬ (v1 < 0) → ((v1 < 40 → (mz_ib v1 40)) ∧ (¬ (v1 < 40) → True)))
/-! 307 KeptHouse$Access.isDoor (I)Z -/
noncomputable def cf_307_0 (v1 : Int32) (N : mz_N) : (Bool) := if v1 < 0 then false else (if v1 < 20 then (if (mz_gI N 101 v1) = 1 then true else false) else false)
def cp_307_0 (v1 : Int32) (N : mz_N) : Prop := (v1 < 0 → True) ∧ (¬ (v1 < 0) → ((v1 < 20 → (mz_ib v1 20)) ∧ (¬ (v1 < 20) → True)))
/-! 309 KeptHouse$Access.near (I)I -/
noncomputable def cf_309_0 (v1 : Int32) (N : mz_N) : (Int32) := if (cf_84_0 (mz_gI N 103 v1)) = (-1) then (-1) else (((mz_gI N 102 v1) * 48) + (cf_84_0 (mz_gI N 103 v1)))
def cp_309_0 (v1 : Int32) (N : mz_N) : Prop := (mz_ib v1 20) ∧ (((cf_84_0 (mz_gI N 103 v1)) = (-1) → True) ∧ (¬ ((cf_84_0 (mz_gI N 103 v1)) = (-1)) → (mz_ib v1 20)))
/-! 310 KeptHouse$Access.meets (LKeptHouse$Plan;II)Z -/
noncomputable def cf_310_10 (v1 : Int32) (v2 : Int32) (N : mz_N) : (Bool) := if v1 = v2 then true else false
def cp_310_10 (v1 : Int32) (v2 : Int32) (N : mz_N) : Prop := True
noncomputable def cf_310_0 (v1 : Int32) (v2 : Int32) (N : mz_N) : (Bool) := if v1 = (-1) then (cf_310_10 v1 v2 N) else (if v2 = (-1) then (cf_310_10 v1 v2 N) else (if (mz_gI N 15 v1) = (mz_gI N 15 v2) then true else false))
def cp_310_0 (v1 : Int32) (v2 : Int32) (N : mz_N) : Prop := (v1 = (-1) → (cp_310_10 v1 v2 N)) ∧ (¬ (v1 = (-1)) → ((v2 = (-1) → (cp_310_10 v1 v2 N)) ∧ (¬ (v2 = (-1)) → ((mz_ib v1 240) ∧ (mz_ib v2 240)))))
/-! 311 KeptHouse$Access.far (I)I -/
noncomputable def cf_311_0 (v1 : Int32) (N : mz_N) : (Int32) := if (cf_85_0 (mz_gI N 103 v1)) = (-1) then (-1) else (((mz_gI N 102 v1) * 48) + (cf_85_0 (mz_gI N 103 v1)))
def cp_311_0 (v1 : Int32) (N : mz_N) : Prop := (mz_ib v1 20) ∧ (((cf_85_0 (mz_gI N 103 v1)) = (-1) → True) ∧ (¬ ((cf_85_0 (mz_gI N 103 v1)) = (-1)) → (mz_ib v1 20)))
/-! 312 KeptHouse$Access.isItsHour (II)Z -/
noncomputable def cf_312_31 (s0 : Bool) (v1 : Int32) (v3 : Bool) (N : mz_N) : (Bool) := if (mz_gI N 106 v1) < (mz_gI N 105 v1) then (if v3 = true then true else (if s0 = true then true else false)) else (if v3 = true then (if s0 = true then true else false) else false)
def cp_312_31 (s0 : Bool) (v1 : Int32) (v3 : Bool) (N : mz_N) : Prop := (mz_ib v1 40) ∧ (mz_ib v1 40)
noncomputable def cf_312_15 (s0 : Bool) (v1 : Int32) (v2 : Int32) (N : mz_N) : (Bool) := if (mz_gI N 106 v1) < v2 then (cf_312_31 false v1 s0 N) else (cf_312_31 true v1 s0 N)
def cp_312_15 (s0 : Bool) (v1 : Int32) (v2 : Int32) (N : mz_N) : Prop := (mz_ib v1 40) ∧ (((mz_gI N 106 v1) < v2 → (cp_312_31 false v1 s0 N)) ∧ (¬ ((mz_gI N 106 v1) < v2) → (cp_312_31 true v1 s0 N)))
noncomputable def cf_312_0 (v1 : Int32) (v2 : Int32) (N : mz_N) : (Bool) := if v2 < (mz_gI N 105 v1) then (cf_312_15 false v1 v2 N) else (cf_312_15 true v1 v2 N)
def cp_312_0 (v1 : Int32) (v2 : Int32) (N : mz_N) : Prop := (mz_ib v1 40) ∧ ((v2 < (mz_gI N 105 v1) → (cp_312_15 false v1 v2 N)) ∧ (¬ (v2 < (mz_gI N 105 v1)) → (cp_312_15 true v1 v2 N)))
/-! 308 KeptHouse$Access.judge (LKeptHouse$Plan;IIZI)I -/
noncomputable def cf_308_38 (v2 : Int32) (v3 : Int32) (v4 : Bool) (v5 : Int32) (N : mz_N) : (Int32) := if v4 = true then 0 else (if (mz_gI N 107 v2) = 1 then 3 else (if ((mz_ishr (mz_gI N 108 v2) v3) &&& 1) = 0 then 1 else (if (cf_312_0 v2 v5 N) = true then 0 else 2)))
def cp_308_38 (v2 : Int32) (v3 : Int32) (v4 : Bool) (v5 : Int32) (N : mz_N) : Prop := (v4 = true → True) ∧ (¬ (v4 = true) → ((mz_ib v2 40) ∧ (((mz_gI N 107 v2) = 1 → True) ∧ (¬ ((mz_gI N 107 v2) = 1) → ((mz_ib v2 40) ∧ ((((mz_ishr (mz_gI N 108 v2) v3) &&& 1) = 0 → True) ∧ (¬ (((mz_ishr (mz_gI N 108 v2) v3) &&& 1) = 0) → (cp_312_0 v2 v5 N))))))))
noncomputable def cf_308_0 (v2 : Int32) (v3 : Int32) (v4 : Bool) (v5 : Int32) (N : mz_N) : (Int32) := if (cf_310_0 (mz_gI N 109 v2) (cf_309_0 v3 N) N) = true then (cf_308_38 v2 v3 v4 v5 N) else (if (cf_310_0 (mz_gI N 109 v2) (cf_311_0 v3 N) N) = true then (cf_308_38 v2 v3 v4 v5 N) else 4)
def cp_308_0 (v2 : Int32) (v3 : Int32) (v4 : Bool) (v5 : Int32) (N : mz_N) : Prop := (mz_ib v2 40) ∧ ((cp_309_0 v3 N) ∧ ((cp_310_0 (mz_gI N 109 v2) (cf_309_0 v3 N) N) ∧ (((cf_310_0 (mz_gI N 109 v2) (cf_309_0 v3 N) N) = true → (cp_308_38 v2 v3 v4 v5 N)) ∧ (¬ ((cf_310_0 (mz_gI N 109 v2) (cf_309_0 v3 N) N) = true) → ((mz_ib v2 40) ∧ ((cp_311_0 v3 N) ∧ ((cp_310_0 (mz_gI N 109 v2) (cf_311_0 v3 N) N) ∧ (((cf_310_0 (mz_gI N 109 v2) (cf_311_0 v3 N) N) = true → (cp_308_38 v2 v3 v4 v5 N)) ∧ (¬ ((cf_310_0 (mz_gI N 109 v2) (cf_311_0 v3 N) N) = true) → True)))))))))
/-! 313 KeptHouse$Access.step (LKeptHouse$Plan;II)V -/
noncomputable def cf_313_36 (s1 : Int32) (s2 : Int32) (N : mz_N) : (mz_N) := mz_wI N 109 s1 s2
def cp_313_36 (s1 : Int32) (s2 : Int32) (N : mz_N) : Prop := mz_ib s1 40
noncomputable def cf_313_0 (v2 : Int32) (v3 : Int32) (N : mz_N) : (mz_N) := if (cf_310_0 (mz_gI N 109 v2) (cf_309_0 v3 N) N) = true then (cf_313_36 v2 (cf_311_0 v3 N) N) else (cf_313_36 v2 (cf_309_0 v3 N) N)
def cp_313_0 (v2 : Int32) (v3 : Int32) (N : mz_N) : Prop := (mz_ib v2 40) ∧ ((cp_309_0 v3 N) ∧ ((cp_310_0 (mz_gI N 109 v2) (cf_309_0 v3 N) N) ∧ (((cf_310_0 (mz_gI N 109 v2) (cf_309_0 v3 N) N) = true → ((cp_311_0 v3 N) ∧ (cp_313_36 v2 (cf_311_0 v3 N) N))) ∧ (¬ ((cf_310_0 (mz_gI N 109 v2) (cf_309_0 v3 N) N) = true) → ((cp_309_0 v3 N) ∧ (cp_313_36 v2 (cf_309_0 v3 N) N))))))
/-! 314 KeptHouse$Access.note (IIII)V -/
noncomputable def cf_314_39 (v4 : Int32) (v5 : Int32) (N : mz_N) : (mz_N) := mz_pI (mz_wI N 114 v5 v4) 100 10 (((mz_wI N 114 v5 v4).1 100 10) + 1)
def cp_314_39 (v4 : Int32) (v5 : Int32) (N : mz_N) : Prop := mz_ib v5 64
noncomputable def cf_314_0 (v1 : Int32) (v2 : Int32) (v3 : Int32) (v4 : Int32) (N : mz_N) : (mz_N) := (cf_314_39 v4 (mz_irem (N.1 100 10) 64) (mz_wI (mz_wI (mz_wI N 111 (mz_irem (N.1 100 10) 64) v1) 112 (mz_irem (N.1 100 10) 64) v2) 113 (mz_irem (N.1 100 10) 64) v3))
def cp_314_0 (v1 : Int32) (v2 : Int32) (v3 : Int32) (v4 : Int32) (N : mz_N) : Prop := (mz_ib (mz_irem (N.1 100 10) 64) 64) ∧ ((mz_ib (mz_irem (N.1 100 10) 64) 64) ∧ ((mz_ib (mz_irem (N.1 100 10) 64) 64) ∧ (cp_314_39 v4 (mz_irem (N.1 100 10) 64) (mz_wI (mz_wI (mz_wI N 111 (mz_irem (N.1 100 10) 64) v1) 112 (mz_irem (N.1 100 10) 64) v2) 113 (mz_irem (N.1 100 10) 64) v3))))
/-! 305 KeptHouse.go (II)I -/
noncomputable def cf_305_80 (v1 : Int32) (v2 : Int32) (v3 : Int32) (N : mz_N) : (Nat × Int32 × mz_N) := (0, v3, (cf_314_0 (N.1 208 0) v1 v2 v3 N))
def cp_305_80 (v1 : Int32) (v2 : Int32) (v3 : Int32) (N : mz_N) : Prop := cp_314_0 (N.1 208 0) v1 v2 v3 N
noncomputable def cf_305_52 (s2 : Int32) (s3 : Int32) (s4 : Bool) (v1 : Int32) (v2 : Int32) (N : mz_N) : (Nat × Int32 × mz_N) := if (cf_308_0 s2 s3 s4 (cf_200_0 N) N) = 0 then (cf_305_80 v1 v2 (cf_308_0 s2 s3 s4 (cf_200_0 N) N) (cf_313_0 v1 v2 N)) else (cf_305_80 v1 v2 (cf_308_0 s2 s3 s4 (cf_200_0 N) N) N)
def cp_305_52 (s2 : Int32) (s3 : Int32) (s4 : Bool) (v1 : Int32) (v2 : Int32) (N : mz_N) : Prop := (cp_308_0 s2 s3 s4 (cf_200_0 N) N) ∧ (((cf_308_0 s2 s3 s4 (cf_200_0 N) N) = 0 → ((cp_313_0 v1 v2 N) ∧ (cp_305_80 v1 v2 (cf_308_0 s2 s3 s4 (cf_200_0 N) N) (cf_313_0 v1 v2 N)))) ∧ (¬ ((cf_308_0 s2 s3 s4 (cf_200_0 N) N) = 0) → (cp_305_80 v1 v2 (cf_308_0 s2 s3 s4 (cf_200_0 N) N) N)))
noncomputable def cf_305_0 (v1 : Int32) (v2 : Int32) (N : mz_N) : (Nat × Int32 × mz_N) := if (cf_104_0 N) = 0 then (if (cf_142_0 (cf_306_0 v1 N)) = 0 then (if (cf_142_0 (cf_307_0 v2 N)) = 0 then (if (mz_gI N 53 14) = 1 then (cf_305_52 v1 v2 true v1 v2 N) else (cf_305_52 v1 v2 false v1 v2 N)) else ((cf_142_0 (cf_307_0 v2 N)), 0, N)) else ((cf_142_0 (cf_306_0 v1 N)), 0, N)) else ((cf_104_0 N), 0, N)
def cp_305_0 (v1 : Int32) (v2 : Int32) (N : mz_N) : Prop := (cp_104_0 N) ∧ (((cf_104_0 N) = 0 → ((cp_306_0 v1 N) ∧ (((cf_142_0 (cf_306_0 v1 N)) = 0 → ((cp_307_0 v2 N) ∧ (((cf_142_0 (cf_307_0 v2 N)) = 0 → (((mz_gI N 53 14) = 1 → (cp_305_52 v1 v2 true v1 v2 N)) ∧ (¬ ((mz_gI N 53 14) = 1) → (cp_305_52 v1 v2 false v1 v2 N)))) ∧ (¬ ((cf_142_0 (cf_307_0 v2 N)) = 0) → True)))) ∧ (¬ ((cf_142_0 (cf_306_0 v1 N)) = 0) → True)))) ∧ (¬ ((cf_104_0 N) = 0) → True))
/-! 304 KeptHouseLaw.go (LKeptHouse;II[J)I -/
noncomputable def cf_304_21 (N : mz_N) (t : Nat) : (Int32 × mz_N × Nat) := (0, N, t)
def cp_304_21 (N : mz_N) (t : Nat) : Prop := True
noncomputable def cf_304_0 (v1 : Int32) (v2 : Int32) (N : mz_N) (t : Nat) : (Int32 × mz_N × Nat) := if (cf_305_0 v1 v2 N).1 = 0 then (cf_304_21 (mz_wL ((cf_305_0 v1 v2 N).2.2) 342 0 (((cf_305_0 v1 v2 N).2.1).toInt64)) t) else (if (cf_305_0 v1 v2 N).1 = 1 then (1, (cf_305_0 v1 v2 N).2.2, t + 1) else (2, (cf_305_0 v1 v2 N).2.2, t + 1))
def cp_304_0 (v1 : Int32) (v2 : Int32) (N : mz_N) (t : Nat) : Prop := (cp_305_0 v1 v2 N) ∧ ((t < 1000) ∧ (((cf_305_0 v1 v2 N).1 = 0 → (cp_304_21 (mz_wL ((cf_305_0 v1 v2 N).2.2) 342 0 (((cf_305_0 v1 v2 N).2.1).toInt64)) t)) ∧ (¬ ((cf_305_0 v1 v2 N).1 = 0) → (((cf_305_0 v1 v2 N).1 = 1 → True) ∧ (¬ ((cf_305_0 v1 v2 N).1 = 1) → ((cf_305_0 v1 v2 N).1 = 2))))))
/-! 316 KeptHouse.place (I)I -/
noncomputable def cf_316_0 (v1 : Int32) (N : mz_N) : (Nat × Int32) := if (cf_104_0 N) = 0 then (if (cf_142_0 (cf_306_0 v1 N)) = 0 then (0, (mz_gI N 109 v1)) else ((cf_142_0 (cf_306_0 v1 N)), 0)) else ((cf_104_0 N), 0)
def cp_316_0 (v1 : Int32) (N : mz_N) : Prop := (cp_104_0 N) ∧ (((cf_104_0 N) = 0 → ((cp_306_0 v1 N) ∧ (((cf_142_0 (cf_306_0 v1 N)) = 0 → (mz_ib v1 40)) ∧ (¬ ((cf_142_0 (cf_306_0 v1 N)) = 0) → True)))) ∧ (¬ ((cf_104_0 N) = 0) → True))
/-! 315 KeptHouseLaw.place (LKeptHouse;I[J)I -/
noncomputable def cf_315_0 (v1 : Int32) (N : mz_N) (t : Nat) : (Int32 × mz_N × Nat) := if (cf_316_0 v1 N).1 = 0 then (0, mz_wL N 342 0 (((cf_316_0 v1 N).2).toInt64), t) else (if (cf_316_0 v1 N).1 = 1 then (1, N, t + 1) else (2, N, t + 1))
def cp_315_0 (v1 : Int32) (N : mz_N) (t : Nat) : Prop := (cp_316_0 v1 N) ∧ ((t < 1000) ∧ (((cf_316_0 v1 N).1 = 0 → True) ∧ (¬ ((cf_316_0 v1 N).1 = 0) → (((cf_316_0 v1 N).1 = 1 → True) ∧ (¬ ((cf_316_0 v1 N).1 = 1) → ((cf_316_0 v1 N).1 = 2))))))
/-! 319 KeptHouse$Access.countIn (LKeptHouse$Plan;I)I -/
noncomputable def cf_319_42 (v2 : Int32) (v3 : Int32) (v4 : Int32) (N : mz_N) : ((Int32 × Int32) ⊕ (Int32)) := (.inl (v3, (v4 + 1)))
def cp_319_42 (v2 : Int32) (v3 : Int32) (v4 : Int32) (N : mz_N) : Prop := True
noncomputable def cq_319_5 (v2 : Int32) (N : mz_N) (s : Int32 × Int32) : ((Int32 × Int32) ⊕ (Int32)) := if s.2 < 40 then (if (mz_gI N 109 s.2) = (-1) then (cf_319_42 v2 s.1 s.2 N) else (if (mz_gI N 15 (mz_gI N 109 s.2)) = v2 then (cf_319_42 v2 (s.1 + 1) s.2 N) else (cf_319_42 v2 s.1 s.2 N))) else (.inr s.1)
def cd_319_5 (v2 : Int32) (N : mz_N) (s : Int32 × Int32) : Prop := (s.2 < 40 → ((mz_ib s.2 40) ∧ (((mz_gI N 109 s.2) = (-1) → (cp_319_42 v2 s.1 s.2 N)) ∧ (¬ ((mz_gI N 109 s.2) = (-1)) → ((mz_ib s.2 40) ∧ ((mz_ib (mz_gI N 109 s.2) 240) ∧ (((mz_gI N 15 (mz_gI N 109 s.2)) = v2 → (cp_319_42 v2 (s.1 + 1) s.2 N)) ∧ (¬ ((mz_gI N 15 (mz_gI N 109 s.2)) = v2) → (cp_319_42 v2 s.1 s.2 N))))))))) ∧ (¬ (s.2 < 40) → True)
noncomputable def cf_319_5 (v2 : Int32) (v3 : Int32) (v4 : Int32) (N : mz_N) : (Int32) := mz_run (cq_319_5 v2 N) (v3, v4)
def cp_319_5 (v2 : Int32) (v3 : Int32) (v4 : Int32) (N : mz_N) : Prop := ∃ n, mz_ok (cq_319_5 v2 N) (cd_319_5 v2 N) n (v3, v4)
noncomputable def cf_319_0 (v2 : Int32) (N : mz_N) : (Int32) := (cf_319_5 v2 0 0 N)
def cp_319_0 (v2 : Int32) (N : mz_N) : Prop := cp_319_5 v2 0 0 N
/-! 318 KeptHouse.inside (I)I -/
noncomputable def cf_318_0 (v1 : Int32) (N : mz_N) : (Nat × Int32) := if (cf_104_0 N) = 0 then (if (cf_105_0 v1 0 ((N.1 2 7) - 1)) = 0 then (0, (cf_319_0 v1 N)) else ((cf_105_0 v1 0 ((N.1 2 7) - 1)), 0)) else ((cf_104_0 N), 0)
def cp_318_0 (v1 : Int32) (N : mz_N) : Prop := (cp_104_0 N) ∧ (((cf_104_0 N) = 0 → ((cp_105_0 v1 0 ((N.1 2 7) - 1)) ∧ (((cf_105_0 v1 0 ((N.1 2 7) - 1)) = 0 → (cp_319_0 v1 N)) ∧ (¬ ((cf_105_0 v1 0 ((N.1 2 7) - 1)) = 0) → True)))) ∧ (¬ ((cf_104_0 N) = 0) → True))
/-! 317 KeptHouseLaw.inside (LKeptHouse;I[J)I -/
noncomputable def cf_317_0 (v1 : Int32) (N : mz_N) (t : Nat) : (Int32 × mz_N × Nat) := if (cf_318_0 v1 N).1 = 0 then (0, mz_wL N 342 0 (((cf_318_0 v1 N).2).toInt64), t) else (if (cf_318_0 v1 N).1 = 1 then (1, N, t + 1) else (2, N, t + 1))
def cp_317_0 (v1 : Int32) (N : mz_N) (t : Nat) : Prop := (cp_318_0 v1 N) ∧ ((t < 1000) ∧ (((cf_318_0 v1 N).1 = 0 → True) ∧ (¬ ((cf_318_0 v1 N).1 = 0) → (((cf_318_0 v1 N).1 = 1 → True) ∧ (¬ ((cf_318_0 v1 N).1 = 1) → ((cf_318_0 v1 N).1 = 2))))))
/-! 321 KeptHouse.log (II)I -/
noncomputable def cf_321_0 (v1 : Int32) (v2 : Int32) (N : mz_N) : (Nat × Int32) := if (cf_104_0 N) = 0 then (if (cf_105_0 v1 0 ((mz_imin (N.1 100 10) 64) - 1)) = 0 then (if (cf_105_0 v2 0 3) = 0 then (0, (mz_gI N (111 + v2.toNatClampNeg) (mz_irem (((N.1 100 10) - 1) - v1) 64))) else ((cf_105_0 v2 0 3), 0)) else ((cf_105_0 v1 0 ((mz_imin (N.1 100 10) 64) - 1)), 0)) else ((cf_104_0 N), 0)
def cp_321_0 (v1 : Int32) (v2 : Int32) (N : mz_N) : Prop := (cp_104_0 N) ∧ (((cf_104_0 N) = 0 → ((cp_105_0 v1 0 ((mz_imin (N.1 100 10) 64) - 1)) ∧ (((cf_105_0 v1 0 ((mz_imin (N.1 100 10) 64) - 1)) = 0 → ((cp_105_0 v2 0 3) ∧ (((cf_105_0 v2 0 3) = 0 → ((mz_ib v2 4) ∧ (mz_ib (mz_irem (((N.1 100 10) - 1) - v1) 64) 64))) ∧ (¬ ((cf_105_0 v2 0 3) = 0) → True)))) ∧ (¬ ((cf_105_0 v1 0 ((mz_imin (N.1 100 10) 64) - 1)) = 0) → True)))) ∧ (¬ ((cf_104_0 N) = 0) → True))
/-! 320 KeptHouseLaw.log (LKeptHouse;II[J)I -/
noncomputable def cf_320_0 (v1 : Int32) (v2 : Int32) (N : mz_N) (t : Nat) : (Int32 × mz_N × Nat) := if (cf_321_0 v1 v2 N).1 = 0 then (0, mz_wL N 342 0 (((cf_321_0 v1 v2 N).2).toInt64), t) else (if (cf_321_0 v1 v2 N).1 = 1 then (1, N, t + 1) else (2, N, t + 1))
def cp_320_0 (v1 : Int32) (v2 : Int32) (N : mz_N) (t : Nat) : Prop := (cp_321_0 v1 v2 N) ∧ ((t < 1000) ∧ (((cf_321_0 v1 v2 N).1 = 0 → True) ∧ (¬ ((cf_321_0 v1 v2 N).1 = 0) → (((cf_321_0 v1 v2 N).1 = 1 → True) ∧ (¬ ((cf_321_0 v1 v2 N).1 = 1) → ((cf_321_0 v1 v2 N).1 = 2))))))
/-! 324 KeptHouse$Watch.isPoint (II)Z -/
noncomputable def cf_324_0 (v0 : Int32) (v1 : Int32) : (Bool) := if v0 < 0 then false else (if 6 < v0 then false else (if v1 < 0 then false else (if v0 < 2 then (if v1 < 10 then true else false) else (if v0 = 2 then (if v1 < 11 then true else false) else (if v1 = 0 then true else false)))))
def cp_324_0 (v0 : Int32) (v1 : Int32) : Prop := True
/-! 323 KeptHouse.point (III)I -/
noncomputable def cf_323_0 (v1 : Int32) (v2 : Int32) (v3 : Int32) (N : mz_N) (b : Bool) : (Nat × Int32 × mz_N) := if (cf_104_0 N) = 0 then (if (cf_105_0 v1 0 7) = 0 then (if (cf_142_0 (cf_324_0 v2 v3)) = 0 then (0, ((cf_171_0 15 v1 0 (cf_72_0 v1 v2 v3 N) b).1), (cf_171_0 15 v1 0 (cf_72_0 v1 v2 v3 N) b).2) else ((cf_142_0 (cf_324_0 v2 v3)), 0, N)) else ((cf_105_0 v1 0 7), 0, N)) else ((cf_104_0 N), 0, N)
def cp_323_0 (v1 : Int32) (v2 : Int32) (v3 : Int32) (N : mz_N) (b : Bool) : Prop := (cp_104_0 N) ∧ (((cf_104_0 N) = 0 → ((cp_105_0 v1 0 7) ∧ (((cf_105_0 v1 0 7) = 0 → (((cf_142_0 (cf_324_0 v2 v3)) = 0 → ((cp_72_0 v1 v2 v3 N) ∧ (cp_171_0 15 v1 0 (cf_72_0 v1 v2 v3 N) b))) ∧ (¬ ((cf_142_0 (cf_324_0 v2 v3)) = 0) → True))) ∧ (¬ ((cf_105_0 v1 0 7) = 0) → True)))) ∧ (¬ ((cf_104_0 N) = 0) → True))
/-! 322 KeptHouseLaw.point (LKeptHouse;III[J)I -/
noncomputable def cf_322_23 (N : mz_N) (b : Bool) (t : Nat) : (Int32 × mz_N × Nat) := (0, N, t)
def cp_322_23 (N : mz_N) (b : Bool) (t : Nat) : Prop := True
noncomputable def cf_322_0 (v1 : Int32) (v2 : Int32) (v3 : Int32) (N : mz_N) (b : Bool) (t : Nat) : (Int32 × mz_N × Nat) := if (cf_323_0 v1 v2 v3 N b).1 = 0 then (cf_322_23 (mz_wL ((cf_323_0 v1 v2 v3 N b).2.2) 342 0 (((cf_323_0 v1 v2 v3 N b).2.1).toInt64)) b t) else (if (cf_323_0 v1 v2 v3 N b).1 = 1 then (1, (cf_323_0 v1 v2 v3 N b).2.2, t + 1) else (2, (cf_323_0 v1 v2 v3 N b).2.2, t + 1))
def cp_322_0 (v1 : Int32) (v2 : Int32) (v3 : Int32) (N : mz_N) (b : Bool) (t : Nat) : Prop := (cp_323_0 v1 v2 v3 N b) ∧ ((t < 1000) ∧ (((cf_323_0 v1 v2 v3 N b).1 = 0 → (cp_322_23 (mz_wL ((cf_323_0 v1 v2 v3 N b).2.2) 342 0 (((cf_323_0 v1 v2 v3 N b).2.1).toInt64)) b t)) ∧ (¬ ((cf_323_0 v1 v2 v3 N b).1 = 0) → (((cf_323_0 v1 v2 v3 N b).1 = 1 → True) ∧ (¬ ((cf_323_0 v1 v2 v3 N b).1 = 1) → ((cf_323_0 v1 v2 v3 N b).1 = 2))))))
/-! 326 KeptHouse.trend (II)J -/
noncomputable def cf_326_0 (v1 : Int32) (v2 : Int32) (N : mz_N) : (Nat × Int64) := if (cf_104_0 N) = 0 then (if (cf_105_0 v1 0 7) = 0 then (if (cf_105_0 v2 0 ((mz_imin (mz_gI N 99 v1) 48) - 1)) = 0 then (0, (mz_gL N (91 + v1.toNatClampNeg) (mz_irem (((mz_gI N 99 v1) - 1) - v2) 48))) else ((cf_105_0 v2 0 ((mz_imin (mz_gI N 99 v1) 48) - 1)), 0)) else ((cf_105_0 v1 0 7), 0)) else ((cf_104_0 N), 0)
def cp_326_0 (v1 : Int32) (v2 : Int32) (N : mz_N) : Prop := (cp_104_0 N) ∧ (((cf_104_0 N) = 0 → ((cp_105_0 v1 0 7) ∧ (((cf_105_0 v1 0 7) = 0 → ((mz_ib v1 8) ∧ ((cp_105_0 v2 0 ((mz_imin (mz_gI N 99 v1) 48) - 1)) ∧ (((cf_105_0 v2 0 ((mz_imin (mz_gI N 99 v1) 48) - 1)) = 0 → ((mz_ib v1 8) ∧ ((mz_ib v1 8) ∧ (mz_ib (mz_irem (((mz_gI N 99 v1) - 1) - v2) 48) 48)))) ∧ (¬ ((cf_105_0 v2 0 ((mz_imin (mz_gI N 99 v1) 48) - 1)) = 0) → True))))) ∧ (¬ ((cf_105_0 v1 0 7) = 0) → True)))) ∧ (¬ ((cf_104_0 N) = 0) → True))
/-! 325 KeptHouseLaw.trend (LKeptHouse;II[J)I -/
noncomputable def cf_325_0 (v1 : Int32) (v2 : Int32) (N : mz_N) (t : Nat) : (Int32 × mz_N × Nat) := if (cf_326_0 v1 v2 N).1 = 0 then (0, mz_wL N 342 0 ((cf_326_0 v1 v2 N).2), t) else (if (cf_326_0 v1 v2 N).1 = 1 then (1, N, t + 1) else (2, N, t + 1))
def cp_325_0 (v1 : Int32) (v2 : Int32) (N : mz_N) (t : Nat) : Prop := (cp_326_0 v1 v2 N) ∧ ((t < 1000) ∧ (((cf_326_0 v1 v2 N).1 = 0 → True) ∧ (¬ ((cf_326_0 v1 v2 N).1 = 0) → (((cf_326_0 v1 v2 N).1 = 1 → True) ∧ (¬ ((cf_326_0 v1 v2 N).1 = 1) → ((cf_326_0 v1 v2 N).1 = 2))))))
/-! 328 KeptHouse.ticket (II)I -/
noncomputable def cf_328_0 (v1 : Int32) (v2 : Int32) (N : mz_N) (b : Bool) : (Nat × Int32 × mz_N) := if (cf_104_0 N) = 0 then (if (cf_105_0 v1 0 4) = 0 then (if (cf_105_0 v2 0 47) = 0 then (if (cf_259_0 N) = (-1) then (0, (-1003), N) else (0, ((cf_171_0 12 (cf_259_0 N) (mz_gI (cf_260_0 (cf_259_0 N) v1 v2 3 (N.1 208 0) N) 117 (cf_259_0 N)) (cf_260_0 (cf_259_0 N) v1 v2 3 (N.1 208 0) N) b).1), (cf_171_0 12 (cf_259_0 N) (mz_gI (cf_260_0 (cf_259_0 N) v1 v2 3 (N.1 208 0) N) 117 (cf_259_0 N)) (cf_260_0 (cf_259_0 N) v1 v2 3 (N.1 208 0) N) b).2)) else ((cf_105_0 v2 0 47), 0, N)) else ((cf_105_0 v1 0 4), 0, N)) else ((cf_104_0 N), 0, N)
def cp_328_0 (v1 : Int32) (v2 : Int32) (N : mz_N) (b : Bool) : Prop := (cp_104_0 N) ∧ (((cf_104_0 N) = 0 → ((cp_105_0 v1 0 4) ∧ (((cf_105_0 v1 0 4) = 0 → ((cp_105_0 v2 0 47) ∧ (((cf_105_0 v2 0 47) = 0 → ((cp_259_0 N) ∧ (((cf_259_0 N) = (-1) → True) ∧ (¬ ((cf_259_0 N) = (-1)) → ((cp_260_0 (cf_259_0 N) v1 v2 3 (N.1 208 0) N) ∧ ((mz_ib (cf_259_0 N) 16) ∧ (cp_171_0 12 (cf_259_0 N) (mz_gI (cf_260_0 (cf_259_0 N) v1 v2 3 (N.1 208 0) N) 117 (cf_259_0 N)) (cf_260_0 (cf_259_0 N) v1 v2 3 (N.1 208 0) N) b))))))) ∧ (¬ ((cf_105_0 v2 0 47) = 0) → True)))) ∧ (¬ ((cf_105_0 v1 0 4) = 0) → True)))) ∧ (¬ ((cf_104_0 N) = 0) → True))
/-! 327 KeptHouseLaw.ticket (LKeptHouse;II[J)I -/
noncomputable def cf_327_21 (N : mz_N) (b : Bool) (t : Nat) : (Int32 × mz_N × Nat) := (0, N, t)
def cp_327_21 (N : mz_N) (b : Bool) (t : Nat) : Prop := True
noncomputable def cf_327_0 (v1 : Int32) (v2 : Int32) (N : mz_N) (b : Bool) (t : Nat) : (Int32 × mz_N × Nat) := if (cf_328_0 v1 v2 N b).1 = 0 then (cf_327_21 (mz_wL ((cf_328_0 v1 v2 N b).2.2) 342 0 (((cf_328_0 v1 v2 N b).2.1).toInt64)) b t) else (if (cf_328_0 v1 v2 N b).1 = 1 then (1, (cf_328_0 v1 v2 N b).2.2, t + 1) else (2, (cf_328_0 v1 v2 N b).2.2, t + 1))
def cp_327_0 (v1 : Int32) (v2 : Int32) (N : mz_N) (b : Bool) (t : Nat) : Prop := (cp_328_0 v1 v2 N b) ∧ ((t < 1000) ∧ (((cf_328_0 v1 v2 N b).1 = 0 → (cp_327_21 (mz_wL ((cf_328_0 v1 v2 N b).2.2) 342 0 (((cf_328_0 v1 v2 N b).2.1).toInt64)) b t)) ∧ (¬ ((cf_328_0 v1 v2 N b).1 = 0) → (((cf_328_0 v1 v2 N b).1 = 1 → True) ∧ (¬ ((cf_328_0 v1 v2 N b).1 = 1) → ((cf_328_0 v1 v2 N b).1 = 2))))))
/-! 331 KeptHouse$Care.countTickets ()I -/
noncomputable def cq_331_4 (N : mz_N) (s : Int32 × Int32) : ((Int32 × Int32) ⊕ (Int32)) := if s.2 < 16 then (.inl ((s.1 + (mz_gI N 123 s.2)), (s.2 + 1))) else (.inr s.1)
def cd_331_4 (N : mz_N) (s : Int32 × Int32) : Prop := (s.2 < 16 → (mz_ib s.2 16)) ∧ (¬ (s.2 < 16) → True)
noncomputable def cf_331_4 (v1 : Int32) (v2 : Int32) (N : mz_N) : (Int32) := mz_run (cq_331_4 N) (v1, v2)
def cp_331_4 (v1 : Int32) (v2 : Int32) (N : mz_N) : Prop := ∃ n, mz_ok (cq_331_4 N) (cd_331_4 N) n (v1, v2)
noncomputable def cf_331_0 (N : mz_N) : (Int32) := (cf_331_4 0 0 N)
def cp_331_0 (N : mz_N) : Prop := cp_331_4 0 0 N
/-! 330 KeptHouse.tickets ()I -/
noncomputable def cf_330_0 (N : mz_N) : (Nat × Int32) := if (cf_104_0 N) = 0 then (0, (cf_331_0 N)) else ((cf_104_0 N), 0)
def cp_330_0 (N : mz_N) : Prop := (cp_104_0 N) ∧ (((cf_104_0 N) = 0 → (cp_331_0 N)) ∧ (¬ ((cf_104_0 N) = 0) → True))
/-! 329 KeptHouseLaw.tickets (LKeptHouse;[J)I -/
noncomputable def cf_329_0 (N : mz_N) (t : Nat) : (Int32 × mz_N × Nat) := if (cf_330_0 N).1 = 0 then (0, mz_wL N 342 0 (((cf_330_0 N).2).toInt64), t) else (1, N, t + 1)
def cp_329_0 (N : mz_N) (t : Nat) : Prop := (cp_330_0 N) ∧ ((t < 1000) ∧ (((cf_330_0 N).1 = 0 → True) ∧ (¬ ((cf_330_0 N).1 = 0) → ((cf_330_0 N).1 = 2))))
/-! 335 KeptHouse$Care.placeAbove (I)I -/
noncomputable def cf_335_58 (v1 : Int32) (v2 : Int32) (v3 : Int32) (N : mz_N) : ((Int32 × Int32) ⊕ (Int32)) := (.inl (v2, (v3 + 1)))
def cp_335_58 (v1 : Int32) (v2 : Int32) (v3 : Int32) (N : mz_N) : Prop := True
noncomputable def cf_335_56 (v1 : Int32) (v3 : Int32) (N : mz_N) : ((Int32 × Int32) ⊕ (Int32)) := (cf_335_58 v1 v3 v3 N)
def cp_335_56 (v1 : Int32) (v3 : Int32) (N : mz_N) : Prop := cp_335_58 v1 v3 v3 N
noncomputable def cq_335_4 (v1 : Int32) (N : mz_N) (s : Int32 × Int32) : ((Int32 × Int32) ⊕ (Int32)) := if s.2 < 16 then (if (mz_gI N 123 s.2) = 1 then (if v1 < (mz_gI N 117 s.2) then (if s.1 = (-1) then (cf_335_56 v1 s.2 N) else (if (mz_gI N 117 s.2) < (mz_gI N 117 s.1) then (cf_335_56 v1 s.2 N) else (cf_335_58 v1 s.1 s.2 N))) else (cf_335_58 v1 s.1 s.2 N)) else (cf_335_58 v1 s.1 s.2 N)) else (.inr s.1)
def cd_335_4 (v1 : Int32) (N : mz_N) (s : Int32 × Int32) : Prop := (s.2 < 16 → ((mz_ib s.2 16) ∧ (((mz_gI N 123 s.2) = 1 → ((mz_ib s.2 16) ∧ ((v1 < (mz_gI N 117 s.2) → ((s.1 = (-1) → (cp_335_56 v1 s.2 N)) ∧ (¬ (s.1 = (-1)) → ((mz_ib s.2 16) ∧ ((mz_ib s.1 16) ∧ (((mz_gI N 117 s.2) < (mz_gI N 117 s.1) → (cp_335_56 v1 s.2 N)) ∧ (¬ ((mz_gI N 117 s.2) < (mz_gI N 117 s.1)) → (cp_335_58 v1 s.1 s.2 N)))))))) ∧ (¬ (v1 < (mz_gI N 117 s.2)) → (cp_335_58 v1 s.1 s.2 N))))) ∧ (¬ ((mz_gI N 123 s.2) = 1) → (cp_335_58 v1 s.1 s.2 N))))) ∧ (¬ (s.2 < 16) → True)
noncomputable def cf_335_4 (v1 : Int32) (v2 : Int32) (v3 : Int32) (N : mz_N) : (Int32) := mz_run (cq_335_4 v1 N) (v2, v3)
def cp_335_4 (v1 : Int32) (v2 : Int32) (v3 : Int32) (N : mz_N) : Prop := ∃ n, mz_ok (cq_335_4 v1 N) (cd_335_4 v1 N) n (v2, v3)
noncomputable def cf_335_0 (v1 : Int32) (N : mz_N) : (Int32) := (cf_335_4 v1 (-1) 0 N)
def cp_335_0 (v1 : Int32) (N : mz_N) : Prop := cp_335_4 v1 (-1) 0 N
/-! 334 KeptHouse$Care.placeByNumber (I)I -/
noncomputable def cq_334_8 (v1 : Int32) (N : mz_N) (s : Int32 × Int32) : ((Int32 × Int32) ⊕ (Int32)) := if s.2 < v1 then (if s.1 = (-1) then (.inr s.1) else (.inl ((cf_335_0 (mz_gI N 117 s.1) N), (s.2 + 1)))) else (.inr s.1)
def cd_334_8 (v1 : Int32) (N : mz_N) (s : Int32 × Int32) : Prop := (s.2 < v1 → ((s.1 = (-1) → True) ∧ (¬ (s.1 = (-1)) → ((mz_ib s.1 16) ∧ (cp_335_0 (mz_gI N 117 s.1) N))))) ∧ (¬ (s.2 < v1) → True)
noncomputable def cf_334_8 (v1 : Int32) (v2 : Int32) (v3 : Int32) (N : mz_N) : (Int32) := mz_run (cq_334_8 v1 N) (v2, v3)
def cp_334_8 (v1 : Int32) (v2 : Int32) (v3 : Int32) (N : mz_N) : Prop := ∃ n, mz_ok (cq_334_8 v1 N) (cd_334_8 v1 N) n (v2, v3)
noncomputable def cf_334_0 (v1 : Int32) (N : mz_N) : (Int32) := (cf_334_8 v1 (cf_335_0 (-1) N) 0 N)
def cp_334_0 (v1 : Int32) (N : mz_N) : Prop := (cp_335_0 (-1) N) ∧ (cp_334_8 v1 (cf_335_0 (-1) N) 0 N)
/-! 333 KeptHouse.ticketOf (II)I -/
noncomputable def cf_333_0 (v1 : Int32) (v2 : Int32) (N : mz_N) : (Nat × Int32) := if (cf_104_0 N) = 0 then (if (cf_105_0 v1 0 ((cf_331_0 N) - 1)) = 0 then (if (cf_105_0 v2 0 5) = 0 then (if (cf_334_0 v1 N) = (-1) then (0, (-1)) else (0, (mz_gI N (117 + v2.toNatClampNeg) (cf_334_0 v1 N)))) else ((cf_105_0 v2 0 5), 0)) else ((cf_105_0 v1 0 ((cf_331_0 N) - 1)), 0)) else ((cf_104_0 N), 0)
def cp_333_0 (v1 : Int32) (v2 : Int32) (N : mz_N) : Prop := (cp_104_0 N) ∧ (((cf_104_0 N) = 0 → ((cp_331_0 N) ∧ ((cp_105_0 v1 0 ((cf_331_0 N) - 1)) ∧ (((cf_105_0 v1 0 ((cf_331_0 N) - 1)) = 0 → ((cp_105_0 v2 0 5) ∧ (((cf_105_0 v2 0 5) = 0 → ((cp_334_0 v1 N) ∧ (((cf_334_0 v1 N) = (-1) → True) ∧ (¬ ((cf_334_0 v1 N) = (-1)) → ((mz_ib v2 6) ∧ (mz_ib (cf_334_0 v1 N) 16)))))) ∧ (¬ ((cf_105_0 v2 0 5) = 0) → True)))) ∧ (¬ ((cf_105_0 v1 0 ((cf_331_0 N) - 1)) = 0) → True))))) ∧ (¬ ((cf_104_0 N) = 0) → True))
/-! 332 KeptHouseLaw.ticketOf (LKeptHouse;II[J)I -/
noncomputable def cf_332_0 (v1 : Int32) (v2 : Int32) (N : mz_N) (t : Nat) : (Int32 × mz_N × Nat) := if (cf_333_0 v1 v2 N).1 = 0 then (0, mz_wL N 342 0 (((cf_333_0 v1 v2 N).2).toInt64), t) else (if (cf_333_0 v1 v2 N).1 = 1 then (1, N, t + 1) else (2, N, t + 1))
def cp_332_0 (v1 : Int32) (v2 : Int32) (N : mz_N) (t : Nat) : Prop := (cp_333_0 v1 v2 N) ∧ ((t < 1000) ∧ (((cf_333_0 v1 v2 N).1 = 0 → True) ∧ (¬ ((cf_333_0 v1 v2 N).1 = 0) → (((cf_333_0 v1 v2 N).1 = 1 → True) ∧ (¬ ((cf_333_0 v1 v2 N).1 = 1) → ((cf_333_0 v1 v2 N).1 = 2))))))
/-! 340 KeptHouse$Care.isStocked (I)Z -/
noncomputable def cf_340_54 (v1 : Int32) (v2 : Int32) (v3 : Int32) (N : mz_N) : ((Int32 × Int32) ⊕ (Bool)) := (.inl (v2, (v3 + 1)))
def cp_340_54 (v1 : Int32) (v2 : Int32) (v3 : Int32) (N : mz_N) : Prop := True
noncomputable def cq_340_11 (v1 : Int32) (N : mz_N) (s : Int32 × Int32) : ((Int32 × Int32) ⊕ (Bool)) := if s.2 < 16 then (if (mz_gI N 123 s.2) = 1 then (if (mz_gI N 120 s.2) = v1 then (if (mz_gI N 122 s.2) = (-1) then (cf_340_54 v1 s.1 s.2 N) else (cf_340_54 v1 (s.1 + 1) s.2 N)) else (cf_340_54 v1 s.1 s.2 N)) else (cf_340_54 v1 s.1 s.2 N)) else (if s.1 < (mz_gI N 127 v1) then (.inr true) else (.inr false))
def cd_340_11 (v1 : Int32) (N : mz_N) (s : Int32 × Int32) : Prop := (s.2 < 16 → ((mz_ib s.2 16) ∧ (((mz_gI N 123 s.2) = 1 → ((mz_ib s.2 16) ∧ (((mz_gI N 120 s.2) = v1 → ((mz_ib s.2 16) ∧ (((mz_gI N 122 s.2) = (-1) → (cp_340_54 v1 s.1 s.2 N)) ∧ (¬ ((mz_gI N 122 s.2) = (-1)) → (cp_340_54 v1 (s.1 + 1) s.2 N))))) ∧ (¬ ((mz_gI N 120 s.2) = v1) → (cp_340_54 v1 s.1 s.2 N))))) ∧ (¬ ((mz_gI N 123 s.2) = 1) → (cp_340_54 v1 s.1 s.2 N))))) ∧ (¬ (s.2 < 16) → (mz_ib v1 3))
noncomputable def cf_340_11 (v1 : Int32) (v2 : Int32) (v3 : Int32) (N : mz_N) : (Bool) := mz_run (cq_340_11 v1 N) (v2, v3)
def cp_340_11 (v1 : Int32) (v2 : Int32) (v3 : Int32) (N : mz_N) : Prop := ∃ n, mz_ok (cq_340_11 v1 N) (cd_340_11 v1 N) n (v2, v3)
noncomputable def cf_340_0 (v1 : Int32) (N : mz_N) : (Bool) := if v1 < 3 then (cf_340_11 v1 0 0 N) else true
def cp_340_0 (v1 : Int32) (N : mz_N) : Prop := (v1 < 3 → (cp_340_11 v1 0 0 N)) ∧ (¬ (v1 < 3) → True)
/-! 339 KeptHouse$Care.choose (I)I -/
noncomputable def cf_339_75 (v1 : Int32) (v2 : Int32) (v3 : Int32) (v4 : Int32) (N : mz_N) : ((Int32 × Int32 × Int32 × mz_N) ⊕ (Int32 × mz_N)) := (.inl (v2, (cf_335_0 (mz_gI N 117 v3) N), (v4 + 1), N))
def cp_339_75 (v1 : Int32) (v2 : Int32) (v3 : Int32) (v4 : Int32) (N : mz_N) : Prop := (mz_ib v3 16) ∧ (cp_335_0 (mz_gI N 117 v3) N)
noncomputable def cq_339_11 (v1 : Int32) (s : Int32 × Int32 × Int32 × mz_N) : ((Int32 × Int32 × Int32 × mz_N) ⊕ (Int32 × mz_N)) := if s.2.2.1 < 16 then (if s.2.1 = (-1) then (.inr (s.1, s.2.2.2)) else (if s.1 < 6 then (if (mz_gI s.2.2.2 122 s.2.1) = (-1) then (if (cf_340_0 (mz_gI s.2.2.2 120 s.2.1) s.2.2.2) = true then (cf_339_75 v1 (s.1 + 1) s.2.1 s.2.2.1 (mz_wI (mz_wI s.2.2.2 122 s.2.1 v1) 142 s.1 s.2.1)) else (cf_339_75 v1 s.1 s.2.1 s.2.2.1 s.2.2.2)) else (cf_339_75 v1 s.1 s.2.1 s.2.2.1 s.2.2.2)) else (.inr (s.1, s.2.2.2)))) else (.inr (s.1, s.2.2.2))
def cd_339_11 (v1 : Int32) (s : Int32 × Int32 × Int32 × mz_N) : Prop := (s.2.2.1 < 16 → ((s.2.1 = (-1) → True) ∧ (¬ (s.2.1 = (-1)) → ((s.1 < 6 → ((mz_ib s.2.1 16) ∧ (((mz_gI s.2.2.2 122 s.2.1) = (-1) → ((mz_ib s.2.1 16) ∧ ((cp_340_0 (mz_gI s.2.2.2 120 s.2.1) s.2.2.2) ∧ (((cf_340_0 (mz_gI s.2.2.2 120 s.2.1) s.2.2.2) = true → ((mz_ib s.2.1 16) ∧ ((mz_ib s.1 6) ∧ (cp_339_75 v1 (s.1 + 1) s.2.1 s.2.2.1 (mz_wI (mz_wI s.2.2.2 122 s.2.1 v1) 142 s.1 s.2.1))))) ∧ (¬ ((cf_340_0 (mz_gI s.2.2.2 120 s.2.1) s.2.2.2) = true) → (cp_339_75 v1 s.1 s.2.1 s.2.2.1 s.2.2.2)))))) ∧ (¬ ((mz_gI s.2.2.2 122 s.2.1) = (-1)) → (cp_339_75 v1 s.1 s.2.1 s.2.2.1 s.2.2.2))))) ∧ (¬ (s.1 < 6) → True))))) ∧ (¬ (s.2.2.1 < 16) → True)
noncomputable def cf_339_11 (v1 : Int32) (v2 : Int32) (v3 : Int32) (v4 : Int32) (N : mz_N) : (Int32 × mz_N) := mz_run (cq_339_11 v1) (v2, v3, v4, N)
def cp_339_11 (v1 : Int32) (v2 : Int32) (v3 : Int32) (v4 : Int32) (N : mz_N) : Prop := ∃ n, mz_ok (cq_339_11 v1) (cd_339_11 v1) n (v2, v3, v4, N)
noncomputable def cf_339_0 (v1 : Int32) (N : mz_N) : (Int32 × mz_N) := (cf_339_11 v1 0 (cf_335_0 (-1) N) 0 N)
def cp_339_0 (v1 : Int32) (N : mz_N) : Prop := (cp_335_0 (-1) N) ∧ (cp_339_11 v1 0 (cf_335_0 (-1) N) 0 N)
/-! 342 KeptHouse$Care.spot (I)I -/
noncomputable def cf_342_0 (v1 : Int32) (N : mz_N) : (Int32) := (((mz_gI N 118 (mz_gI N 142 v1)) * 48) + (mz_gI N 119 (mz_gI N 142 v1)))
def cp_342_0 (v1 : Int32) (N : mz_N) : Prop := (mz_ib v1 6) ∧ ((mz_ib (mz_gI N 142 v1) 16) ∧ ((mz_ib v1 6) ∧ (mz_ib (mz_gI N 142 v1) 16)))
/-! 345 KeptHouse$Care.way (II)I -/
noncomputable def cf_345_0 (v0 : Int32) (v1 : Int32) : (Int32) := (((mz_iabs ((mz_irem v0 8) - (mz_irem v1 8))) + (mz_iabs (((mz_irem v0 48) / 8) - ((mz_irem v1 48) / 8)))) + (10 * (mz_iabs ((v0 / 48) - (v1 / 48)))))
def cp_345_0 (v0 : Int32) (v1 : Int32) : Prop := True
/-! 344 KeptHouse$Care.wayOver (III)I -/
noncomputable def cf_344_0 (v1 : Int32) (v2 : Int32) (v3 : Int32) (N : mz_N) : (Int32) := ((cf_345_0 v2 (cf_342_0 v3 N)) + (mz_gI N (144 + (v1 ||| (mz_ishl 1 v3)).toNatClampNeg) v3))
def cp_344_0 (v1 : Int32) (v2 : Int32) (v3 : Int32) (N : mz_N) : Prop := (cp_342_0 v3 N) ∧ ((mz_ib (v1 ||| (mz_ishl 1 v3)) 64) ∧ (mz_ib v3 6))
/-! 343 KeptHouse$Care.bestNext (III)I -/
noncomputable def cf_343_50 (v1 : Int32) (v2 : Int32) (v3 : Int32) (v4 : Int32) (v5 : Int32) (N : mz_N) : ((Int32 × Int32) ⊕ (Int32)) := (.inl (v4, (v5 + 1)))
def cp_343_50 (v1 : Int32) (v2 : Int32) (v3 : Int32) (v4 : Int32) (v5 : Int32) (N : mz_N) : Prop := True
noncomputable def cf_343_46 (v1 : Int32) (v2 : Int32) (v3 : Int32) (v5 : Int32) (N : mz_N) : ((Int32 × Int32) ⊕ (Int32)) := (cf_343_50 v1 v2 v3 v5 v5 N)
def cp_343_46 (v1 : Int32) (v2 : Int32) (v3 : Int32) (v5 : Int32) (N : mz_N) : Prop := cp_343_50 v1 v2 v3 v5 v5 N
noncomputable def cq_343_6 (v1 : Int32) (v2 : Int32) (v3 : Int32) (N : mz_N) (s : Int32 × Int32) : ((Int32 × Int32) ⊕ (Int32)) := if s.2 < v1 then (if ((mz_ishr v2 s.2) &&& 1) = 0 then (if s.1 = (-1) then (cf_343_46 v1 v2 v3 s.2 N) else (if (cf_344_0 v2 v3 s.2 N) < (cf_344_0 v2 v3 s.1 N) then (cf_343_46 v1 v2 v3 s.2 N) else (cf_343_50 v1 v2 v3 s.1 s.2 N))) else (cf_343_50 v1 v2 v3 s.1 s.2 N)) else (.inr s.1)
def cd_343_6 (v1 : Int32) (v2 : Int32) (v3 : Int32) (N : mz_N) (s : Int32 × Int32) : Prop := (s.2 < v1 → ((((mz_ishr v2 s.2) &&& 1) = 0 → ((s.1 = (-1) → (cp_343_46 v1 v2 v3 s.2 N)) ∧ (¬ (s.1 = (-1)) → ((cp_344_0 v2 v3 s.2 N) ∧ ((cp_344_0 v2 v3 s.1 N) ∧ (((cf_344_0 v2 v3 s.2 N) < (cf_344_0 v2 v3 s.1 N) → (cp_343_46 v1 v2 v3 s.2 N)) ∧ (¬ ((cf_344_0 v2 v3 s.2 N) < (cf_344_0 v2 v3 s.1 N)) → (cp_343_50 v1 v2 v3 s.1 s.2 N)))))))) ∧ (¬ (((mz_ishr v2 s.2) &&& 1) = 0) → (cp_343_50 v1 v2 v3 s.1 s.2 N)))) ∧ (¬ (s.2 < v1) → True)
noncomputable def cf_343_6 (v1 : Int32) (v2 : Int32) (v3 : Int32) (v4 : Int32) (v5 : Int32) (N : mz_N) : (Int32) := mz_run (cq_343_6 v1 v2 v3 N) (v4, v5)
def cp_343_6 (v1 : Int32) (v2 : Int32) (v3 : Int32) (v4 : Int32) (v5 : Int32) (N : mz_N) : Prop := ∃ n, mz_ok (cq_343_6 v1 v2 v3 N) (cd_343_6 v1 v2 v3 N) n (v4, v5)
noncomputable def cf_343_0 (v1 : Int32) (v2 : Int32) (v3 : Int32) (N : mz_N) : (Int32) := (cf_343_6 v1 v2 v3 (-1) 0 N)
def cp_343_0 (v1 : Int32) (v2 : Int32) (v3 : Int32) (N : mz_N) : Prop := cp_343_6 v1 v2 v3 (-1) 0 N
/-! 341 KeptHouse$Care.measureWays (I)V -/
noncomputable def cf_341_67 (s0 : Nat) (s1 : Int32) (s2 : Int32) (v1 : Int32) (v2 : Int32) (v3 : Int32) (N : mz_N) : ((Int32 × mz_N) ⊕ ((Int32 × mz_N) ⊕ (mz_N))) := (.inl ((v3 + 1), mz_wI N s0 s1 s2))
def cp_341_67 (s0 : Nat) (s1 : Int32) (s2 : Int32) (v1 : Int32) (v2 : Int32) (v3 : Int32) (N : mz_N) : Prop := mz_ib s1 6
noncomputable def cq_341_12 (v1 : Int32) (v2 : Int32) (s : Int32 × mz_N) : ((Int32 × mz_N) ⊕ ((Int32 × mz_N) ⊕ (mz_N))) := if s.1 < v1 then (if (cf_343_0 v1 v2 (cf_342_0 s.1 s.2) s.2) = (-1) then (cf_341_67 (144 + v2.toNatClampNeg) s.1 (cf_345_0 (cf_342_0 s.1 s.2) 0) v1 v2 s.1 s.2) else (cf_341_67 (144 + v2.toNatClampNeg) s.1 (cf_344_0 v2 (cf_342_0 s.1 s.2) (cf_343_0 v1 v2 (cf_342_0 s.1 s.2) s.2) s.2) v1 v2 s.1 s.2)) else (.inr (.inl ((v2 + (-1)), s.2)))
def cd_341_12 (v1 : Int32) (v2 : Int32) (s : Int32 × mz_N) : Prop := (s.1 < v1 → ((cp_342_0 s.1 s.2) ∧ ((cp_343_0 v1 v2 (cf_342_0 s.1 s.2) s.2) ∧ ((mz_ib v2 64) ∧ (((cf_343_0 v1 v2 (cf_342_0 s.1 s.2) s.2) = (-1) → ((cp_342_0 s.1 s.2) ∧ (cp_341_67 (144 + v2.toNatClampNeg) s.1 (cf_345_0 (cf_342_0 s.1 s.2) 0) v1 v2 s.1 s.2))) ∧ (¬ ((cf_343_0 v1 v2 (cf_342_0 s.1 s.2) s.2) = (-1)) → ((cp_342_0 s.1 s.2) ∧ ((cp_344_0 v2 (cf_342_0 s.1 s.2) (cf_343_0 v1 v2 (cf_342_0 s.1 s.2) s.2) s.2) ∧ (cp_341_67 (144 + v2.toNatClampNeg) s.1 (cf_344_0 v2 (cf_342_0 s.1 s.2) (cf_343_0 v1 v2 (cf_342_0 s.1 s.2) s.2) s.2) v1 v2 s.1 s.2))))))))) ∧ (¬ (s.1 < v1) → True)
noncomputable def cf_341_12 (v1 : Int32) (v2 : Int32) (v3 : Int32) (N : mz_N) : ((Int32 × mz_N) ⊕ (mz_N)) := mz_run (cq_341_12 v1 v2) (v3, N)
def cp_341_12 (v1 : Int32) (v2 : Int32) (v3 : Int32) (N : mz_N) : Prop := ∃ n, mz_ok (cq_341_12 v1 v2) (cd_341_12 v1 v2) n (v3, N)
noncomputable def cq_341_6 (v1 : Int32) (s : Int32 × mz_N) : ((Int32 × mz_N) ⊕ (mz_N)) := if 0 < s.1 then (cf_341_12 v1 s.1 0 s.2) else (.inr s.2)
def cd_341_6 (v1 : Int32) (s : Int32 × mz_N) : Prop := (0 < s.1 → (cp_341_12 v1 s.1 0 s.2)) ∧ (¬ (0 < s.1) → True)
noncomputable def cf_341_6 (v1 : Int32) (v2 : Int32) (N : mz_N) : (mz_N) := mz_run (cq_341_6 v1) (v2, N)
def cp_341_6 (v1 : Int32) (v2 : Int32) (N : mz_N) : Prop := ∃ n, mz_ok (cq_341_6 v1) (cd_341_6 v1) n (v2, N)
noncomputable def cf_341_0 (v1 : Int32) (N : mz_N) : (mz_N) := (cf_341_6 v1 ((mz_ishl 1 v1) - 1) N)
def cp_341_0 (v1 : Int32) (N : mz_N) : Prop := cp_341_6 v1 ((mz_ishl 1 v1) - 1) N
/-! 346 KeptHouse$Care.layTour (III)V -/
noncomputable def cf_346_98 (v1 : Int32) (v2 : Int32) (v4 : Int32) (v5 : Int32) (v6 : Int32) (v7 : Int32) (N : mz_N) : ((Int32 × Int32 × Int32 × Int32 × mz_N) ⊕ (mz_N)) := (.inl (v4, v5, v6, (v7 + 1), N))
def cp_346_98 (v1 : Int32) (v2 : Int32) (v4 : Int32) (v5 : Int32) (v6 : Int32) (v7 : Int32) (N : mz_N) : Prop := True
noncomputable def cf_346_70 (v1 : Int32) (v2 : Int32) (v4 : Int32) (v6 : Int32) (v7 : Int32) (v8 : Int32) (N : mz_N) : ((Int32 × Int32 × Int32 × Int32 × mz_N) ⊕ (mz_N)) := (cf_346_98 v1 v2 (v4 ||| (mz_ishl 1 v8)) (cf_342_0 v8 (mz_wI N (139 + v1.toNatClampNeg) v7 v6)) v6 v7 (mz_wI N (139 + v1.toNatClampNeg) v7 v6))
def cp_346_70 (v1 : Int32) (v2 : Int32) (v4 : Int32) (v6 : Int32) (v7 : Int32) (v8 : Int32) (N : mz_N) : Prop := (mz_ib v1 2) ∧ ((mz_ib v7 6) ∧ ((cp_342_0 v8 (mz_wI N (139 + v1.toNatClampNeg) v7 v6)) ∧ (cp_346_98 v1 v2 (v4 ||| (mz_ishl 1 v8)) (cf_342_0 v8 (mz_wI N (139 + v1.toNatClampNeg) v7 v6)) v6 v7 (mz_wI N (139 + v1.toNatClampNeg) v7 v6))))
noncomputable def cq_346_12 (v1 : Int32) (v2 : Int32) (s : Int32 × Int32 × Int32 × Int32 × mz_N) : ((Int32 × Int32 × Int32 × Int32 × mz_N) ⊕ (mz_N)) := if s.2.2.2.1 < v2 then (if (cf_343_0 v2 s.1 s.2.1 s.2.2.2.2) = (-1) then (cf_346_98 v1 v2 s.1 s.2.1 s.2.2.1 s.2.2.2.1 s.2.2.2.2) else (cf_346_70 v1 v2 s.1 (s.2.2.1 + ((cf_345_0 s.2.1 (cf_342_0 (cf_343_0 v2 s.1 s.2.1 s.2.2.2.2) s.2.2.2.2)) + 15)) s.2.2.2.1 (cf_343_0 v2 s.1 s.2.1 s.2.2.2.2) (mz_wI s.2.2.2.2 (136 + v1.toNatClampNeg) s.2.2.2.1 (mz_gI s.2.2.2.2 142 (cf_343_0 v2 s.1 s.2.1 s.2.2.2.2))))) else (.inr (mz_wI s.2.2.2.2 141 v1 (s.2.2.1 + (cf_345_0 s.2.1 0))))
def cd_346_12 (v1 : Int32) (v2 : Int32) (s : Int32 × Int32 × Int32 × Int32 × mz_N) : Prop := (s.2.2.2.1 < v2 → ((cp_343_0 v2 s.1 s.2.1 s.2.2.2.2) ∧ (((cf_343_0 v2 s.1 s.2.1 s.2.2.2.2) = (-1) → (cp_346_98 v1 v2 s.1 s.2.1 s.2.2.1 s.2.2.2.1 s.2.2.2.2)) ∧ (¬ ((cf_343_0 v2 s.1 s.2.1 s.2.2.2.2) = (-1)) → ((cp_342_0 (cf_343_0 v2 s.1 s.2.1 s.2.2.2.2) s.2.2.2.2) ∧ ((mz_ib v1 2) ∧ ((mz_ib (cf_343_0 v2 s.1 s.2.1 s.2.2.2.2) 6) ∧ ((mz_ib s.2.2.2.1 6) ∧ (cp_346_70 v1 v2 s.1 (s.2.2.1 + ((cf_345_0 s.2.1 (cf_342_0 (cf_343_0 v2 s.1 s.2.1 s.2.2.2.2) s.2.2.2.2)) + 15)) s.2.2.2.1 (cf_343_0 v2 s.1 s.2.1 s.2.2.2.2) (mz_wI s.2.2.2.2 (136 + v1.toNatClampNeg) s.2.2.2.1 (mz_gI s.2.2.2.2 142 (cf_343_0 v2 s.1 s.2.1 s.2.2.2.2)))))))))))) ∧ (¬ (s.2.2.2.1 < v2) → (mz_ib v1 2))
noncomputable def cf_346_12 (v1 : Int32) (v2 : Int32) (v4 : Int32) (v5 : Int32) (v6 : Int32) (v7 : Int32) (N : mz_N) : (mz_N) := mz_run (cq_346_12 v1 v2) (v4, v5, v6, v7, N)
def cp_346_12 (v1 : Int32) (v2 : Int32) (v4 : Int32) (v5 : Int32) (v6 : Int32) (v7 : Int32) (N : mz_N) : Prop := ∃ n, mz_ok (cq_346_12 v1 v2) (cd_346_12 v1 v2) n (v4, v5, v6, v7, N)
noncomputable def cf_346_0 (v1 : Int32) (v2 : Int32) (v3 : Int32) (N : mz_N) : (mz_N) := (cf_346_12 v1 v2 0 0 v3 0 N)
def cp_346_0 (v1 : Int32) (v2 : Int32) (v3 : Int32) (N : mz_N) : Prop := cp_346_12 v1 v2 0 0 v3 0 N
/-! 338 KeptHouse$Care.sendOut (II)I -/
noncomputable def cf_338_31 (v1 : Int32) (v2 : Int32) (v3 : Int32) (N : mz_N) : (Int32 × mz_N) := (v3, (cf_346_0 v1 v3 v2 N))
def cp_338_31 (v1 : Int32) (v2 : Int32) (v3 : Int32) (N : mz_N) : Prop := cp_346_0 v1 v3 v2 N
noncomputable def cf_338_0 (v1 : Int32) (v2 : Int32) (N : mz_N) : (Int32 × mz_N) := if ((cf_339_0 v1 N).1) = 0 then (0, (cf_339_0 v1 N).2) else (cf_338_31 v1 v2 ((cf_339_0 v1 N).1) (mz_wI (mz_wI (cf_341_0 ((cf_339_0 v1 N).1) ((cf_339_0 v1 N).2)) 133 v1 ((cf_339_0 v1 N).1)) 134 v1 0))
def cp_338_0 (v1 : Int32) (v2 : Int32) (N : mz_N) : Prop := (cp_339_0 v1 N) ∧ ((((cf_339_0 v1 N).1) = 0 → True) ∧ (¬ (((cf_339_0 v1 N).1) = 0) → ((cp_341_0 ((cf_339_0 v1 N).1) ((cf_339_0 v1 N).2)) ∧ ((mz_ib v1 2) ∧ ((mz_ib v1 2) ∧ (cp_338_31 v1 v2 ((cf_339_0 v1 N).1) (mz_wI (mz_wI (cf_341_0 ((cf_339_0 v1 N).1) ((cf_339_0 v1 N).2)) 133 v1 ((cf_339_0 v1 N).1)) 134 v1 0)))))))
/-! 337 KeptHouse.tour (I)I -/
noncomputable def cf_337_27 (s0 : Bool) (v1 : Int32) (N : mz_N) : (Nat × Int32 × mz_N) := if (cf_187_0 s0) = 0 then (0, ((cf_338_0 v1 (N.1 208 0) N).1), (cf_338_0 v1 (N.1 208 0) N).2) else ((cf_187_0 s0), 0, N)
def cp_337_27 (s0 : Bool) (v1 : Int32) (N : mz_N) : Prop := ((cf_187_0 s0) = 0 → (cp_338_0 v1 (N.1 208 0) N)) ∧ (¬ ((cf_187_0 s0) = 0) → True)
noncomputable def cf_337_0 (v1 : Int32) (N : mz_N) : (Nat × Int32 × mz_N) := if (cf_104_0 N) = 0 then (if (cf_105_0 v1 0 1) = 0 then (if (mz_gI N 133 v1) = 0 then (cf_337_27 true v1 N) else (cf_337_27 false v1 N)) else ((cf_105_0 v1 0 1), 0, N)) else ((cf_104_0 N), 0, N)
def cp_337_0 (v1 : Int32) (N : mz_N) : Prop := (cp_104_0 N) ∧ (((cf_104_0 N) = 0 → ((cp_105_0 v1 0 1) ∧ (((cf_105_0 v1 0 1) = 0 → ((mz_ib v1 2) ∧ (((mz_gI N 133 v1) = 0 → (cp_337_27 true v1 N)) ∧ (¬ ((mz_gI N 133 v1) = 0) → (cp_337_27 false v1 N))))) ∧ (¬ ((cf_105_0 v1 0 1) = 0) → True)))) ∧ (¬ ((cf_104_0 N) = 0) → True))
/-! 336 KeptHouseLaw.tour (LKeptHouse;I[J)I -/
noncomputable def cf_336_0 (v1 : Int32) (N : mz_N) (t : Nat) : (Int32 × mz_N × Nat) := if (cf_337_0 v1 N).1 = 0 then (0, mz_wL ((cf_337_0 v1 N).2.2) 342 0 (((cf_337_0 v1 N).2.1).toInt64), t) else (if (cf_337_0 v1 N).1 = 1 then (1, (cf_337_0 v1 N).2.2, t + 1) else (2, (cf_337_0 v1 N).2.2, t + 1))
def cp_336_0 (v1 : Int32) (N : mz_N) (t : Nat) : Prop := (cp_337_0 v1 N) ∧ ((t < 1000) ∧ (((cf_337_0 v1 N).1 = 0 → True) ∧ (¬ ((cf_337_0 v1 N).1 = 0) → (((cf_337_0 v1 N).1 = 1 → True) ∧ (¬ ((cf_337_0 v1 N).1 = 1) → ((cf_337_0 v1 N).1 = 2))))))
/-! 349 KeptHouse$Care.tellWorker (II)I -/
noncomputable def cf_349_26 (s0 : Int32) (v1 : Int32) (v2 : Int32) (N : mz_N) : (Int32) := if v2 = 0 then s0 else (if v2 = 3 then (if (mz_gI N 133 v1) = 0 then (-1) else (mz_gI N 141 v1)) else (if s0 = 0 then (-1) else (if v2 = 1 then (mz_gI N 117 (mz_gI N (136 + v1.toNatClampNeg) (mz_gI N 134 v1))) else (mz_gI N (139 + v1.toNatClampNeg) (mz_gI N 134 v1)))))
def cp_349_26 (s0 : Int32) (v1 : Int32) (v2 : Int32) (N : mz_N) : Prop := (v2 = 0 → True) ∧ (¬ (v2 = 0) → ((v2 = 3 → ((mz_ib v1 2) ∧ (((mz_gI N 133 v1) = 0 → True) ∧ (¬ ((mz_gI N 133 v1) = 0) → (mz_ib v1 2))))) ∧ (¬ (v2 = 3) → ((s0 = 0 → True) ∧ (¬ (s0 = 0) → ((mz_ib v1 2) ∧ ((v2 = 1 → ((mz_ib v1 2) ∧ ((mz_ib (mz_gI N 134 v1) 6) ∧ (mz_ib (mz_gI N (136 + v1.toNatClampNeg) (mz_gI N 134 v1)) 16)))) ∧ (¬ (v2 = 1) → ((mz_ib v1 2) ∧ (mz_ib (mz_gI N 134 v1) 6))))))))))
noncomputable def cf_349_0 (v1 : Int32) (v2 : Int32) (N : mz_N) : (Int32) := if (mz_gI N 133 v1) = 0 then (cf_349_26 0 v1 v2 N) else (cf_349_26 ((mz_gI N 133 v1) - (mz_gI N 134 v1)) v1 v2 N)
def cp_349_0 (v1 : Int32) (v2 : Int32) (N : mz_N) : Prop := (mz_ib v1 2) ∧ (((mz_gI N 133 v1) = 0 → (cp_349_26 0 v1 v2 N)) ∧ (¬ ((mz_gI N 133 v1) = 0) → ((mz_ib v1 2) ∧ ((mz_ib v1 2) ∧ (cp_349_26 ((mz_gI N 133 v1) - (mz_gI N 134 v1)) v1 v2 N)))))
/-! 348 KeptHouse.worker (II)I -/
noncomputable def cf_348_0 (v1 : Int32) (v2 : Int32) (N : mz_N) : (Nat × Int32) := if (cf_104_0 N) = 0 then (if (cf_105_0 v1 0 1) = 0 then (if (cf_105_0 v2 0 3) = 0 then (0, (cf_349_0 v1 v2 N)) else ((cf_105_0 v2 0 3), 0)) else ((cf_105_0 v1 0 1), 0)) else ((cf_104_0 N), 0)
def cp_348_0 (v1 : Int32) (v2 : Int32) (N : mz_N) : Prop := (cp_104_0 N) ∧ (((cf_104_0 N) = 0 → ((cp_105_0 v1 0 1) ∧ (((cf_105_0 v1 0 1) = 0 → ((cp_105_0 v2 0 3) ∧ (((cf_105_0 v2 0 3) = 0 → (cp_349_0 v1 v2 N)) ∧ (¬ ((cf_105_0 v2 0 3) = 0) → True)))) ∧ (¬ ((cf_105_0 v1 0 1) = 0) → True)))) ∧ (¬ ((cf_104_0 N) = 0) → True))
/-! 347 KeptHouseLaw.worker (LKeptHouse;II[J)I -/
noncomputable def cf_347_0 (v1 : Int32) (v2 : Int32) (N : mz_N) (t : Nat) : (Int32 × mz_N × Nat) := if (cf_348_0 v1 v2 N).1 = 0 then (0, mz_wL N 342 0 (((cf_348_0 v1 v2 N).2).toInt64), t) else (if (cf_348_0 v1 v2 N).1 = 1 then (1, N, t + 1) else (2, N, t + 1))
def cp_347_0 (v1 : Int32) (v2 : Int32) (N : mz_N) (t : Nat) : Prop := (cp_348_0 v1 v2 N) ∧ ((t < 1000) ∧ (((cf_348_0 v1 v2 N).1 = 0 → True) ∧ (¬ ((cf_348_0 v1 v2 N).1 = 0) → (((cf_348_0 v1 v2 N).1 = 1 → True) ∧ (¬ ((cf_348_0 v1 v2 N).1 = 1) → ((cf_348_0 v1 v2 N).1 = 2))))))
/-! 352 KeptHouse$Care.addOrder (III)I -/
noncomputable def cf_352_46 (v3 : Int32) (N : mz_N) : (Int32 × mz_N) := (v3, N)
def cp_352_46 (v3 : Int32) (N : mz_N) : Prop := True
noncomputable def cf_352_24 (v3 : Int32) (N : mz_N) : (Int32 × mz_N) := (cf_352_46 v3 (mz_pI (mz_wI N 132 (N.1 115 5) v3) 115 5 (((mz_wI N 132 (N.1 115 5) v3).1 115 5) + 1)))
def cp_352_24 (v3 : Int32) (N : mz_N) : Prop := (mz_ib (N.1 115 5) 8) ∧ (cp_352_46 v3 (mz_pI (mz_wI N 132 (N.1 115 5) v3) 115 5 (((mz_wI N 132 (N.1 115 5) v3).1 115 5) + 1)))
noncomputable def cf_352_0 (v1 : Int32) (v2 : Int32) (v3 : Int32) (N : mz_N) : (Int32 × mz_N) := (cf_352_24 v3 (mz_wI (mz_wI N 130 (N.1 115 5) v1) 131 ((mz_wI N 130 (N.1 115 5) v1).1 115 5) v2))
def cp_352_0 (v1 : Int32) (v2 : Int32) (v3 : Int32) (N : mz_N) : Prop := (mz_ib (N.1 115 5) 8) ∧ ((mz_ib ((mz_wI N 130 (N.1 115 5) v1).1 115 5) 8) ∧ (cp_352_24 v3 (mz_wI (mz_wI N 130 (N.1 115 5) v1) 131 ((mz_wI N 130 (N.1 115 5) v1).1 115 5) v2)))
/-! 351 KeptHouse.order (II)I -/
noncomputable def cf_351_0 (v1 : Int32) (v2 : Int32) (N : mz_N) : (Nat × Int32 × mz_N) := if (cf_104_0 N) = 0 then (if (cf_105_0 v1 0 2) = 0 then (if (cf_105_0 v2 1 9) = 0 then (if (N.1 115 5) < 8 then (0, ((cf_352_0 v1 v2 ((N.1 208 0) + 480) N).1), (cf_352_0 v1 v2 ((N.1 208 0) + 480) N).2) else (0, (-1003), N)) else ((cf_105_0 v2 1 9), 0, N)) else ((cf_105_0 v1 0 2), 0, N)) else ((cf_104_0 N), 0, N)
def cp_351_0 (v1 : Int32) (v2 : Int32) (N : mz_N) : Prop := (cp_104_0 N) ∧ (((cf_104_0 N) = 0 → ((cp_105_0 v1 0 2) ∧ (((cf_105_0 v1 0 2) = 0 → ((cp_105_0 v2 1 9) ∧ (((cf_105_0 v2 1 9) = 0 → (((N.1 115 5) < 8 → (cp_352_0 v1 v2 ((N.1 208 0) + 480) N)) ∧ (¬ ((N.1 115 5) < 8) → True))) ∧ (¬ ((cf_105_0 v2 1 9) = 0) → True)))) ∧ (¬ ((cf_105_0 v1 0 2) = 0) → True)))) ∧ (¬ ((cf_104_0 N) = 0) → True))
/-! 350 KeptHouseLaw.order (LKeptHouse;II[J)I -/
noncomputable def cf_350_21 (N : mz_N) (t : Nat) : (Int32 × mz_N × Nat) := (0, N, t)
def cp_350_21 (N : mz_N) (t : Nat) : Prop := True
noncomputable def cf_350_0 (v1 : Int32) (v2 : Int32) (N : mz_N) (t : Nat) : (Int32 × mz_N × Nat) := if (cf_351_0 v1 v2 N).1 = 0 then (cf_350_21 (mz_wL ((cf_351_0 v1 v2 N).2.2) 342 0 (((cf_351_0 v1 v2 N).2.1).toInt64)) t) else (if (cf_351_0 v1 v2 N).1 = 1 then (1, (cf_351_0 v1 v2 N).2.2, t + 1) else (2, (cf_351_0 v1 v2 N).2.2, t + 1))
def cp_350_0 (v1 : Int32) (v2 : Int32) (N : mz_N) (t : Nat) : Prop := (cp_351_0 v1 v2 N) ∧ ((t < 1000) ∧ (((cf_351_0 v1 v2 N).1 = 0 → (cp_350_21 (mz_wL ((cf_351_0 v1 v2 N).2.2) 342 0 (((cf_351_0 v1 v2 N).2.1).toInt64)) t)) ∧ (¬ ((cf_351_0 v1 v2 N).1 = 0) → (((cf_351_0 v1 v2 N).1 = 1 → True) ∧ (¬ ((cf_351_0 v1 v2 N).1 = 1) → ((cf_351_0 v1 v2 N).1 = 2))))))
