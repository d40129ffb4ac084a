/-! PURE (50zzzzb): the house of a minute: what both have. -/
section Cg
variable {e fl : Nat → Nat} {w u h k0 k1 : Nat → Int64}
theorem wrm_cg {k : Nat} (h : ∀ c, c < 240 → w c = u c) : wrm e w k = wrm e u k := by rw [wrm, wrm, ts_cg h]
theorem stq_cg {k : Nat} (h : ∀ c, c < 240 → w c = u c) : stq e w k = stq e u k := by rw [stq, stq, ts_cg h]
theorem adt_cg (h : ∀ c, c < 240 → w c = u c) : ∀ n, adt e w n = adt e u n := by
  intro n
  induction n with
  | zero => rfl
  | succ n ih => show (adt e w n || dtc e w n) = (adt e u n || dtc e u n); rw [ih, dtc_cg h]
theorem nmv_cg {w' u' k' : Nat → Int64} {hr : Nat} {we tm tk ld : Int} {mn : Bool} {T : Nat → Int} (h1 : ∀ c, c < 240 → w c = w' c) (h2 : ∀ c, c < 240 → u c = u' c) (h3 : ∀ c, c < 240 → h c = k' c) : nmv e fl w u h hr we tm tk ld mn T = nmv e fl w' u' k' hr we tm tk ld mn T := by
  funext j
  unfold nmv
  rw [wrm_cg h1, stq_cg h2, dtc_cg h3, adt_cg h3]
theorem gS_cg {F : Nat → Nat} (h : ∀ c, c < 240 → w c = u c) : ∀ c, c < 240 → gS F w c = gS F u c := fun c hc => by unfold gS; rw [h c hc]
theorem frS_cg {F : Nat → Nat} {lv : Bool} {vn : Nat} (h : ∀ c, c < 240 → w c = u c) : ∀ c, c < 240 → frS e F w lv vn c = frS e F u lv vn c := fun c hc => by
  have := drf_cg (e := e) (gS_cg (F := F) h) (gS_cg (F := F) h) 550 (Nat.le_refl _) c hc
  unfold frS vts
  rw [this]
theorem frX_cg {F : Nat → Nat} {lv sp : Bool} {vn tk : Nat} (h : ∀ c, c < 240 → w c = u c) : frX e F w lv vn sp tk = frX e F u lv vn sp tk := by
  unfold frX
  rw [spA_cg (frS_cg h)]
theorem gH_cg {F : Nat → Nat} (h : ∀ c, c < 240 → w c = u c) : ∀ c, c < 240 → gH F w c = gH F u c := fun c hc => by unfold gH; rw [h c hc]
theorem col_cg {G : Nat → Int32} (h : ∀ c, c < 240 → w c = u c) : col e fl G w = col e fl G u := by
  funext j
  unfold col
  rw [wrm_cg h]
theorem stf_cg (h : ∀ c, c < 240 → w c = u c) : stf e fl w = stf e fl u := by
  funext j
  unfold stf
  rw [ts_cg h]
theorem arT_cg {A : Nat → Nat} {vv : Nat} (h : ∀ c, c < 240 → w c = u c) : arT e fl A vv w = arT e fl A vv u := by
  funext k
  unfold arT
  exact vnt_cg (show ts e w k + lN (hrt e fl A k) = ts e u k + lN (hrt e fl A k) by rw [ts_cg h])
theorem ptv_cg {w' u' : Nat → Int64} {L : Nat → Nat} {tk ho ch fu k a : Nat} (h1 : ∀ c, c < 240 → w c = w' c) (h2 : ∀ c, c < 240 → u c = u' c) : ptv e fl w u L tk ho ch fu k a = ptv e fl w' u' L tk ho ch fu k a := by
  unfold ptv
  rw [wrm_cg h1, ts_cg h2]
end Cg
/-- targets -/
def tgR (N1 N2 : mz_N) (T : Nat → Int) : Prop := ∀ j, j < 16 → N1.1 53 j = iI (T j) ∧ N2.1 257 j = iI (T j)
def tgJ (j : Nat) (v : Int) : Prop := if j < 10 then 50 ≤ v ∧ v ≤ 300 else if j = 13 then 0 ≤ v ∧ v ≤ 9 else v = 0 ∨ v = 1
def tgB (T : Nat → Int) : Prop := ∀ j, j < 16 → tgJ j (T j)
/-- circuits: loads, heatings, tripped, shed -/
def CiS : Type := (Nat → Nat) × (Nat → Nat) × (Nat → Bool) × (Nat → Bool)
def ciR (N1 N2 : mz_N) (c : CiS) : Prop := ∀ j, j < 11 → (N1.1 58 j = nI (c.1 j) ∧ N2.1 272 j = nI (c.1 j)) ∧ (N1.1 59 j = nI (c.2.1 j) ∧ N2.1 274 j = nI (c.2.1 j)) ∧ (N1.1 60 j = nI (b1 (c.2.2.1 j)) ∧ N2.1 275 j = nI (b1 (c.2.2.1 j))) ∧ N1.1 61 j = nI (b1 (c.2.2.2 j)) ∧ N2.1 273 j = nI (b1 (c.2.2.2 j))
def ciB (c : CiS) : Prop := ∀ j, j < 11 → c.1 j ≤ 2000 ∧ c.2.1 j ≤ 20100 ∧ (c.2.2.1 j = false → c.2.1 j < 50)
def SuS : Type := (Nat) × (Nat) × (Nat) × (Nat) × (Nat) × (Nat) × (Nat) × (Bool) × (Bool) × (Bool) × (Bool)
abbrev SuS.ch (x : SuS) : Nat := x.1
abbrev SuS.fu (x : SuS) : Nat := x.2.1
abbrev SuS.wo (x : SuS) : Nat := x.2.2.1
abbrev SuS.tk (x : SuS) : Nat := x.2.2.2.1
abbrev SuS.st (x : SuS) : Nat := x.2.2.2.2.1
abbrev SuS.co (x : SuS) : Nat := x.2.2.2.2.2.1
abbrev SuS.bo (x : SuS) : Nat := x.2.2.2.2.2.2.1
abbrev SuS.mn (x : SuS) : Bool := x.2.2.2.2.2.2.2.1
abbrev SuS.en (x : SuS) : Bool := x.2.2.2.2.2.2.2.2.1
abbrev SuS.wa (x : SuS) : Bool := x.2.2.2.2.2.2.2.2.2.1
abbrev SuS.ra (x : SuS) : Bool := x.2.2.2.2.2.2.2.2.2.2
def suC (N : mz_N) (u : SuS) : Prop := (N.1 56 1 = nI u.ch) ∧ (N.1 56 2 = nI u.fu) ∧ (N.1 56 3 = nI u.wo) ∧ (N.1 56 7 = nI u.tk) ∧ (N.1 56 11 = nI u.st) ∧ (N.1 56 12 = nI u.co) ∧ (N.1 56 13 = nI u.bo) ∧ (N.1 56 4 = mz_b01 u.mn) ∧ (N.1 56 5 = mz_b01 u.en) ∧ (N.1 56 8 = mz_b01 u.wa) ∧ (N.1 56 9 = mz_b01 u.ra)
theorem suC.ch {N : mz_N} {u : SuS} (h : suC N u) : N.1 56 1 = nI u.ch := h.1
theorem suC.fu {N : mz_N} {u : SuS} (h : suC N u) : N.1 56 2 = nI u.fu := h.2.1
theorem suC.wo {N : mz_N} {u : SuS} (h : suC N u) : N.1 56 3 = nI u.wo := h.2.2.1
theorem suC.tk {N : mz_N} {u : SuS} (h : suC N u) : N.1 56 7 = nI u.tk := h.2.2.2.1
theorem suC.st {N : mz_N} {u : SuS} (h : suC N u) : N.1 56 11 = nI u.st := h.2.2.2.2.1
theorem suC.co {N : mz_N} {u : SuS} (h : suC N u) : N.1 56 12 = nI u.co := h.2.2.2.2.2.1
theorem suC.bo {N : mz_N} {u : SuS} (h : suC N u) : N.1 56 13 = nI u.bo := h.2.2.2.2.2.2.1
theorem suC.mn {N : mz_N} {u : SuS} (h : suC N u) : N.1 56 4 = mz_b01 u.mn := h.2.2.2.2.2.2.2.1
theorem suC.en {N : mz_N} {u : SuS} (h : suC N u) : N.1 56 5 = mz_b01 u.en := h.2.2.2.2.2.2.2.2.1
theorem suC.wa {N : mz_N} {u : SuS} (h : suC N u) : N.1 56 8 = mz_b01 u.wa := h.2.2.2.2.2.2.2.2.2.1
theorem suC.ra {N : mz_N} {u : SuS} (h : suC N u) : N.1 56 9 = mz_b01 u.ra := h.2.2.2.2.2.2.2.2.2.2
def suR (N : mz_N) (u : SuS) : Prop := (N.1 232 54 = nI u.ch) ∧ (N.1 232 53 = nI u.fu) ∧ (N.1 232 55 = nI u.wo) ∧ (N.1 232 61 = nI u.tk) ∧ (N.1 232 62 = nI u.st) ∧ (N.2 232 68 = lN u.co) ∧ (N.2 232 66 = lN u.bo) ∧ (N.1 232 52 = mz_b01 u.mn) ∧ (N.1 232 65 = mz_b01 u.en) ∧ (N.1 232 63 = mz_b01 u.wa) ∧ (N.1 232 64 = mz_b01 u.ra)
theorem suR.ch {N : mz_N} {u : SuS} (h : suR N u) : N.1 232 54 = nI u.ch := h.1
theorem suR.fu {N : mz_N} {u : SuS} (h : suR N u) : N.1 232 53 = nI u.fu := h.2.1
theorem suR.wo {N : mz_N} {u : SuS} (h : suR N u) : N.1 232 55 = nI u.wo := h.2.2.1
theorem suR.tk {N : mz_N} {u : SuS} (h : suR N u) : N.1 232 61 = nI u.tk := h.2.2.2.1
theorem suR.st {N : mz_N} {u : SuS} (h : suR N u) : N.1 232 62 = nI u.st := h.2.2.2.2.1
theorem suR.co {N : mz_N} {u : SuS} (h : suR N u) : N.2 232 68 = lN u.co := h.2.2.2.2.2.1
theorem suR.bo {N : mz_N} {u : SuS} (h : suR N u) : N.2 232 66 = lN u.bo := h.2.2.2.2.2.2.1
theorem suR.mn {N : mz_N} {u : SuS} (h : suR N u) : N.1 232 52 = mz_b01 u.mn := h.2.2.2.2.2.2.2.1
theorem suR.en {N : mz_N} {u : SuS} (h : suR N u) : N.1 232 65 = mz_b01 u.en := h.2.2.2.2.2.2.2.2.1
theorem suR.wa {N : mz_N} {u : SuS} (h : suR N u) : N.1 232 63 = mz_b01 u.wa := h.2.2.2.2.2.2.2.2.2.1
theorem suR.ra {N : mz_N} {u : SuS} (h : suR N u) : N.1 232 64 = mz_b01 u.ra := h.2.2.2.2.2.2.2.2.2.2
def suB (q : Nat) (u : SuS) : Prop := (u.ch ≤ 3000) ∧ (u.fu ≤ 1000) ∧ (u.wo ≤ q) ∧ (u.tk ≤ 2000) ∧ (u.st ≤ 20000) ∧ (u.co ≤ q) ∧ (u.bo ≤ 20000)
theorem suB.ch {q : Nat} {u : SuS} (h : suB q u) : u.ch ≤ 3000 := h.1
theorem suB.fu {q : Nat} {u : SuS} (h : suB q u) : u.fu ≤ 1000 := h.2.1
theorem suB.wo {q : Nat} {u : SuS} (h : suB q u) : u.wo ≤ q := h.2.2.1
theorem suB.tk {q : Nat} {u : SuS} (h : suB q u) : u.tk ≤ 2000 := h.2.2.2.1
theorem suB.st {q : Nat} {u : SuS} (h : suB q u) : u.st ≤ 20000 := h.2.2.2.2.1
theorem suB.co {q : Nat} {u : SuS} (h : suB q u) : u.co ≤ q := h.2.2.2.2.2.1
theorem suB.bo {q : Nat} {u : SuS} (h : suB q u) : u.bo ≤ 20000 := h.2.2.2.2.2.2
/-- climate: heat, stale, moist, smoke, mould, flames -/
def ClS : Type := (Nat → Int64) × (Nat → Int64) × (Nat → Int64) × (Nat → Int64) × (Nat → Nat) × (Nat → Nat)
abbrev ClS.h (x : ClS) : Nat → Int64 := x.1
abbrev ClS.sa (x : ClS) : Nat → Int64 := x.2.1
abbrev ClS.mi (x : ClS) : Nat → Int64 := x.2.2.1
abbrev ClS.sm (x : ClS) : Nat → Int64 := x.2.2.2.1
abbrev ClS.mo (x : ClS) : Nat → Nat := x.2.2.2.2.1
abbrev ClS.fl (x : ClS) : Nat → Nat := x.2.2.2.2.2
def clC (N : mz_N) (k : ClS) : Prop := (∀ c, c < 240 → N.2 68 c = k.h c) ∧ (∀ c, c < 240 → N.2 69 c = k.sa c) ∧ (∀ c, c < 240 → N.2 70 c = k.mi c) ∧ (∀ c, c < 240 → N.2 71 c = k.sm c) ∧ (∀ c, c < 240 → N.1 72 c = nI (k.mo c)) ∧ (∀ c, c < 240 → N.1 73 c = nI (k.fl c)) ∧ (∃ fi, N.1 65 8 = mz_b01 fi ∧ (fi = false → ∀ c, c < 240 → k.fl c = 0 ∧ k.sm c = 0))
theorem clC.h {N : mz_N} {k : ClS} (h : clC N k) : ∀ c, c < 240 → N.2 68 c = k.h c := h.1
theorem clC.sa {N : mz_N} {k : ClS} (h : clC N k) : ∀ c, c < 240 → N.2 69 c = k.sa c := h.2.1
theorem clC.mi {N : mz_N} {k : ClS} (h : clC N k) : ∀ c, c < 240 → N.2 70 c = k.mi c := h.2.2.1
theorem clC.sm {N : mz_N} {k : ClS} (h : clC N k) : ∀ c, c < 240 → N.2 71 c = k.sm c := h.2.2.2.1
theorem clC.mo {N : mz_N} {k : ClS} (h : clC N k) : ∀ c, c < 240 → N.1 72 c = nI (k.mo c) := h.2.2.2.2.1
theorem clC.fl {N : mz_N} {k : ClS} (h : clC N k) : ∀ c, c < 240 → N.1 73 c = nI (k.fl c) := h.2.2.2.2.2.1
theorem clC.fi {N : mz_N} {k : ClS} (h : clC N k) : ∃ fi, N.1 65 8 = mz_b01 fi ∧ (fi = false → ∀ c, c < 240 → k.fl c = 0 ∧ k.sm c = 0) := h.2.2.2.2.2.2
def clR (N : mz_N) (k : ClS) : Prop := (∀ c, c < 240 → N.2 260 c = k.h c) ∧ (∀ c, c < 240 → N.2 261 c = k.sa c) ∧ (∀ c, c < 240 → N.2 262 c = k.mi c) ∧ (∀ c, c < 240 → N.2 265 c = k.sm c) ∧ (∀ c, c < 240 → N.2 263 c = lN (k.mo c)) ∧ (∀ c, c < 240 → N.2 264 c = lN (k.fl c))
theorem clR.h {N : mz_N} {k : ClS} (h : clR N k) : ∀ c, c < 240 → N.2 260 c = k.h c := h.1
theorem clR.sa {N : mz_N} {k : ClS} (h : clR N k) : ∀ c, c < 240 → N.2 261 c = k.sa c := h.2.1
theorem clR.mi {N : mz_N} {k : ClS} (h : clR N k) : ∀ c, c < 240 → N.2 262 c = k.mi c := h.2.2.1
theorem clR.sm {N : mz_N} {k : ClS} (h : clR N k) : ∀ c, c < 240 → N.2 265 c = k.sm c := h.2.2.2.1
theorem clR.mo {N : mz_N} {k : ClS} (h : clR N k) : ∀ c, c < 240 → N.2 263 c = lN (k.mo c) := h.2.2.2.2.1
theorem clR.fl {N : mz_N} {k : ClS} (h : clR N k) : ∀ c, c < 240 → N.2 264 c = lN (k.fl c) := h.2.2.2.2.2
/-- how far heat, stale air and smoke may have come in q minutes -/
def clB (q : Nat) (k : ClS) : Prop := (∀ c, c < 240 → -(100000 + 100000 * (q : Int)) ≤ (k.h c).toInt ∧ (k.h c).toInt ≤ 100000 + 100000 * (q : Int)) ∧ (smb k.sa (5000 * q)) ∧ (smb k.sm (200 * q)) ∧ (∀ c, c < 240 → k.mo c ≤ 1000) ∧ (∀ c, c < 240 → k.fl c ≤ 100)
theorem clB.h {q : Nat} {k : ClS} (h : clB q k) : ∀ c, c < 240 → -(100000 + 100000 * (q : Int)) ≤ (k.h c).toInt ∧ (k.h c).toInt ≤ 100000 + 100000 * (q : Int) := h.1
theorem clB.sa {q : Nat} {k : ClS} (h : clB q k) : smb k.sa (5000 * q) := h.2.1
theorem clB.sm {q : Nat} {k : ClS} (h : clB q k) : smb k.sm (200 * q) := h.2.2.1
theorem clB.mo {q : Nat} {k : ClS} (h : clB q k) : ∀ c, c < 240 → k.mo c ≤ 1000 := h.2.2.2.1
theorem clB.fl {q : Nat} {k : ClS} (h : clB q k) : ∀ c, c < 240 → k.fl c ≤ 100 := h.2.2.2.2
/-- alarms, cold minutes -/
def waR (N1 N2 : mz_N) (w : wtc) (cr : Nat → Nat) : Prop := wcl N1 w ∧ wcr N2 w ∧ ∀ j, j < 10 → N1.1 82 j = nI (cr j) ∧ N2.1 278 j = nI (cr j)
def waB (q : Nat) (w : wtc) (cr : Nat → Nat) : Prop := w.2.2.2 ≤ 18 * q ∧ ∀ j, j < 10 → cr j ≤ q
def poR (N1 N2 : mz_N) (R : ptR) : Prop := ptc N1 R ∧ ptr N2 R
/-- the program, read -/
def prR (N1 : mz_N) (b : Bool) (N2 : mz_N) (S : List (Nat × Nat)) : Prop := (N1.1 (mz_lv b) 4 = nI S.length) ∧ (N1.1 (mz_lv b) 5 = nI (na S)) ∧ (wds (N1.1 (mz_lv b + 2)) (N1.1 (mz_lv b + 3)) S) ∧ (N2.1 232 28 = nI (na S)) ∧ (rws (N2.1 253) (N2.1 254) (N2.1 255) (N2.1 256) S)
theorem prR.c4 {N1 : mz_N} {b : Bool} {N2 : mz_N} (S : List (Nat × Nat)) (h : prR N1 b N2 S) : N1.1 (mz_lv b) 4 = nI S.length := h.1
theorem prR.c5 {N1 : mz_N} {b : Bool} {N2 : mz_N} (S : List (Nat × Nat)) (h : prR N1 b N2 S) : N1.1 (mz_lv b) 5 = nI (na S) := h.2.1
theorem prR.cw {N1 : mz_N} {b : Bool} {N2 : mz_N} (S : List (Nat × Nat)) (h : prR N1 b N2 S) : wds (N1.1 (mz_lv b + 2)) (N1.1 (mz_lv b + 3)) S := h.2.2.1
theorem prR.r8 {N1 : mz_N} {b : Bool} {N2 : mz_N} (S : List (Nat × Nat)) (h : prR N1 b N2 S) : N2.1 232 28 = nI (na S) := h.2.2.2.1
theorem prR.rw {N1 : mz_N} {b : Bool} {N2 : mz_N} (S : List (Nat × Nat)) (h : prR N1 b N2 S) : rws (N2.1 253) (N2.1 254) (N2.1 255) (N2.1 256) S := h.2.2.2.2
def prB (S : List (Nat × Nat)) : Prop := (vok S) ∧ (dpt S = 0) ∧ (S.length ≤ 196) ∧ (na S ≤ 12)
theorem prB.v (S : List (Nat × Nat)) (h : prB S) : vok S := h.1
theorem prB.d (S : List (Nat × Nat)) (h : prB S) : dpt S = 0 := h.2.1
theorem prB.l (S : List (Nat × Nat)) (h : prB S) : S.length ≤ 196 := h.2.2.1
theorem prB.n (S : List (Nat × Nat)) (h : prB S) : na S ≤ 12 := h.2.2.2
/-- the plan, surveyed -/
def plB (e fl : Nat → Nat) : Prop := (pl_n e ≤ 40) ∧ (∀ i, i < 550 → e i < 4) ∧ (∀ i, i < 550 → ge_sd (i % 110) < 4 → e i = 2 ∨ e i = 3) ∧ (∀ c, c < 240 → fl c < 16)
theorem plB.n {e fl : Nat → Nat} (h : plB e fl) : pl_n e ≤ 40 := h.1
theorem plB.e4 {e fl : Nat → Nat} (h : plB e fl) : ∀ i, i < 550 → e i < 4 := h.2.1
theorem plB.bd {e fl : Nat → Nat} (h : plB e fl) : ∀ i, i < 550 → ge_sd (i % 110) < 4 → e i = 2 ∨ e i = 3 := h.2.2.1
theorem plB.fl {e fl : Nat → Nat} (h : plB e fl) : ∀ c, c < 240 → fl c < 16 := h.2.2.2
def plW (N1 N2 : mz_N) (e fl : Nat → Nat) : Prop := c_pl e fl N1 ∧ r_pl e fl N2
theorem tlv_J (g : Nat) (v : Int) : tgJ g (tlv g v) := by
  unfold tgJ tlv
  by_cases w : g < 10
  · simp only [if_pos w]
    by_cases a : v < 50
    · simp only [if_pos a]; omega
    · by_cases b : 300 < v
      · simp only [if_neg a, if_pos b]; omega
      · simp only [if_neg a, if_neg b]; omega
  · simp only [if_neg w]
    by_cases z : g = 13
    · simp only [if_pos z]
      by_cases a : v < 0
      · simp only [if_pos a]; omega
      · by_cases b : 9 < v
        · simp only [if_neg a, if_pos b]; omega
        · simp only [if_neg a, if_neg b]; omega
    · simp only [if_neg z]
      by_cases a : v = 0
      · simp only [if_pos a]; exact Or.inl trivial
      · simp only [if_neg a]; exact Or.inr trivial
theorem exs_J {T : Nat → Int} (h : ∀ j, j < 16 → tgJ j (T j)) : ∀ S : List (Nat × Nat), ∀ j, j < 16 → tgJ j ((exs S T).2 j) := by
  intro S
  induction S with
  | nil => exact h
  | cons x S ih =>
    intro j hj
    show tgJ j ((ex1 x (exs S T)).2 j)
    unfold ex1
    split
    · exact ih j hj
    · split
      · exact ih j hj
      · split
        · show tgJ j (up (exs S T).2 x.2 _ j)
          rw [up_d]
          by_cases w : j = x.2
          · rw [if_pos w, w]; exact tlv_J _ _
          · rw [if_neg w]; exact ih j hj
        · split
          · exact ih j hj
          · split
            · exact ih j hj
            · exact ih j hj
