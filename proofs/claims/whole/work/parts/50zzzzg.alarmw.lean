/-! PURE (50zzzzg): alarms, both sides together. -/
/-- which alarms are on -/
noncomputable def onF (e fl : Nat → Nat) (G : Nat → Int32) (cr : Nat → Nat) (h sa sm : Nat → Int64) (dry : Bool) (co : Nat) (tr fa sh : Nat → Bool) (mo : Nat → Nat) (j : Nat) : Bool := if j < 10 then decide (30 ≤ crn (col e fl G h) cr j) else if j = 10 then dry else if j = 11 then decide (240 ≤ co) else if j = 12 then anb tr 11 else if j = 13 then anb fa 3 else if j = 14 then anb sh 11 else if j = 15 then anb (stf e fl sa) 10 else if j = 16 then adt e sm (pl_n e) else anb (fun c => decide (500 ≤ mo c)) 240
section On
variable {e fl : Nat → Nat} {G : Nat → Int32} {cr : Nat → Nat} {h sa sm : Nat → Int64} {dry : Bool} {co : Nat} {tr fa sh : Nat → Bool} {mo : Nat → Nat}
theorem on_10 : onF e fl G cr h sa sm dry co tr fa sh mo 10 = dry := by unfold onF; rw [if_neg (by decide), if_pos rfl]
theorem on_11 : onF e fl G cr h sa sm dry co tr fa sh mo 11 = decide (240 ≤ co) := by unfold onF; rw [if_neg (by decide), if_neg (by decide), if_pos rfl]
theorem on_12 : onF e fl G cr h sa sm dry co tr fa sh mo 12 = anb tr 11 := by unfold onF; rw [if_neg (by decide), if_neg (by decide), if_neg (by decide), if_pos rfl]
theorem on_13 : onF e fl G cr h sa sm dry co tr fa sh mo 13 = anb fa 3 := by unfold onF; rw [if_neg (by decide), if_neg (by decide), if_neg (by decide), if_neg (by decide), if_pos rfl]
theorem on_14 : onF e fl G cr h sa sm dry co tr fa sh mo 14 = anb sh 11 := by unfold onF; rw [if_neg (by decide), if_neg (by decide), if_neg (by decide), if_neg (by decide), if_neg (by decide), if_pos rfl]
theorem on_15 : onF e fl G cr h sa sm dry co tr fa sh mo 15 = anb (stf e fl sa) 10 := by unfold onF; rw [if_neg (by decide), if_neg (by decide), if_neg (by decide), if_neg (by decide), if_neg (by decide), if_neg (by decide), if_pos rfl]
theorem on_16 : onF e fl G cr h sa sm dry co tr fa sh mo 16 = adt e sm (pl_n e) := by unfold onF; rw [if_neg (by decide), if_neg (by decide), if_neg (by decide), if_neg (by decide), if_neg (by decide), if_neg (by decide), if_neg (by decide), if_pos rfl]
theorem on_17 : onF e fl G cr h sa sm dry co tr fa sh mo 17 = anb (fun c => decide (500 ≤ mo c)) 240 := by unfold onF; rw [if_neg (by decide), if_neg (by decide), if_neg (by decide), if_neg (by decide), if_neg (by decide), if_neg (by decide), if_neg (by decide), if_neg (by decide)]
end On
section Aw
variable {N1 N2 : mz_N} {e fl cr : Nat → Nat} {T : Nat → Int} {u : SuS} {c : CiS} {k : ClS} {q tm : Nat} {dry : Bool} {fa : Nat → Bool} {w : wtc}
theorem tgJ_10 {j : Nat} {v : Int} (h : tgJ j v) : -(2 ^ 30 : Int) ≤ (iI v).toInt ∧ (iI v).toInt ≤ 2 ^ 30 := by
  have := tgJ_bn h
  unfold bn at this
  rw [iI_t (by omega)]
  omega
theorem alarm_ok {p : Nat} (hB : plB e fl) (hpl : plW N1 N2 e fl) (hT : tgR N1 N2 T) (hTB : tgB T) (hu : suC N1 u) (hu2 : suR N2 u) (huB : suB p u) (hpq : p < 2 ^ 20) (hq : q < 2 ^ 20) (hc : ciR N1 N2 c) (hk : clC N1 k) (hk2 : clR N2 k) (hmo : ∀ z, z < 240 → k.mo z ≤ 1000) (hw : waR N1 N2 w cr) (hwB : waB q w cr) (t1 : N1.1 208 0 = nI tm) (t2 : N2.2 232 2 = lN tm) (d1 : N1.1 56 10 = mz_b01 dry) (d2 : N2.1 232 67 = mz_b01 dry) (hfa : ∀ j, j < 3 → N1.1 128 j = nI (b1 (fa j)) ∧ N2.1 307 j = nI (b1 (fa j))) :
    cp_261_0 N1 ∧ cp_537_0 N2 ∧ ∃ w' cr', waR (cf_261_0 N1) (cf_537_0 N2) w' cr' ∧ waB (q + 1) w' cr' ∧ fq [81, 82, 83, 85, 86] [] N1 (cf_261_0 N1) ∧ fq [232, 278, 279, 280] [281, 340] N2 (cf_537_0 N2) ∧ (∀ j, j ≠ 3 → (cf_261_0 N1).1 81 j = N1.1 81 j) ∧ ∀ j, j ≠ 72 → (cf_537_0 N2).1 232 j = N2.1 232 j := by
  obtain ⟨w1, w2, w3⟩ := hw
  obtain ⟨b1', b2⟩ := hwB
  have co := huB.co
  have e1 : col e fl (fun j => iI (T j)) (N1.2 68) = col e fl (fun j => iI (T j)) k.h := col_cg hk.h
  have e2 : col e fl (fun j => iI (T j)) (N2.2 260) = col e fl (fun j => iI (T j)) k.h := col_cg hk2.h
  obtain ⟨a1, a2, a3, a4, a5⟩ := alarm_c (N := N1) (e := e) (fl := fl) (w := w) (tm := tm) (G := fun j => iI (T j)) (cr := cr) (dry := dry) (co := u.co) (tr := c.2.2.1) (sh := c.2.2.2) (fa := fa) (mo := k.mo) (on := onF e fl (fun j => iI (T j)) cr k.h k.sa k.sm dry u.co c.2.2.1 fa c.2.2.2 k.mo) hB.n hpl.1 w1 (by omega) t1 (fun j hj => ⟨(hT j (by omega)).1, tgJ_10 (hTB j (by omega))⟩) (fun j hj => ⟨(w3 j hj).1, by have := b2 j hj; omega⟩) d1 hu.co (by omega) (fun j hj => (hc j hj).2.2.1.1) (fun j hj => (hc j hj).2.2.2.1) (fun j hj => (hfa j hj).1) (fun z hz => ⟨hk.mo z hz, hmo z hz⟩) (nfs_k hk) (fun j hj => by unfold onF; rw [if_pos hj, e1]) on_10 on_11 on_12 on_13 on_14 (by rw [stf_cg hk.sa]; exact on_15) (by rw [adt_cg hk.sm]; exact on_16) on_17
  obtain ⟨r1, K2, r2, r3, r4, r5, r6⟩ := alarm_r (N := N2) (e := e) (fl := fl) (w := w) (tm := tm) (G := fun j => iI (T j)) (cr := cr) (dry := dry) (co := u.co) (tr := c.2.2.1) (sh := c.2.2.2) (fa := fa) (mo := k.mo) (on := onF e fl (fun j => iI (T j)) cr k.h k.sa k.sm dry u.co c.2.2.1 fa c.2.2.2 k.mo) hB.n hpl.2 w2 (by omega) t2 (fun j hj => ⟨(hT j (by omega)).2, tgJ_10 (hTB j (by omega))⟩) (fun j hj => ⟨(w3 j hj).2, by have := b2 j hj; omega⟩) d2 hu2.co (by omega) (fun j hj => (hc j hj).2.2.1.2) (fun j hj => (hc j hj).2.2.2.2) (fun j hj => (hfa j hj).2) (fun z hz => ⟨hk2.mo z hz, hmo z hz⟩) (fun j hj => by unfold onF; rw [if_pos hj, e2]) on_10 on_11 on_12 on_13 on_14 (by rw [stf_cg hk2.sa]; exact on_15) (by rw [adt_cg hk2.sm]; exact on_16) on_17
  rw [e1] at a4
  rw [e2] at r5
  have sn := snA_n (on := onF e fl (fun j => iI (T j)) cr k.h k.sa k.sm dry u.co c.2.2.1 fa c.2.2.2 k.mo) (tm := tm) (w := w) 18
  generalize snA (onF e fl (fun j => iI (T j)) cr k.h k.sa k.sm dry u.co c.2.2.1 fa c.2.2.2 k.mo) tm 18 w = w' at *
  rw [r2]
  refine ⟨a1, r1, w', crn (col e fl (fun j => iI (T j)) k.h) cr, ⟨a3, r4, fun j hj => ⟨a4 j hj, r5 j hj⟩⟩, ⟨by omega, fun j hj => ?_⟩, a2, r3, a5, r6⟩
  have := b2 j hj
  unfold crn
  split <;> omega
end Aw
