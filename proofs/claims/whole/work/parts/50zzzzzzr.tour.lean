/-! PURE (50zzzzzzr): tour. -/
theorem and1 (v : Int32) : v &&& 1 = 0 ∨ v &&& 1 = 1 := by
  have h : (v &&& 1).toBitVec = BitVec.setWidth 32 (BitVec.ofBool (v.toBitVec.getLsbD 0)) := BitVec.and_one_eq_setWidth_ofBool_getLsbD
  cases e : v.toBitVec.getLsbD 0
  · refine Or.inl (Int32.toBitVec_inj.mp ?_)
    rw [h, e]; rfl
  · refine Or.inr (Int32.toBitVec_inj.mp ?_)
    rw [h, e]; rfl
theorem and1_b (v : Int32) : mz_ib (v &&& 1) 2 := by
  rcases and1 v with h | h <;> rw [h]
  · exact ib_n (show 0 < 2 by omega) (by omega)
  · exact ib_n (show 1 < 2 by omega) (by omega)
theorem gd_m : ∀ (l : List Nat) (i : Nat), i < l.length → gd l i ∈ l := by
  intro l
  induction l with
  | nil => intro i hi; cases hi
  | cons a l ih =>
    intro i hi
    cases i with
    | zero => exact List.mem_cons_self
    | succ i => exact List.mem_cons_of_mem _ (ih i (by simpa using hi))
theorem gd_inj : ∀ (l : List Nat), l.Nodup → ∀ i j, i < l.length → j < l.length → gd l i = gd l j → i = j := by
  intro l
  induction l with
  | nil => intro _ i j hi; cases hi
  | cons a l ih =>
    intro hn i j hi hj e
    obtain ⟨h1, h2⟩ := List.nodup_cons.mp hn
    cases i with
    | zero =>
      cases j with
      | zero => rfl
      | succ j =>
        have e' : a = gd l j := e
        exact absurd (by rw [e']; exact gd_m l j (by simpa using hj)) h1
    | succ i =>
      cases j with
      | zero =>
        have e' : gd l i = a := e
        exact absurd (by rw [← e']; exact gd_m l i (by simpa using hi)) h1
      | succ j =>
        have := ih h2 i j (by simpa using hi) (by simpa using hj) e
        rw [this]
theorem or_bit : ∀ m, m < 64 → ∀ j, j < 6 → (m ||| 1 <<< j).testBit j = true := by decide +kernel
theorem or_mono : ∀ m, m < 64 → ∀ j, j < 6 → ∀ i, i < 6 → ((m ||| 1 <<< j).testBit i = false → m.testBit i = false) := by decide +kernel
theorem GP_nd {w : Nat → Nat → Nat} {sp : Nat → Nat} {n : Nat} (hn : n < 7) : ∀ k m a, m < 64 → (rem n m).length = k → (GP w sp n m a).Nodup ∧ ∀ y, y ∈ GP w sp n m a → y ∈ rem n m := by
  intro k
  induction k with
  | zero =>
    intro m a hm hk
    have e : rem n m = [] := List.length_eq_zero_iff.mp hk
    rw [(GV_0 (w := w) (sp := sp) (a := a) e).2]
    exact ⟨List.nodup_nil, fun y hy => by cases hy⟩
  | succ k ih =>
    intro m a hm hk
    have ne : rem n m ≠ [] := fun z => by rw [z] at hk; cases hk
    have hj := bnL_m (f := gf w sp n m a) ne
    rw [(GV_s (w := w) (sp := sp) (a := a) hn hm ne).2]
    generalize bnL (gf w sp n m a) (rem n m) = j at hj ⊢
    obtain ⟨j1, j2⟩ := rem_mem.mp hj
    obtain ⟨r1, r2, r3⟩ := rem_in n hn m hm j j1 j2
    obtain ⟨i1, i2⟩ := ih (m ||| 1 <<< j) (sp j) r1 (by omega)
    refine ⟨List.nodup_cons.mpr ⟨fun z => ?_, i1⟩, fun y hy => ?_⟩
    · have := (rem_mem.mp (i2 j z)).2
      rw [or_bit m hm j (by omega)] at this
      cases this
    · rcases List.mem_cons.mp hy with z | z
      · rw [z]; exact hj
      · obtain ⟨y1, y2⟩ := rem_mem.mp (i2 y z)
        exact rem_mem.mpr ⟨y1, or_mono m hm j (by omega) y (by omega) y2⟩
def tcA : List Nat := [122, 133, 134, 136, 137, 139, 140, 141, 142, 145, 146, 147, 148, 149, 150, 151, 152, 153, 154, 155, 156, 157, 158, 159, 160, 161, 162, 163, 164, 165, 166, 167, 168, 169, 170, 171, 172, 173, 174, 175, 176, 177, 178, 179, 180, 181, 182, 183, 184, 185, 186, 187, 188, 189, 190, 191, 192, 193, 194, 195, 196, 197, 198, 199, 200, 201, 202, 203, 204, 205, 206, 207]
theorem tcA_in : ∀ k, k < 63 → tcA.contains (145 + k) = true := by decide
theorem tcA_o {c : Nat} (h : tcA.contains c = false) : c < 145 ∨ 208 ≤ c := by
  by_cases w : c < 145 ∨ 208 ≤ c
  · exact w
  · have := tcA_in (c - 145) (by omega)
    rw [show 145 + (c - 145) = c by omega, h] at this
    cases this
/-- a tour is under way -/
def toX (x : CrS) (u n : Nat) (wn : Nat → Int32) (pl sp : Nat → Nat) (tm : Nat) (P : List Nat) : CrS := (wn, x.nn, x.oc, x.op, x.om, x.od, up x.vs u n, up x.vd u 0, up x.tp u (fun i => pl (gd P i)), up x.tt u (fun i => gd (vtm sp 0 tm P) i), up x.bk u (vend sp 0 tm P))
section To
variable {N N1 N2 M1 M2 : mz_N} {b : Bool} {B q : Nat} {s : st_S} {D H G : Kp} {x : CrS} {L L' : LvS} {R : RsS} {v v1 v2 v3 : Int32}
theorem toX_ci {u n tm : Nat} {wn : Nat → Int32} {pl sp : Nat → Nat} {P : List Nat} {t kd : Nat → Nat} (h : CI q false H x) (hu : u < 2) (h0 : x.vs u = 0) (et : t = H.1 8) (hC : Chs N1 N2 u t kd x.wk n pl wn M1 M2) (hP : P.length = n) (hPn : ∀ i, i < n → gd P i < n) (hPd : P.Nodup) (ht : tm ≤ 2000000) (hv : ∀ i, i < n → gd (vtm sp 0 tm P) i ≤ tm + 75 * 6) (hb : vend sp 0 tm P ≤ tm + 75 * 6 + 60) : CI (q + 1) false H (toX x u n wn pl sp tm P) := by
  obtain ⟨c1, c2, ⟨cr, r1, r2⟩, c4, c5, c6, c7, c8, c9, c10, c11, c12, c13⟩ := h
  have n6 := hC.c6
  subst et
  have T : ∀ s i, s < 2 → up x.vd u 0 s ≤ i → i < up x.vs u n s → (s = u ∧ i < n ∧ up x.tp u (fun i => pl (gd P i)) s i = pl (gd P i)) ∨ (s ≠ u ∧ x.vd s ≤ i ∧ i < x.vs s ∧ up x.tp u (fun i => pl (gd P i)) s i = x.tp s i) := fun s i hs a b => by
    rw [up_d] at a b
    by_cases z : s = u
    · rw [if_pos z] at b
      exact Or.inl ⟨z, b, by rw [up_d, if_pos z]⟩
    · rw [if_neg z] at a b
      exact Or.inr ⟨z, a, b, by rw [up_d, if_neg z]⟩
  have X : ∀ i s j, i < n → s < 2 → x.vd s ≤ j → j < x.vs s → pl (gd P i) ≠ x.tp s j := fun i s j hi hs a b z => by
    have y := (hC.p (gd P i) (hPn i hi)).2.2
    rw [z, c13 s hs j a b] at y
    exact (nI_neg2 (k := s) (by omega)).1 y
  refine ⟨c1, c2, ⟨cr, r1, ?_⟩, c4, c5, fun s hs => ?_, fun s hs i a b => ?_, fun s hs i b => ?_, fun s hs => ?_, fun s i s' j hs hs' a b c d e => ?_, c11, fun j hj h8 => ?_, fun s hs i a b => ?_⟩
  · show cr + 3000 * sumN x.om x.oc + 500 * ((up x.vs u n 0 - up x.vd u 0 0) + (up x.vs u n 1 - up x.vd u 0 1)) ≤ _
    rw [up_d, up_d, up_d, up_d]
    rcases (show u = 0 ∨ u = 1 by omega) with z | z
    · subst z; rw [if_pos rfl, if_pos rfl, if_neg (by decide), if_neg (by decide)]; omega
    · subst z; rw [if_neg (by decide), if_neg (by decide), if_pos rfl, if_pos rfl]; omega
  · show up x.vs u n s ≤ 6 ∧ up x.vd u 0 s ≤ 6 ∧ (up x.vs u n s = 0 ∨ up x.vd u 0 s ≤ up x.vs u n s)
    rw [up_d, up_d]
    by_cases z : s = u
    · rw [if_pos z, if_pos z]; omega
    · rw [if_neg z, if_neg z]; exact c6 s hs
  · show up x.tp u (fun i => pl (gd P i)) s i < 16 ∧ H.1 8 (up x.tp u (fun i => pl (gd P i)) s i) = 1
    rcases T s i hs a b with ⟨_, y, e⟩ | ⟨_, y1, y2, e⟩
    · rw [e]
      obtain ⟨k1, k2, _⟩ := hC.p (gd P i) (hPn i y)
      exact ⟨k1, k2⟩
    · rw [e]; exact c7 s hs i y1 y2
  · show up x.tt u (fun i => gd (vtm sp 0 tm P) i) s i < 2 ^ 30
    have b' : i < up x.vs u n s := b
    rw [up_d] at b' ⊢
    by_cases z : s = u
    · rw [if_pos z] at b' ⊢
      have := hv i b'
      omega
    · rw [if_neg z] at b' ⊢; exact c8 s hs i b'
  · show up x.bk u (vend sp 0 tm P) s < 2 ^ 30
    rw [up_d]
    split
    · omega
    · exact c9 s hs
  · have e' : up x.tp u (fun i => pl (gd P i)) s i = up x.tp u (fun i => pl (gd P i)) s' j := e
    rcases T s i hs a b with ⟨z, y, f⟩ | ⟨z, y1, y2, f⟩
    · rcases T s' j hs' c d with ⟨z', y', f'⟩ | ⟨z', y1', y2', f'⟩
      · rw [f, f'] at e'
        have k := hC.d _ _ (hPn i y) (hPn j y') e'
        exact ⟨by rw [z, z'], gd_inj P hPd i j (by omega) (by omega) k⟩
      · rw [f, f'] at e'
        exact absurd e' (X i s' j y hs' y1' y2')
    · rcases T s' j hs' c d with ⟨z', y', f'⟩ | ⟨z', y1', y2', f'⟩
      · rw [f, f'] at e'
        exact absurd e'.symm (X j s i y' hs y1 y2)
      · rw [f, f'] at e'
        exact c10 s i s' j hs hs' y1 y2 y1' y2' e'
  · show wn j = -1 ∨ ∃ u, u < 2 ∧ wn j = nI u
    rcases hC.v j with ⟨_, y⟩ | ⟨_, y⟩
    · exact Or.inr ⟨u, hu, y⟩
    · rw [y]; exact c12 j hj h8
  · show wn (up x.tp u (fun i => pl (gd P i)) s i) = nI s
    rcases T s i hs a b with ⟨z, y, e⟩ | ⟨z, y1, y2, e⟩
    · rw [e, z]
      rcases hC.v (pl (gd P i)) with ⟨_, k⟩ | ⟨k, _⟩
      · exact k
      · exact absurd rfl (k (gd P i) (hPn i y))
    · rw [e]
      rcases hC.v (x.tp s i) with ⟨⟨i', k1, k2⟩, _⟩ | ⟨_, k⟩
      · have y := (hC.p i' k1).2.2
        rw [k2, c13 s hs i y1 y2] at y
        exact absurd y (nI_neg2 (k := s) (by omega)).1
      · rw [k]; exact c13 s hs i y1 y2
theorem tour_al (hq : q < 2 ^ 15) (h : Sm q B N1 b N2) : cp_337_0 v1 N1 ∧ cp_565_0 v1 N2 ∧ cal (q + 1) B b N1 N2 (cf_337_0 v1 N1) (cf_565_0 v1 N2) := by
  obtain ⟨p1, c1⟩ := in_l 0 1 (by omega) (by omega) v1 (w0 := 0) (w := 1) (g0 := 0) (g := 1) rfl rfl rfl rfl
  rcases Sm_0 h with ⟨hu, u1, u2, F1, Ft, Ff, Fs, F3, F4⟩ | ⟨u1, u2, F1, Fd, F3, F4⟩
  · rcases c1 with ⟨u, _, hu1, rfl, i1, j1⟩ | ⟨i1, j1⟩
    · obtain ⟨p, C, s, D, H, x, L, R, h1, h2, h3, h4, h5, h6⟩ := id hu
      have hu2 : u < 2 := by omega
      have a1 : nI u &&& 1 = nI u := by rcases (show u = 0 ∨ u = 1 by omega) with w | w <;> rw [w] <;> rfl
      have cu : (nI u).toNatClampNeg = u := nI_clamp (by omega)
      have ib2 : mz_ib (nI u) 2 := ib_n hu2 (by omega)
      have cc := h3.cs.cc
      have cr := h3.cs.cr
      have ci := h3.iv.ci
      obtain ⟨vs6, vd6, vsd⟩ := ci.vs u hu2
      have g133 : mz_gI N1 133 (nI u) = nI (x.vs u) := by rw [gI_a, cu]; exact (cc.vs u hu2).1
      by_cases w : x.vs u = 0
      · have z133 : mz_gI N1 133 (nI u) = 0 := by rw [g133, w]; rfl
        have g298 : mz_gL N2 298 (nI u) = -1 := by rw [gL_a, cu]; exact cr.fr u hu2 w
        have l0 : (-1 : Int64) < 0 := by decide
        have k12 := h3.cs.ks.kc.2.2.2.2.2.2.2.2.2.2.2.2.2.1
        have r12 := h3.cs.ks.kr.2.2.2.2.2.2.2.2.2.2.2.2.2.1
        have k11 := h3.cs.ks.kc.2.2.2.2.2.2.2.2.2.2.2.2.1
        have r11 := h3.cs.ks.kr.2.2.2.2.2.2.2.2.2.2.2.2.1
        have k9 := h3.cs.ks.kc.2.2.2.2.2.2.2.2.2.2.1
        have r9 := h3.cs.ks.kr.2.2.2.2.2.2.2.2.2.2.1
        have hb : ∀ j, H.1 8 j ≤ 1 := h3.cs.ks.hb.2.2.2.2.2.2.2.2.2.1
        obtain ⟨tm, t1, t2, t3⟩ := ci.tm
        have e208 : N1.1 208 0 = nI tm := by rw [k9.1, t2]
        have e2 : (mz_pI N2 232 0 0).2 232 2 = lN tm := by show N2.2 232 2 = _; rw [r9.1, t2, nI_L (by omega)]
        have hW : tkW N1 (mz_pI N2 232 0 0) (H.1 8) (H.1 11) x.wk := ⟨fun j hj => ⟨(k12 j hj).1, fun z => ⟨((k12 j hj).2 z).2.2.1, cc.wk j hj z⟩⟩, fun j hj => ⟨(r12 j hj).1, fun z => ⟨((r12 j hj).2 z).2.2.1, cr.wk j hj z⟩⟩, hb, fun j hj z => (h3.iv.kb.tf j hj z).2.2, fun j hj z => by
          rcases ci.wk j hj z with y | ⟨t, y1, y2⟩
          · exact Or.inl y
          · rw [y2]; exact Or.inr (nI_neg2 (k := t) (by omega)).2⟩
        have tb : tkB N1 (mz_pI N2 232 0 0) (H.1 8) (H.2.1 11) := ⟨fun j hj => ⟨(k12 j hj).1, fun z => ((k12 j hj).2 z).2.2.2.2⟩, fun j hj => ⟨(r12 j hj).1, fun z => ((r12 j hj).2 z).2.2.2.2⟩, hb⟩
        have hst : ∀ k, k < 3 → N1.1 127 k = (mz_pI N2 232 0 0).1 306 k := fun k hk => by
          show N1.1 127 k = N2.1 306 k
          rw [(k11 k hk).2.2.1, (r11 k hk).2.2.1]
        -- what a choice leads to in the reference
        have SP : ∀ n pl wn M1 M2, Chs N1 (mz_pI N2 232 0 0) u (H.1 8) (H.1 11) x.wk n pl wn M1 M2 → spX M1 n pl (fun j => if j < n then 48 * H.1 9 (pl j) + H.1 10 (pl j) else 0) ∧ spR M2 n pl (fun j => if j < n then 48 * H.1 9 (pl j) + H.1 10 (pl j) else 0) ∧ ∀ j, (if j < n then 48 * H.1 9 (pl j) + H.1 10 (pl j) else 0) < 240 := fun n pl wn M1 M2 hC => by
          have K : ∀ i, i < n → pl i < 16 ∧ H.1 8 (pl i) = 1 ∧ H.1 9 (pl i) < 5 ∧ H.1 10 (pl i) < 48 := fun i hi => by
            obtain ⟨y1, y2, _⟩ := hC.p i hi
            have y3 := h3.iv.kb.tf (pl i) y1 y2
            exact ⟨y1, y2, y3.1, y3.2.1⟩
          refine ⟨fun i hi => ?_, fun i hi => ?_, fun j => ?_⟩
          · obtain ⟨y1, y2, y3, y4⟩ := K i hi
            obtain ⟨m1, m2, _⟩ := (k12 (pl i) y1).2 y2
            refine ⟨(hC.a i hi).1, y1, ?_, ?_, ?_⟩
            · show (if i < n then _ else _) < 240
              rw [if_pos hi]; omega
            · rw [hC.f1.1 118 rfl, m1]
              show nI _ = nI ((if i < n then _ else _) / 48)
              rw [if_pos hi, show (48 * H.1 9 (pl i) + H.1 10 (pl i)) / 48 = H.1 9 (pl i) by omega]
            · rw [hC.f1.1 119 rfl, m2]
              show nI _ = nI ((if i < n then _ else _) % 48)
              rw [if_pos hi, show (48 * H.1 9 (pl i) + H.1 10 (pl i)) % 48 = H.1 10 (pl i) by omega]
          · obtain ⟨y1, y2, y3, y4⟩ := K i hi
            obtain ⟨m1, m2, _⟩ := (r12 (pl i) y1).2 y2
            refine ⟨(hC.a i hi).2.1, y1, ?_, ?_, ?_⟩
            · show (if i < n then _ else _) < 240
              rw [if_pos hi]; omega
            · rw [hC.f2.1 288 rfl]
              show N2.1 288 (pl i) = nI ((if i < n then _ else _) / 48)
              rw [m1, if_pos hi, show (48 * H.1 9 (pl i) + H.1 10 (pl i)) / 48 = H.1 9 (pl i) by omega]
            · rw [hC.f2.1 289 rfl]
              show N2.1 289 (pl i) = nI ((if i < n then _ else _) % 48)
              rw [m2, if_pos hi, show (48 * H.1 9 (pl i) + H.1 10 (pl i)) % 48 = H.1 10 (pl i) by omega]
          · split
            · rename_i hi
              obtain ⟨y1, y2, y3, y4⟩ := K j hi
              omega
            · omega
        have he : ∀ n pl wn M1 M2, Chs N1 (mz_pI N2 232 0 0) u (H.1 8) (H.1 11) x.wk n pl wn M1 M2 → cp_565_149 (nI u) (nI n) M2 := fun n pl wn M1 M2 hC => by
          by_cases z : n = 0
          · rw [cp_565_149, z]; exact ⟨fun _ => trivial, fun y => absurd rfl y⟩
          · obtain ⟨_, s2, s3⟩ := SP n pl wn M1 M2 hC
            exact (full_r s2 s3 (by omega) hC.c6 hu2 t1 (by rw [hC.f2.2 232 rfl]; exact e2) (fun i hi => (hC.a i hi).2.2)).1
        obtain ⟨d1, d2, d3, n, pl, wn, M1, M2, d4, d5, hC⟩ := chs_l hu2 tb hW hst (fun i j a c d e f => h3.iv.ds i j a c d e f) he
        have n6 := hC.c6
        have R1 : cf_565_0 (nI u) N2 = cf_565_149 (nI u) (nI n) M2 := by rw [cf_565_0, a1, g298, if_pos l0, j1, cf_565_26, Ft, if_neg (fun z => by cases z)]; exact d5
        have R2 : cp_565_0 (nI u) N2 := by
          rw [cp_565_0, a1, g298, j1]
          refine ⟨ib2, fun _ => ?_, fun z => absurd l0 z⟩
          rw [cp_565_26, Ft]
          exact ⟨F1 _ _, (fun z => by cases z), fun _ => ⟨d2, d3⟩⟩
        have C1 : cf_337_0 (nI u) N1 = (0, (cf_338_0 (nI u) (nI tm) N1).1, (cf_338_0 (nI u) (nI tm) N1).2) := by
          simp only [cf_337_0, cf_337_27, cf_187_0, u2, i1, z133, if_true, e208]
        have C2 : cp_338_0 (nI u) (nI tm) N1 → cp_337_0 (nI u) N1 := fun z => by
          simp [cp_337_0, cp_337_27, cf_187_0, u1, u2, p1, i1, ib2, z133, e208, z]
        rw [R1, C1]
        by_cases n0 : n = 0
        · have q0 : (cf_339_0 (nI u) N1).1 = 0 := by rw [d4, n0]; rfl
          have C3 : cf_338_0 (nI u) (nI tm) N1 = (0, M1) := by rw [cf_338_0, if_pos q0, d4]
          have C4 : cp_338_0 (nI u) (nI tm) N1 := by rw [cp_338_0]; exact ⟨d1, fun _ => trivial, fun z => absurd q0 z⟩
          have R3 : cf_565_149 (nI u) (nI n) M2 = (0, M2) := by rw [cf_565_149, n0, if_pos (show nI 0 = 0 from rfl)]
          rw [C3, R3]
          refine ⟨C2 C4, R2, ?_⟩
          have ew : ∀ j, wn j = x.wk j := fun j => by
            rcases hC.v j with ⟨⟨i, y, _⟩, _⟩ | ⟨_, y⟩
            · omega
            · exact y
          have f1 := hC.f1
          have f2 : fq [232, 293, 299, 301] [] N2 M2 := fq_trans (M := mz_pI N2 232 0 0) (fq_pI (fq_refl _ _ _) rfl) (fq_sub hC.f2 rfl rfl)
          have i2 : ∀ f, f ≠ 0 → M2.1 232 f = N2.1 232 f := fun f g0 => by rw [hC.f2.1 232 rfl, pI_s, sI_e, up_a, if_neg g0]
          have h0 : M2.1 232 0 = 0 := by rw [hC.f2.1 232 rfl]; exact code_0
          have mr : MR p C s D H x L M1 b M2 := by
            refine ⟨⟨KS_B h3.cs.ks (stK_of f1 f2 rfl rfl (fun f hf => i2 f (by omega)) (by rw [f2.2 232 rfl])) rfl (ckp_q h3.cs.ks.kc f1 rfl rfl) (rkp_q h3.cs.ks.kr f2 rfl rfl (i2 27 (by decide)) (i2 21 (by decide)) (fun f _ => by rw [f2.2 232 rfl])), ?_, ?_⟩, LR_q h3.lr f1 f2 rfl rfl rfl rfl (fun f hf => i2 f (by omega)) (fun f _ => by rw [f2.2 232 rfl]), h3.iv⟩
            · obtain ⟨b1', b2, b3, b4, b5, b6, b7⟩ := cc
              refine ⟨fun j hj z => ?_, by rw [f1.1 115 rfl]; exact b2, by rw [f1.1 115 rfl]; exact b3, by rw [f1.1 130 rfl, f1.1 131 rfl, f1.1 132 rfl]; exact b4, by rw [f1.1 133 rfl, f1.1 134 rfl]; exact b5, fun t ht => ?_, by rw [f1.1 141 rfl]; exact b7⟩
              · rw [((hC.w.c j hj).2 z).2]; exact ew j
              · have e1 : M1.1 (136 + t) = N1.1 (136 + t) := by rcases (show t = 0 ∨ t = 1 by omega) with w | w <;> rw [w] <;> exact f1.1 _ rfl
                have e2 : M1.1 (139 + t) = N1.1 (139 + t) := by rcases (show t = 0 ∨ t = 1 by omega) with w | w <;> rw [w] <;> exact f1.1 _ rfl
                rw [e1, e2]; exact b6 t ht
            · obtain ⟨b1', b2, b3, b4, b5, b6, b7⟩ := cr
              refine ⟨fun j hj z => ?_, by rw [f2.2 232 rfl]; exact b2, by rw [i2 96 (by decide)]; exact b3, by rw [f2.1 302 rfl, f2.1 303 rfl, f2.2 304 rfl]; exact b4, by rw [f2.2 298 rfl]; exact b5, by rw [f2.1 296 rfl, f2.1 297 rfl, f2.2 298 rfl]; exact b6, by rw [f2.1 294 rfl, f2.2 295 rfl]; exact b7⟩
              rw [((hC.w.r j hj).2 z).2]; exact ew j
          exact cal_u h0 rfl (oF_q f1 f2 rfl rfl rfl rfl) (up_f (by omega) h2 mr h4 (rsF_q f1 f2 rfl rfl rfl (fun f hf => i2 f (rsI_ne hf rfl))) rfl rfl (by omega) (by omega))
        · obtain ⟨s1, s2, s3'⟩ := SP n pl wn M1 M2 hC
          have s3 : ∀ j, (fun j => if j < n then 48 * H.1 9 (pl j) + H.1 10 (pl j) else 0) j < 240 := s3'
          clear s3'
          generalize (fun j => if j < n then 48 * H.1 9 (pl j) + H.1 10 (pl j) else 0) = sp at s1 s2 s3
          have nn : ¬ nI n = 0 := fun z => n0 ((nI_eq0 (by omega)).mp z)
          -- the class
          obtain ⟨y1, y2, y3, y4⟩ := ways_c s1 s3 (by omega) n6
          generalize hA : cf_341_0 (nI n) M1 = A at y2 y3 y4
          have sA : spX A n pl sp := spX_f s1 (y2 142 (by omega)) (y2 118 (by omega)) (y2 119 (by omega))
          have fA : fq [133, 134] [] A (mz_wI (mz_wI A 133 (nI u) (nI n)) 134 (nI u) 0) := fq_wI (fq_wI (fq_refl _ _ _) rfl) rfl
          have x133 : ∀ j, (mz_wI (mz_wI A 133 (nI u) (nI n)) 134 (nI u) 0).1 133 j = if j = u then nI n else N1.1 133 j := fun j => by
            rw [wI_s, sI_n (by decide), wI_s, sI_e, cu, up_a, y2 133 (by omega), hC.f1.1 133 rfl]
          have x134 : ∀ j, (mz_wI (mz_wI A 133 (nI u) (nI n)) 134 (nI u) 0).1 134 j = if j = u then 0 else N1.1 134 j := fun j => by
            rw [wI_s, sI_e, cu, up_a, wI_s, sI_n (by decide), y2 134 (by omega), hC.f1.1 134 rfl]
          generalize hE : mz_wI (mz_wI A 133 (nI u) (nI n)) 134 (nI u) 0 = E at fA x133 x134
          have sE : spX E n pl sp := spX_f sA (fA.1 142 rfl) (fA.1 118 rfl) (fA.1 119 rfl)
          obtain ⟨z1, P, zP, z2, z3, z4, z5, z6, z7⟩ := lay_t sE s3 (by omega) n6 hu2 t1 (fun k a c => bst_f (y4 k a c) (by
            have p64 : 2 ^ n ≤ 64 := by rcases (show n = 1 ∨ n = 2 ∨ n = 3 ∨ n = 4 ∨ n = 5 ∨ n = 6 by omega) with w | w | w | w | w | w <;> subst w <;> decide
            refine fA.1 (144 + k) ?_
            have k1 : 144 + k ≠ 133 := by omega
            have k2 : 144 + k ≠ 134 := by omega
            simp [k1, k2]))
          generalize hK : cf_346_0 (nI u) (nI n) (nI tm) E = K1 at z3 z4 z5 z6
          have q0 : ¬ (cf_339_0 (nI u) N1).1 = 0 := by rw [d4]; exact nn
          have C3 : cf_338_0 (nI u) (nI tm) N1 = (nI n, K1) := by rw [cf_338_0, if_neg q0, d4, cf_338_31, hA, hE, hK]
          have C4 : cp_338_0 (nI u) (nI tm) N1 := by
            rw [cp_338_0, d4]
            refine ⟨d1, fun z => absurd z nn, fun _ => ⟨y1, ib2, ib2, ?_⟩⟩
            show cp_346_0 (nI u) (nI n) (nI tm) (mz_wI (mz_wI (cf_341_0 (nI n) M1) 133 (nI u) (nI n)) 134 (nI u) 0)
            rw [hA, hE]; exact z1
          -- the reference
          obtain ⟨w1, Q, K2, w2, w3, w4⟩ := full_r s2 s3 (by omega) n6 hu2 t1 (by rw [hC.f2.2 232 rfl]; exact e2) (fun i hi => (hC.a i hi).2.2)
          rw [← zP] at w4
          have hPd : P.Nodup := by rw [zP]; exact (GP_nd (by omega) _ 0 0 (by omega) rfl).1
          rw [C3, w2]
          refine ⟨C2 C4, R2, ?_⟩
          have f1 : fq tcA [] N1 K1 := by
            refine fq_trans (M := M1) (fq_sub hC.f1 rfl rfl) (fq_trans (M := A) ⟨fun c hc => y2 c (tcA_o hc), fun c _ => by rw [y3]⟩ (fq_trans (M := E) (fq_sub fA rfl rfl) (fq_sub z3 rfl rfl)))
          have f2 : fq [232, 293, 294, 296, 297, 299, 300, 301] [295, 298] N2 K2 := fq_trans (M := mz_pI N2 232 0 0) (fq_pI (fq_refl _ _ _) rfl) (fq_trans (M := M2) (fq_sub hC.f2 rfl rfl) (fq_trans (M := Q) (fq_sub w3 rfl rfl) (fq_sub w4.f rfl rfl)))
          have k232 : K2.1 232 = (mz_pI N2 232 0 0).1 232 := by rw [w4.f.1 232 rfl, w3.1 232 rfl, hC.f2.1 232 rfl]
          have i2 : ∀ f, f ≠ 0 → K2.1 232 f = N2.1 232 f := fun f g0 => by rw [k232, pI_s, sI_e, up_a, if_neg g0]
          have h0 : K2.1 232 0 = 0 := by rw [k232]; exact code_0
          have l2 : K2.2 232 = N2.2 232 := f2.2 232 rfl
          have e133 : K1.1 133 = E.1 133 := z3.1 133 rfl
          have e134 : K1.1 134 = E.1 134 := z3.1 134 rfl
          have kz : zv K1 := fun t ht => by
            rw [e134, x134]
            by_cases z : t = u
            · rw [if_pos z]; exact ⟨0, by omega, rfl⟩
            · rw [if_neg z]; exact h3.cs.ks.zv t ht
          have hk := h3.cs.ks
          have Mo : ∀ t, t < 2 → t ≠ u → K1.1 (136 + t) = N1.1 (136 + t) ∧ K1.1 (139 + t) = N1.1 (139 + t) := fun t ht z => by
            have k1 := z4 (136 + t) (by omega) (by omega) (by omega)
            have k2 := z4 (139 + t) (by omega) (by omega) (by omega)
            have m1 : ∀ c, c = 136 ∨ c = 137 ∨ c = 139 ∨ c = 140 → E.1 c = N1.1 c := fun c hc => by
              have a1 : E.1 c = A.1 c := fA.1 c (by rcases hc with w | w | w | w <;> rw [w] <;> rfl)
              have a2 : M1.1 c = N1.1 c := hC.f1.1 c (by rcases hc with w | w | w | w <;> rw [w] <;> rfl)
              rw [a1, y2 c (by omega), a2]
            exact ⟨k1.trans (m1 _ (by omega)), k2.trans (m1 _ (by omega))⟩
          have e141 : ∀ t, K1.1 141 t = if t = u then nI (vend sp 0 tm P) else N1.1 141 t := fun t => by
            rw [z6, up_a, fA.1 141 rfl, y2 141 (by omega), hC.f1.1 141 rfl]
          have hci : CI (p + 1) false H (toX x u n wn pl sp tm P) := toX_ci ci hu2 w rfl hC z2 (fun i hi => (z5 i hi).2.1) hPd t1 (fun i hi => (z5 i hi).2.2.2) z7
          have q122 : ∀ j, j < 16 → H.1 8 j = 1 → K1.1 122 j = wn j := fun j hj z => by
            rw [z3.1 122 rfl, fA.1 122 rfl, y2 122 (by omega)]; exact ((hC.w.c j hj).2 z).2
          have q293 : ∀ j, j < 16 → H.1 8 j = 1 → K2.1 293 j = wn j := fun j hj z => by
            rw [w4.f.1 293 rfl, w3.1 293 rfl]; exact ((hC.w.r j hj).2 z).2
          have q294 : Q.1 294 = N2.1 294 := by rw [w3.1 294 rfl, hC.f2.1 294 rfl]; rfl
          have q295 : Q.2 295 = N2.2 295 := by rw [w3.2 295 rfl, hC.f2.2 295 rfl]; rfl
          have q296 : Q.1 296 = N2.1 296 := by rw [w3.1 296 rfl, hC.f2.1 296 rfl]; rfl
          have q297 : Q.1 297 = N2.1 297 := by rw [w3.1 297 rfl, hC.f2.1 297 rfl]; rfl
          have q298 : Q.2 298 = N2.2 298 := by rw [w3.2 298 rfl, hC.f2.2 298 rfl]; rfl
          have mr : MR (p + 1) C s D H (toX x u n wn pl sp tm P) L K1 b K2 := by
            refine ⟨⟨⟨hk.ok, st_cF hk.c (f1.1 221 rfl) (f1.1 222 rfl) (f1.1 223 rfl) (f1.1 224 rfl) (fun f _ _ => by rw [f1.1 219 rfl]), st_rF hk.r (f2.1 329 rfl) (f2.1 330 rfl) (f2.1 331 rfl) (fun f hf => i2 f (by omega)) (by rw [l2]), ckp_q hk.kc f1 rfl rfl, rkp_q hk.kr f2 rfl rfl (i2 27 (by decide)) (i2 21 (by decide)) (fun f _ => by rw [l2]), hk.hb, kz⟩, ?_, ?_⟩, LR_m (by omega) (LR_q h3.lr f1 f2 rfl rfl rfl rfl (fun f hf => i2 f (by omega)) (fun f _ => by rw [l2])), ?_⟩
            · obtain ⟨b1', b2, b3, b4, b5, b6, b7⟩ := cc
              refine ⟨q122, by rw [f1.1 115 rfl]; exact b2, by rw [f1.1 115 rfl]; exact b3, by rw [f1.1 130 rfl, f1.1 131 rfl, f1.1 132 rfl]; exact b4, fun t ht => ?_, fun t ht i hi => ?_, fun t ht hv => ?_⟩
              · show K1.1 133 t = nI (up x.vs u n t) ∧ K1.1 134 t = nI (up x.vd u 0 t)
                rw [e133, e134, x133, x134, up_d, up_d]
                by_cases z : t = u
                · rw [if_pos z, if_pos z, if_pos z, if_pos z]; exact ⟨rfl, rfl⟩
                · rw [if_neg z, if_neg z, if_neg z, if_neg z]; exact b5 t ht
              · show K1.1 (136 + t) i = nI (up x.tp u (fun i => pl (gd P i)) t i) ∧ K1.1 (139 + t) i = nI (up x.tt u (fun i => gd (vtm sp 0 tm P) i) t i)
                have hi' : i < up x.vs u n t := hi
                rw [up_d] at hi'
                rw [up_d, up_d]
                by_cases z : t = u
                · rw [if_pos z] at hi'
                  rw [if_pos z, if_pos z, z]
                  exact ⟨(z5 i hi').1, (z5 i hi').2.2.1⟩
                · rw [if_neg z] at hi'
                  rw [if_neg z, if_neg z, (Mo t ht z).1, (Mo t ht z).2]
                  exact b6 t ht i hi'
              · show K1.1 141 t = nI (up x.bk u (vend sp 0 tm P) t)
                have hv' : 0 < up x.vs u n t := hv
                rw [up_d] at hv'
                rw [e141, up_d]
                by_cases z : t = u
                · rw [if_pos z, if_pos z]
                · rw [if_neg z] at hv'
                  rw [if_neg z, if_neg z]; exact b7 t ht hv'
            · obtain ⟨b1', b2, b3, b4, b5, b6, b7⟩ := cr
              refine ⟨q293, by rw [l2]; exact b2, by rw [i2 96 (by decide)]; exact b3, by rw [f2.1 302 rfl, f2.1 303 rfl, f2.2 304 rfl]; exact b4, fun t ht hv => ?_, fun t ht hv => ?_, fun t ht i hi => ?_⟩
              · have hv' : up x.vs u n t = 0 := hv
                rw [up_d] at hv'
                rw [w4.e, q298]
                by_cases z : t = u
                · rw [if_pos z] at hv'; exact absurd hv' n0
                · rw [if_neg z] at hv' ⊢; exact b5 t ht hv'
              · show K2.1 296 t = nI (up x.vs u n t) ∧ K2.1 297 t = nI (up x.vd u 0 t) ∧ K2.2 298 t = lN (up x.bk u (vend sp 0 tm P) t)
                have hv' : 0 < up x.vs u n t := hv
                rw [up_d] at hv'
                rw [w4.v.1, w4.v.2, w4.e, up_a, up_a, up_d, up_d, up_d, q296, q297, q298]
                by_cases z : t = u
                · rw [if_pos z, if_pos z, if_pos z, if_pos z, if_pos z, if_pos z]; exact ⟨rfl, rfl, rfl⟩
                · rw [if_neg z] at hv'
                  rw [if_neg z, if_neg z, if_neg z, if_neg z, if_neg z, if_neg z]; exact b6 t ht hv'
              · show K2.1 294 (6 * t + i) = nI (up x.tp u (fun i => pl (gd P i)) t i) ∧ K2.2 295 (6 * t + i) = lN (up x.tt u (fun i => gd (vtm sp 0 tm P) i) t i)
                have hi' : i < up x.vs u n t := hi
                rw [up_d] at hi'
                rw [up_d, up_d]
                by_cases z : t = u
                · rw [if_pos z] at hi'
                  rw [if_pos z, if_pos z, z]
                  exact ⟨(w4.a i hi').1, (w4.a i hi').2.1⟩
                · rw [if_neg z] at hi'
                  have v6 := (ci.vs t ht).1
                  obtain ⟨o1, o2⟩ := w4.o (6 * t + i) (by omega)
                  rw [if_neg z, if_neg z, o1, o2, q294, q295]
                  exact b7 t ht i hi'
            · obtain ⟨d1, d2, d3, d4, d5, d6, d7, d8⟩ := h3.iv
              exact ⟨Jd_m (by omega) d1, KB_m (by omega) d2, d3, d4, d5, d6, hci, by have e : x.nn ≤ 1000000000 + 4 * p := d8; show x.nn + 0 ≤ _; omega⟩
          exact cal_u h0 rfl (oF_q f1 f2 rfl rfl rfl rfl) (up_f (by omega) h2 mr h4 (rsF_q f1 f2 rfl rfl rfl (fun f hf => i2 f (rsI_ne hf rfl))) rfl rfl (by omega) (by omega))
      · have z133 : ¬ mz_gI N1 133 (nI u) = 0 := by rw [g133]; exact fun z => w ((nI_eq0 (by omega)).mp z)
        obtain ⟨_, _, r3⟩ := cr.vs u hu2 (by omega)
        have bk := ci.bk u hu2
        have g298 : mz_gL N2 298 (nI u) = lN (x.bk u) := by rw [gL_a, cu]; exact r3
        have l0 : ¬ lN (x.bk u) < 0 := lN_n0 (by omega)
        refine ⟨by simp [cp_337_0, cp_337_27, cf_187_0, u1, u2, p1, i1, ib2, z133], ?_, cal_m (by omega) (Nat.le_refl _) (Sm_r (a := 0) (a' := 0) h (Or.inr rfl) (by simp [cf_337_0, cf_337_27, cf_187_0, u2, i1, z133]) ?_)⟩
        · rw [cp_565_0, a1, g298, j1]
          refine ⟨ib2, fun z => absurd z l0, fun _ => ?_⟩
          rw [cp_565_26, Fs]
          exact ⟨F1 _ _, fun _ => trivial, fun z => absurd rfl z⟩
        · rw [cf_565_0, a1, g298, if_neg l0, j1, cf_565_26, Fs, if_pos rfl]
    · refine ⟨by simp [cp_337_0, u1, u2, p1, i1], ?_, cal_m (by omega) (Nat.le_refl _) (Sm_r (a := 0) (a' := 0) h (Or.inl rfl) (by simp [cf_337_0, u2, i1]) ?_)⟩
      · rw [cp_565_0, j1]
        refine ⟨and1_b _, fun _ => ?_, fun _ => ?_⟩ <;> rw [cp_565_26, Ff] <;> exact ⟨F1 _ _, fun _ => trivial, fun z => absurd rfl z⟩
      · rw [cf_565_0, j1, cf_565_26, Ff, cf_565_26, Ff]
        simp
  · refine ⟨by simp [cp_337_0, u1, u2], ?_, cal_m (by omega) (Nat.le_refl _) (Sm_r (a := 0) (a' := 0) h (Or.inr rfl) (by simp [cf_337_0, u2]) ?_)⟩
    · rw [cp_565_0]
      refine ⟨and1_b _, fun _ => ?_, fun _ => ?_⟩ <;> rw [cp_565_26, Fd] <;> exact ⟨F1 _ _, fun _ => trivial, fun z => absurd rfl z⟩
    · rw [cf_565_0, cf_565_26, Fd, cf_565_26, Fd]
      simp
end To
