/-! PURE (50v): both write a group: the answers, stores and durable things stay alike. -/
/-- a store that is up, and the house that it tells -/
def S_ok (B : Nat) (s : st_S) (D : Kp) : Prop := st_I B s ∧ st_D s.2.2.2.2.2.1 s.2.2.2.2.2.2 D
theorem group_ok {N1 N2 : mz_N} {b : Bool} {B gc : Nat} {s : st_S} {D H : Kp} {gk : Nat → Nat} (hB : B + 1 < 2 ^ 30) (hs : S_ok B s D) (hc : st_c N1 s) (hr : st_r N2 s) (kc : c_kp N1 b H) (kr : r_kp N2 H) (hH : kpb H) (g1 : gr_c N1 gk gc) (g2 : gr_r N2 gk gc) (hgc : gc ≤ 16) (ht : ∀ i, i < gc → kxt H (kdk (gk i)) (ixk (gk i))) (hl : ∀ i, i < gc → kpl H (kdk (gk i)) (ixk (gk i))) (hx : gtx gk gc) :
    cp_121_0 N1 b ∧ cp_474_0 N2 ∧ ∃ w K1 K2, cf_121_0 N1 b = (w, K1) ∧ cf_474_0 N2 = (w, K2) ∧ fr [219, 221, 222, 223, 224, 225, 227] N1 K1 ∧ rdf N2 K2 ∧
      (w = true → ∃ s', st_c K1 s' ∧ st_r K2 s' ∧ S_ok (B + 1) s' (DG gk D H gc)) ∧
      (w = false → ∃ d, c_dk d K1 ∧ r_dk d K2 ∧ K1.1 219 7 = 1 ∧ K2.1 232 137 = 1 ∧ dk_I (B + 1) d s.2.2.2.2.2.1 s.2.2.2.2.2.2) := by
  obtain ⟨hI, hD⟩ := hs
  have hgk : ∀ i, i < gc → gk i < 135 := fun i hi => (g1.2 i hi).2
  have hxb : ∀ k j, xk H k j < 256 := fun k j => kx_lt hH _ _ _
  obtain ⟨p1, K1, p2, p3, p4⟩ := wg_c (x := xk H) (gk := gk) (b := b) (show B < 2 ^ 30 by omega) hgc hI.1 hc g1.1 g1.2 (fun i hi => enc_c hH kc (hgk i hi) (ht i hi)) hxb
  obtain ⟨q1, K2, q2, q3, q4, q5⟩ := wg_r (x := xk H) (gk := gk) (show B < 2 ^ 30 by omega) hgc hI.1 hr g2.1 g2.2 (fun i hi => enc_r hH kr (hgk i hi) (ht i hi)) hxb
  obtain ⟨w1, w2⟩ := wgr_I (gk := gk) (gc := gc) (x := xk H) hI (by omega) hgc hgk hxb
  refine ⟨p1, q1, (wgr gk gc (xk H) s).1, K1, K2, p2, q2, ?_, q3, fun w => ?_, fun w => ?_⟩
  · cases w : (wgr gk gc (xk H) s).1 with
    | true => exact (p3 w).2
    | false => exact fr_sub (p4 w).2.2 rfl
  · obtain ⟨y1, y2, y3⟩ := w1 w
    refine ⟨_, (p3 w).1, q4 w, y1, ?_⟩
    rw [y2, y3]
    exact st_DG hD hH hgk ht hl hx
  · exact ⟨_, (p4 w).1, (q5 w).1, (p4 w).2.1, (q5 w).2, w2 w⟩
