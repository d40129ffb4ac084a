/-! PURE (50zzzzzb): keys that a telling leaves alone (made by wip/gen/kgo.py). -/
section Kg
variable {H G : Kp} {l : List (Nat × Nat)}
theorem kgo_l {kd0 : Nat} {p : Nat → Prop} (hn : ∀ kd jx, 1 ≤ kd → kd ≤ 15 → (kd < 8 ∨ 12 ≤ kd) → kd ≠ kd0 → kag H G kd jx) (hm : ∀ jx, p jx → (kd0, jx) ∈ l) (hs : ∀ jx, ¬ p jx → kag H G kd0 jx) : ∀ k, k < 135 → (kdk k < 8 ∨ 12 ≤ kdk k) → (¬ ∃ i, i < l.length ∧ gkl l i = k) → kag H G (kdk k) (ixk k) := fun k hk hw hh => by
  obtain ⟨b1', b2, _⟩ := kdk_ok k hk
  by_cases w : kdk k = kd0
  · rw [w]
    refine hs _ (fun z => hh ?_)
    obtain ⟨i, h1, h2⟩ := gkl_m (hm _ z)
    refine ⟨i, h1, h2.trans ?_⟩
    show kyo kd0 (ixk k) = k
    rw [← w]; exact kyo_of k hk
  · exact hn _ _ b1' b2 hw w
theorem kgn_1 (e1 : ∀ f, f ≠ 0 → G.1 f = H.1 f) (e2 : ∀ f, G.2.1 f = H.2.1 f) : ∀ kd jx, 1 ≤ kd → kd ≤ 15 → (kd < 8 ∨ 12 ≤ kd) → kd ≠ 1 → kag H G kd jx := fun kd jx b1' b2 hw hn => by
  rcases (show kd = 2 ∨ kd = 3 ∨ kd = 4 ∨ kd = 5 ∨ kd = 6 ∨ kd = 7 ∨ kd = 12 ∨ kd = 13 ∨ kd = 14 ∨ kd = 15 by omega) with w | w | w | w | w | w | w | w | w | w <;> subst w
  · exact fun j _ _ => by rw [e1 1 (by decide)]
  · exact fun j _ _ => by rw [e1 2 (by decide)]
  · exact fun j _ _ => by rw [e2 0 ]
  · exact fun j _ _ => by rw [e1 3 (by decide)]
  · exact (show if jx = 7 then H.1 5 0 = G.1 5 0 else ∀ j, 28 * jx ≤ j → j < 28 * jx + 28 → H.1 4 j = G.1 4 j by rw [e1 5 (by decide), e1 4 (by decide)]; split; rfl; exact fun _ _ _ => rfl)
  · exact (show if jx = 0 then ∀ j, j < 11 → H.2.1 1 j = G.2.1 1 j else ∀ j, j < 11 → H.1 6 j = G.1 6 j by rw [e2 1 , e1 6 (by decide)]; split <;> exact fun _ _ => rfl)
  · exact ⟨by rw [e1 8 (by decide)], fun _ => ⟨by rw [e1 9 (by decide)], by rw [e1 10 (by decide)], by rw [e1 11 (by decide)], by rw [e2 10 ], by rw [e2 11 ]⟩⟩
  · exact ⟨by rw [e1 12 (by decide)], fun _ => ⟨by rw [e1 13 (by decide)], by rw [e1 14 (by decide)]⟩⟩
  · exact ⟨by rw [e1 15 (by decide)], fun _ => ⟨by rw [e1 16 (by decide)], by rw [e1 17 (by decide)], by rw [e1 18 (by decide)], by rw [e2 12 ]⟩⟩
  · exact ⟨by rw [e1 19 (by decide)], fun _ => ⟨by rw [e1 20 (by decide)], by rw [e1 21 (by decide)]⟩⟩
theorem kgn_2 (e1 : ∀ f, f ≠ 1 → G.1 f = H.1 f) (e2 : ∀ f, G.2.1 f = H.2.1 f) : ∀ kd jx, 1 ≤ kd → kd ≤ 15 → (kd < 8 ∨ 12 ≤ kd) → kd ≠ 2 → kag H G kd jx := fun kd jx b1' b2 hw hn => by
  rcases (show kd = 1 ∨ kd = 3 ∨ kd = 4 ∨ kd = 5 ∨ kd = 6 ∨ kd = 7 ∨ kd = 12 ∨ kd = 13 ∨ kd = 14 ∨ kd = 15 by omega) with w | w | w | w | w | w | w | w | w | w <;> subst w
  · exact fun j _ _ => by rw [e1 0 (by decide)]
  · exact fun j _ _ => by rw [e1 2 (by decide)]
  · exact fun j _ _ => by rw [e2 0 ]
  · exact fun j _ _ => by rw [e1 3 (by decide)]
  · exact (show if jx = 7 then H.1 5 0 = G.1 5 0 else ∀ j, 28 * jx ≤ j → j < 28 * jx + 28 → H.1 4 j = G.1 4 j by rw [e1 5 (by decide), e1 4 (by decide)]; split; rfl; exact fun _ _ _ => rfl)
  · exact (show if jx = 0 then ∀ j, j < 11 → H.2.1 1 j = G.2.1 1 j else ∀ j, j < 11 → H.1 6 j = G.1 6 j by rw [e2 1 , e1 6 (by decide)]; split <;> exact fun _ _ => rfl)
  · exact ⟨by rw [e1 8 (by decide)], fun _ => ⟨by rw [e1 9 (by decide)], by rw [e1 10 (by decide)], by rw [e1 11 (by decide)], by rw [e2 10 ], by rw [e2 11 ]⟩⟩
  · exact ⟨by rw [e1 12 (by decide)], fun _ => ⟨by rw [e1 13 (by decide)], by rw [e1 14 (by decide)]⟩⟩
  · exact ⟨by rw [e1 15 (by decide)], fun _ => ⟨by rw [e1 16 (by decide)], by rw [e1 17 (by decide)], by rw [e1 18 (by decide)], by rw [e2 12 ]⟩⟩
  · exact ⟨by rw [e1 19 (by decide)], fun _ => ⟨by rw [e1 20 (by decide)], by rw [e1 21 (by decide)]⟩⟩
theorem kgn_3 (e1 : ∀ f, f ≠ 2 → G.1 f = H.1 f) (e2 : ∀ f, G.2.1 f = H.2.1 f) : ∀ kd jx, 1 ≤ kd → kd ≤ 15 → (kd < 8 ∨ 12 ≤ kd) → kd ≠ 3 → kag H G kd jx := fun kd jx b1' b2 hw hn => by
  rcases (show kd = 1 ∨ kd = 2 ∨ kd = 4 ∨ kd = 5 ∨ kd = 6 ∨ kd = 7 ∨ kd = 12 ∨ kd = 13 ∨ kd = 14 ∨ kd = 15 by omega) with w | w | w | w | w | w | w | w | w | w <;> subst w
  · exact fun j _ _ => by rw [e1 0 (by decide)]
  · exact fun j _ _ => by rw [e1 1 (by decide)]
  · exact fun j _ _ => by rw [e2 0 ]
  · exact fun j _ _ => by rw [e1 3 (by decide)]
  · exact (show if jx = 7 then H.1 5 0 = G.1 5 0 else ∀ j, 28 * jx ≤ j → j < 28 * jx + 28 → H.1 4 j = G.1 4 j by rw [e1 5 (by decide), e1 4 (by decide)]; split; rfl; exact fun _ _ _ => rfl)
  · exact (show if jx = 0 then ∀ j, j < 11 → H.2.1 1 j = G.2.1 1 j else ∀ j, j < 11 → H.1 6 j = G.1 6 j by rw [e2 1 , e1 6 (by decide)]; split <;> exact fun _ _ => rfl)
  · exact ⟨by rw [e1 8 (by decide)], fun _ => ⟨by rw [e1 9 (by decide)], by rw [e1 10 (by decide)], by rw [e1 11 (by decide)], by rw [e2 10 ], by rw [e2 11 ]⟩⟩
  · exact ⟨by rw [e1 12 (by decide)], fun _ => ⟨by rw [e1 13 (by decide)], by rw [e1 14 (by decide)]⟩⟩
  · exact ⟨by rw [e1 15 (by decide)], fun _ => ⟨by rw [e1 16 (by decide)], by rw [e1 17 (by decide)], by rw [e1 18 (by decide)], by rw [e2 12 ]⟩⟩
  · exact ⟨by rw [e1 19 (by decide)], fun _ => ⟨by rw [e1 20 (by decide)], by rw [e1 21 (by decide)]⟩⟩
theorem kgn_4 (e1 : ∀ f, G.1 f = H.1 f) (e2 : ∀ f, f ≠ 0 → G.2.1 f = H.2.1 f) : ∀ kd jx, 1 ≤ kd → kd ≤ 15 → (kd < 8 ∨ 12 ≤ kd) → kd ≠ 4 → kag H G kd jx := fun kd jx b1' b2 hw hn => by
  rcases (show kd = 1 ∨ kd = 2 ∨ kd = 3 ∨ kd = 5 ∨ kd = 6 ∨ kd = 7 ∨ kd = 12 ∨ kd = 13 ∨ kd = 14 ∨ kd = 15 by omega) with w | w | w | w | w | w | w | w | w | w <;> subst w
  · exact fun j _ _ => by rw [e1 0 ]
  · exact fun j _ _ => by rw [e1 1 ]
  · exact fun j _ _ => by rw [e1 2 ]
  · exact fun j _ _ => by rw [e1 3 ]
  · exact (show if jx = 7 then H.1 5 0 = G.1 5 0 else ∀ j, 28 * jx ≤ j → j < 28 * jx + 28 → H.1 4 j = G.1 4 j by rw [e1 5 , e1 4 ]; split; rfl; exact fun _ _ _ => rfl)
  · exact (show if jx = 0 then ∀ j, j < 11 → H.2.1 1 j = G.2.1 1 j else ∀ j, j < 11 → H.1 6 j = G.1 6 j by rw [e2 1 (by decide), e1 6 ]; split <;> exact fun _ _ => rfl)
  · exact ⟨by rw [e1 8 ], fun _ => ⟨by rw [e1 9 ], by rw [e1 10 ], by rw [e1 11 ], by rw [e2 10 (by decide)], by rw [e2 11 (by decide)]⟩⟩
  · exact ⟨by rw [e1 12 ], fun _ => ⟨by rw [e1 13 ], by rw [e1 14 ]⟩⟩
  · exact ⟨by rw [e1 15 ], fun _ => ⟨by rw [e1 16 ], by rw [e1 17 ], by rw [e1 18 ], by rw [e2 12 (by decide)]⟩⟩
  · exact ⟨by rw [e1 19 ], fun _ => ⟨by rw [e1 20 ], by rw [e1 21 ]⟩⟩
theorem kgn_5 (e1 : ∀ f, f ≠ 3 → G.1 f = H.1 f) (e2 : ∀ f, G.2.1 f = H.2.1 f) : ∀ kd jx, 1 ≤ kd → kd ≤ 15 → (kd < 8 ∨ 12 ≤ kd) → kd ≠ 5 → kag H G kd jx := fun kd jx b1' b2 hw hn => by
  rcases (show kd = 1 ∨ kd = 2 ∨ kd = 3 ∨ kd = 4 ∨ kd = 6 ∨ kd = 7 ∨ kd = 12 ∨ kd = 13 ∨ kd = 14 ∨ kd = 15 by omega) with w | w | w | w | w | w | w | w | w | w <;> subst w
  · exact fun j _ _ => by rw [e1 0 (by decide)]
  · exact fun j _ _ => by rw [e1 1 (by decide)]
  · exact fun j _ _ => by rw [e1 2 (by decide)]
  · exact fun j _ _ => by rw [e2 0 ]
  · exact (show if jx = 7 then H.1 5 0 = G.1 5 0 else ∀ j, 28 * jx ≤ j → j < 28 * jx + 28 → H.1 4 j = G.1 4 j by rw [e1 5 (by decide), e1 4 (by decide)]; split; rfl; exact fun _ _ _ => rfl)
  · exact (show if jx = 0 then ∀ j, j < 11 → H.2.1 1 j = G.2.1 1 j else ∀ j, j < 11 → H.1 6 j = G.1 6 j by rw [e2 1 , e1 6 (by decide)]; split <;> exact fun _ _ => rfl)
  · exact ⟨by rw [e1 8 (by decide)], fun _ => ⟨by rw [e1 9 (by decide)], by rw [e1 10 (by decide)], by rw [e1 11 (by decide)], by rw [e2 10 ], by rw [e2 11 ]⟩⟩
  · exact ⟨by rw [e1 12 (by decide)], fun _ => ⟨by rw [e1 13 (by decide)], by rw [e1 14 (by decide)]⟩⟩
  · exact ⟨by rw [e1 15 (by decide)], fun _ => ⟨by rw [e1 16 (by decide)], by rw [e1 17 (by decide)], by rw [e1 18 (by decide)], by rw [e2 12 ]⟩⟩
  · exact ⟨by rw [e1 19 (by decide)], fun _ => ⟨by rw [e1 20 (by decide)], by rw [e1 21 (by decide)]⟩⟩
theorem kgn_6 (e1 : ∀ f, f ≠ 4 → f ≠ 5 → G.1 f = H.1 f) (e2 : ∀ f, G.2.1 f = H.2.1 f) : ∀ kd jx, 1 ≤ kd → kd ≤ 15 → (kd < 8 ∨ 12 ≤ kd) → kd ≠ 6 → kag H G kd jx := fun kd jx b1' b2 hw hn => by
  rcases (show kd = 1 ∨ kd = 2 ∨ kd = 3 ∨ kd = 4 ∨ kd = 5 ∨ kd = 7 ∨ kd = 12 ∨ kd = 13 ∨ kd = 14 ∨ kd = 15 by omega) with w | w | w | w | w | w | w | w | w | w <;> subst w
  · exact fun j _ _ => by rw [e1 0 (by decide) (by decide)]
  · exact fun j _ _ => by rw [e1 1 (by decide) (by decide)]
  · exact fun j _ _ => by rw [e1 2 (by decide) (by decide)]
  · exact fun j _ _ => by rw [e2 0 ]
  · exact fun j _ _ => by rw [e1 3 (by decide) (by decide)]
  · exact (show if jx = 0 then ∀ j, j < 11 → H.2.1 1 j = G.2.1 1 j else ∀ j, j < 11 → H.1 6 j = G.1 6 j by rw [e2 1 , e1 6 (by decide) (by decide)]; split <;> exact fun _ _ => rfl)
  · exact ⟨by rw [e1 8 (by decide) (by decide)], fun _ => ⟨by rw [e1 9 (by decide) (by decide)], by rw [e1 10 (by decide) (by decide)], by rw [e1 11 (by decide) (by decide)], by rw [e2 10 ], by rw [e2 11 ]⟩⟩
  · exact ⟨by rw [e1 12 (by decide) (by decide)], fun _ => ⟨by rw [e1 13 (by decide) (by decide)], by rw [e1 14 (by decide) (by decide)]⟩⟩
  · exact ⟨by rw [e1 15 (by decide) (by decide)], fun _ => ⟨by rw [e1 16 (by decide) (by decide)], by rw [e1 17 (by decide) (by decide)], by rw [e1 18 (by decide) (by decide)], by rw [e2 12 ]⟩⟩
  · exact ⟨by rw [e1 19 (by decide) (by decide)], fun _ => ⟨by rw [e1 20 (by decide) (by decide)], by rw [e1 21 (by decide) (by decide)]⟩⟩
theorem kgn_7 (e1 : ∀ f, f ≠ 6 → G.1 f = H.1 f) (e2 : ∀ f, f ≠ 1 → G.2.1 f = H.2.1 f) : ∀ kd jx, 1 ≤ kd → kd ≤ 15 → (kd < 8 ∨ 12 ≤ kd) → kd ≠ 7 → kag H G kd jx := fun kd jx b1' b2 hw hn => by
  rcases (show kd = 1 ∨ kd = 2 ∨ kd = 3 ∨ kd = 4 ∨ kd = 5 ∨ kd = 6 ∨ kd = 12 ∨ kd = 13 ∨ kd = 14 ∨ kd = 15 by omega) with w | w | w | w | w | w | w | w | w | w <;> subst w
  · exact fun j _ _ => by rw [e1 0 (by decide)]
  · exact fun j _ _ => by rw [e1 1 (by decide)]
  · exact fun j _ _ => by rw [e1 2 (by decide)]
  · exact fun j _ _ => by rw [e2 0 (by decide)]
  · exact fun j _ _ => by rw [e1 3 (by decide)]
  · exact (show if jx = 7 then H.1 5 0 = G.1 5 0 else ∀ j, 28 * jx ≤ j → j < 28 * jx + 28 → H.1 4 j = G.1 4 j by rw [e1 5 (by decide), e1 4 (by decide)]; split; rfl; exact fun _ _ _ => rfl)
  · exact ⟨by rw [e1 8 (by decide)], fun _ => ⟨by rw [e1 9 (by decide)], by rw [e1 10 (by decide)], by rw [e1 11 (by decide)], by rw [e2 10 (by decide)], by rw [e2 11 (by decide)]⟩⟩
  · exact ⟨by rw [e1 12 (by decide)], fun _ => ⟨by rw [e1 13 (by decide)], by rw [e1 14 (by decide)]⟩⟩
  · exact ⟨by rw [e1 15 (by decide)], fun _ => ⟨by rw [e1 16 (by decide)], by rw [e1 17 (by decide)], by rw [e1 18 (by decide)], by rw [e2 12 (by decide)]⟩⟩
  · exact ⟨by rw [e1 19 (by decide)], fun _ => ⟨by rw [e1 20 (by decide)], by rw [e1 21 (by decide)]⟩⟩
theorem kgn_12 (e1 : ∀ f, f ≠ 8 → f ≠ 9 → f ≠ 10 → f ≠ 11 → G.1 f = H.1 f) (e2 : ∀ f, f ≠ 10 → f ≠ 11 → G.2.1 f = H.2.1 f) : ∀ kd jx, 1 ≤ kd → kd ≤ 15 → (kd < 8 ∨ 12 ≤ kd) → kd ≠ 12 → kag H G kd jx := fun kd jx b1' b2 hw hn => by
  rcases (show kd = 1 ∨ kd = 2 ∨ kd = 3 ∨ kd = 4 ∨ kd = 5 ∨ kd = 6 ∨ kd = 7 ∨ kd = 13 ∨ kd = 14 ∨ kd = 15 by omega) with w | w | w | w | w | w | w | w | w | w <;> subst w
  · exact fun j _ _ => by rw [e1 0 (by decide) (by decide) (by decide) (by decide)]
  · exact fun j _ _ => by rw [e1 1 (by decide) (by decide) (by decide) (by decide)]
  · exact fun j _ _ => by rw [e1 2 (by decide) (by decide) (by decide) (by decide)]
  · exact fun j _ _ => by rw [e2 0 (by decide) (by decide)]
  · exact fun j _ _ => by rw [e1 3 (by decide) (by decide) (by decide) (by decide)]
  · exact (show if jx = 7 then H.1 5 0 = G.1 5 0 else ∀ j, 28 * jx ≤ j → j < 28 * jx + 28 → H.1 4 j = G.1 4 j by rw [e1 5 (by decide) (by decide) (by decide) (by decide), e1 4 (by decide) (by decide) (by decide) (by decide)]; split; rfl; exact fun _ _ _ => rfl)
  · exact (show if jx = 0 then ∀ j, j < 11 → H.2.1 1 j = G.2.1 1 j else ∀ j, j < 11 → H.1 6 j = G.1 6 j by rw [e2 1 (by decide) (by decide), e1 6 (by decide) (by decide) (by decide) (by decide)]; split <;> exact fun _ _ => rfl)
  · exact ⟨by rw [e1 12 (by decide) (by decide) (by decide) (by decide)], fun _ => ⟨by rw [e1 13 (by decide) (by decide) (by decide) (by decide)], by rw [e1 14 (by decide) (by decide) (by decide) (by decide)]⟩⟩
  · exact ⟨by rw [e1 15 (by decide) (by decide) (by decide) (by decide)], fun _ => ⟨by rw [e1 16 (by decide) (by decide) (by decide) (by decide)], by rw [e1 17 (by decide) (by decide) (by decide) (by decide)], by rw [e1 18 (by decide) (by decide) (by decide) (by decide)], by rw [e2 12 (by decide) (by decide)]⟩⟩
  · exact ⟨by rw [e1 19 (by decide) (by decide) (by decide) (by decide)], fun _ => ⟨by rw [e1 20 (by decide) (by decide) (by decide) (by decide)], by rw [e1 21 (by decide) (by decide) (by decide) (by decide)]⟩⟩
theorem kgn_13 (e1 : ∀ f, f ≠ 12 → f ≠ 13 → f ≠ 14 → G.1 f = H.1 f) (e2 : ∀ f, G.2.1 f = H.2.1 f) : ∀ kd jx, 1 ≤ kd → kd ≤ 15 → (kd < 8 ∨ 12 ≤ kd) → kd ≠ 13 → kag H G kd jx := fun kd jx b1' b2 hw hn => by
  rcases (show kd = 1 ∨ kd = 2 ∨ kd = 3 ∨ kd = 4 ∨ kd = 5 ∨ kd = 6 ∨ kd = 7 ∨ kd = 12 ∨ kd = 14 ∨ kd = 15 by omega) with w | w | w | w | w | w | w | w | w | w <;> subst w
  · exact fun j _ _ => by rw [e1 0 (by decide) (by decide) (by decide)]
  · exact fun j _ _ => by rw [e1 1 (by decide) (by decide) (by decide)]
  · exact fun j _ _ => by rw [e1 2 (by decide) (by decide) (by decide)]
  · exact fun j _ _ => by rw [e2 0 ]
  · exact fun j _ _ => by rw [e1 3 (by decide) (by decide) (by decide)]
  · exact (show if jx = 7 then H.1 5 0 = G.1 5 0 else ∀ j, 28 * jx ≤ j → j < 28 * jx + 28 → H.1 4 j = G.1 4 j by rw [e1 5 (by decide) (by decide) (by decide), e1 4 (by decide) (by decide) (by decide)]; split; rfl; exact fun _ _ _ => rfl)
  · exact (show if jx = 0 then ∀ j, j < 11 → H.2.1 1 j = G.2.1 1 j else ∀ j, j < 11 → H.1 6 j = G.1 6 j by rw [e2 1 , e1 6 (by decide) (by decide) (by decide)]; split <;> exact fun _ _ => rfl)
  · exact ⟨by rw [e1 8 (by decide) (by decide) (by decide)], fun _ => ⟨by rw [e1 9 (by decide) (by decide) (by decide)], by rw [e1 10 (by decide) (by decide) (by decide)], by rw [e1 11 (by decide) (by decide) (by decide)], by rw [e2 10 ], by rw [e2 11 ]⟩⟩
  · exact ⟨by rw [e1 15 (by decide) (by decide) (by decide)], fun _ => ⟨by rw [e1 16 (by decide) (by decide) (by decide)], by rw [e1 17 (by decide) (by decide) (by decide)], by rw [e1 18 (by decide) (by decide) (by decide)], by rw [e2 12 ]⟩⟩
  · exact ⟨by rw [e1 19 (by decide) (by decide) (by decide)], fun _ => ⟨by rw [e1 20 (by decide) (by decide) (by decide)], by rw [e1 21 (by decide) (by decide) (by decide)]⟩⟩
theorem kgn_14 (e1 : ∀ f, f ≠ 15 → f ≠ 16 → f ≠ 17 → f ≠ 18 → G.1 f = H.1 f) (e2 : ∀ f, f ≠ 12 → G.2.1 f = H.2.1 f) : ∀ kd jx, 1 ≤ kd → kd ≤ 15 → (kd < 8 ∨ 12 ≤ kd) → kd ≠ 14 → kag H G kd jx := fun kd jx b1' b2 hw hn => by
  rcases (show kd = 1 ∨ kd = 2 ∨ kd = 3 ∨ kd = 4 ∨ kd = 5 ∨ kd = 6 ∨ kd = 7 ∨ kd = 12 ∨ kd = 13 ∨ kd = 15 by omega) with w | w | w | w | w | w | w | w | w | w <;> subst w
  · exact fun j _ _ => by rw [e1 0 (by decide) (by decide) (by decide) (by decide)]
  · exact fun j _ _ => by rw [e1 1 (by decide) (by decide) (by decide) (by decide)]
  · exact fun j _ _ => by rw [e1 2 (by decide) (by decide) (by decide) (by decide)]
  · exact fun j _ _ => by rw [e2 0 (by decide)]
  · exact fun j _ _ => by rw [e1 3 (by decide) (by decide) (by decide) (by decide)]
  · exact (show if jx = 7 then H.1 5 0 = G.1 5 0 else ∀ j, 28 * jx ≤ j → j < 28 * jx + 28 → H.1 4 j = G.1 4 j by rw [e1 5 (by decide) (by decide) (by decide) (by decide), e1 4 (by decide) (by decide) (by decide) (by decide)]; split; rfl; exact fun _ _ _ => rfl)
  · exact (show if jx = 0 then ∀ j, j < 11 → H.2.1 1 j = G.2.1 1 j else ∀ j, j < 11 → H.1 6 j = G.1 6 j by rw [e2 1 (by decide), e1 6 (by decide) (by decide) (by decide) (by decide)]; split <;> exact fun _ _ => rfl)
  · exact ⟨by rw [e1 8 (by decide) (by decide) (by decide) (by decide)], fun _ => ⟨by rw [e1 9 (by decide) (by decide) (by decide) (by decide)], by rw [e1 10 (by decide) (by decide) (by decide) (by decide)], by rw [e1 11 (by decide) (by decide) (by decide) (by decide)], by rw [e2 10 (by decide)], by rw [e2 11 (by decide)]⟩⟩
  · exact ⟨by rw [e1 12 (by decide) (by decide) (by decide) (by decide)], fun _ => ⟨by rw [e1 13 (by decide) (by decide) (by decide) (by decide)], by rw [e1 14 (by decide) (by decide) (by decide) (by decide)]⟩⟩
  · exact ⟨by rw [e1 19 (by decide) (by decide) (by decide) (by decide)], fun _ => ⟨by rw [e1 20 (by decide) (by decide) (by decide) (by decide)], by rw [e1 21 (by decide) (by decide) (by decide) (by decide)]⟩⟩
theorem kgn_15 (e1 : ∀ f, f ≠ 19 → f ≠ 20 → f ≠ 21 → G.1 f = H.1 f) (e2 : ∀ f, G.2.1 f = H.2.1 f) : ∀ kd jx, 1 ≤ kd → kd ≤ 15 → (kd < 8 ∨ 12 ≤ kd) → kd ≠ 15 → kag H G kd jx := fun kd jx b1' b2 hw hn => by
  rcases (show kd = 1 ∨ kd = 2 ∨ kd = 3 ∨ kd = 4 ∨ kd = 5 ∨ kd = 6 ∨ kd = 7 ∨ kd = 12 ∨ kd = 13 ∨ kd = 14 by omega) with w | w | w | w | w | w | w | w | w | w <;> subst w
  · exact fun j _ _ => by rw [e1 0 (by decide) (by decide) (by decide)]
  · exact fun j _ _ => by rw [e1 1 (by decide) (by decide) (by decide)]
  · exact fun j _ _ => by rw [e1 2 (by decide) (by decide) (by decide)]
  · exact fun j _ _ => by rw [e2 0 ]
  · exact fun j _ _ => by rw [e1 3 (by decide) (by decide) (by decide)]
  · exact (show if jx = 7 then H.1 5 0 = G.1 5 0 else ∀ j, 28 * jx ≤ j → j < 28 * jx + 28 → H.1 4 j = G.1 4 j by rw [e1 5 (by decide) (by decide) (by decide), e1 4 (by decide) (by decide) (by decide)]; split; rfl; exact fun _ _ _ => rfl)
  · exact (show if jx = 0 then ∀ j, j < 11 → H.2.1 1 j = G.2.1 1 j else ∀ j, j < 11 → H.1 6 j = G.1 6 j by rw [e2 1 , e1 6 (by decide) (by decide) (by decide)]; split <;> exact fun _ _ => rfl)
  · exact ⟨by rw [e1 8 (by decide) (by decide) (by decide)], fun _ => ⟨by rw [e1 9 (by decide) (by decide) (by decide)], by rw [e1 10 (by decide) (by decide) (by decide)], by rw [e1 11 (by decide) (by decide) (by decide)], by rw [e2 10 ], by rw [e2 11 ]⟩⟩
  · exact ⟨by rw [e1 12 (by decide) (by decide) (by decide)], fun _ => ⟨by rw [e1 13 (by decide) (by decide) (by decide)], by rw [e1 14 (by decide) (by decide) (by decide)]⟩⟩
  · exact ⟨by rw [e1 15 (by decide) (by decide) (by decide)], fun _ => ⟨by rw [e1 16 (by decide) (by decide) (by decide)], by rw [e1 17 (by decide) (by decide) (by decide)], by rw [e1 18 (by decide) (by decide) (by decide)], by rw [e2 12 ]⟩⟩
theorem kgn_0 (e1 : ∀ f, f ≠ 7 → G.1 f = H.1 f) (e2 : ∀ f, f ≠ 2 → f ≠ 3 → f ≠ 4 → f ≠ 5 → f ≠ 6 → f ≠ 7 → f ≠ 8 → f ≠ 9 → G.2.1 f = H.2.1 f) : ∀ kd jx, 1 ≤ kd → kd ≤ 15 → (kd < 8 ∨ 12 ≤ kd) → kd ≠ 0 → kag H G kd jx := fun kd jx b1' b2 hw hn => by
  rcases (show kd = 1 ∨ kd = 2 ∨ kd = 3 ∨ kd = 4 ∨ kd = 5 ∨ kd = 6 ∨ kd = 7 ∨ kd = 12 ∨ kd = 13 ∨ kd = 14 ∨ kd = 15 by omega) with w | w | w | w | w | w | w | w | w | w | w <;> subst w
  · exact fun j _ _ => by rw [e1 0 (by decide)]
  · exact fun j _ _ => by rw [e1 1 (by decide)]
  · exact fun j _ _ => by rw [e1 2 (by decide)]
  · exact fun j _ _ => by rw [e2 0 (by decide) (by decide) (by decide) (by decide) (by decide) (by decide) (by decide) (by decide)]
  · exact fun j _ _ => by rw [e1 3 (by decide)]
  · exact (show if jx = 7 then H.1 5 0 = G.1 5 0 else ∀ j, 28 * jx ≤ j → j < 28 * jx + 28 → H.1 4 j = G.1 4 j by rw [e1 5 (by decide), e1 4 (by decide)]; split; rfl; exact fun _ _ _ => rfl)
  · exact (show if jx = 0 then ∀ j, j < 11 → H.2.1 1 j = G.2.1 1 j else ∀ j, j < 11 → H.1 6 j = G.1 6 j by rw [e2 1 (by decide) (by decide) (by decide) (by decide) (by decide) (by decide) (by decide) (by decide), e1 6 (by decide)]; split <;> exact fun _ _ => rfl)
  · exact ⟨by rw [e1 8 (by decide)], fun _ => ⟨by rw [e1 9 (by decide)], by rw [e1 10 (by decide)], by rw [e1 11 (by decide)], by rw [e2 10 (by decide) (by decide) (by decide) (by decide) (by decide) (by decide) (by decide) (by decide)], by rw [e2 11 (by decide) (by decide) (by decide) (by decide) (by decide) (by decide) (by decide) (by decide)]⟩⟩
  · exact ⟨by rw [e1 12 (by decide)], fun _ => ⟨by rw [e1 13 (by decide)], by rw [e1 14 (by decide)]⟩⟩
  · exact ⟨by rw [e1 15 (by decide)], fun _ => ⟨by rw [e1 16 (by decide)], by rw [e1 17 (by decide)], by rw [e1 18 (by decide)], by rw [e2 12 (by decide) (by decide) (by decide) (by decide) (by decide) (by decide) (by decide) (by decide)]⟩⟩
  · exact ⟨by rw [e1 19 (by decide)], fun _ => ⟨by rw [e1 20 (by decide)], by rw [e1 21 (by decide)]⟩⟩
end Kg
