/-! PURE (50zg): a token of the class. -/
/-- the kind of what stands at p: 0 the end, 1 a number, 2 a word, 3 a sign, 4 none -/
def tkk (tx : Nat → Nat) (n p : Nat) : Nat := if p < n then (if dg (tx p) = true then 1 else if lt' (tx p) = true then 2 else if sg' (tx p) = true then 3 else 4) else 0
/-- where it ends -/
def tke (tx : Nat → Nat) (n p : Nat) : Nat := if tkk tx n p = 1 then p + rl (fun i => dg (tx i)) n p else if tkk tx n p = 2 then p + rl (wrc tx) n p else if tkk tx n p = 3 then p + 1 else p
section Tok
variable {N : mz_N} {o n p : Nat} {tx : Nat → Nat}
theorem rl_pos {P : Nat → Bool} (hp : p < n) (h : P p = true) : 1 ≤ rl P n p := by
  obtain ⟨r1, r2, r3⟩ := rl_ok (P := P) (show p ≤ n by omega)
  rcases Nat.lt_or_ge (rl P n p) 1 with w | w
  · have e : rl P n p = 0 := by omega
    rw [e, Nat.add_zero] at r3
    rw [r3 hp] at h
    cases h
  · exact w
theorem rd_p {fd : Nat} {v : Int32} (hf : fd ≠ 1) (ht : rd_t N o n tx) : rd_t (mz_pI N o fd v) o n tx := by
  refine ⟨?_, fun j hj => ?_⟩
  · rw [pI_s, sI_e, up_a, if_neg (fun q => hf q.symm)]; exact ht.1
  · rw [pI_s, sI_n (by omega)]; exact ht.2 j hj
theorem rs_p {fd : Nat} {v : Int32} (hf : fd ≠ 147) (ht : rs_t N n tx) : rs_t (mz_pI N 232 fd v) n tx := by
  refine ⟨?_, fun j hj => ?_⟩
  · rw [pI_s, sI_e, up_a, if_neg (fun q => hf q.symm)]; exact ht.1
  · rw [pI_s, sI_n (by decide)]; exact ht.2 j hj
end Tok
