/-! THE SMALL MACHINE (13b): an instruction is decoded by its own bytes: a window of the code will do. -/
def mz_win (c w : ByteArray) (sh : Nat) : Prop := sh % 4 = 0 ∧ sh + w.size ≤ c.size ∧ ∀ i (h : i < w.size) (h' : sh + i < c.size), c[sh + i] = w[i]
def mz_lc {α : Type} (c w : ByteArray) (sh : Nat) (r1 r2 : Decoder α) : Prop := ∀ (q : Nat) (a : α) (q' : Nat), r2 w q = Except.ok (a, q') → r1 c (sh + q) = Except.ok (a, sh + q')
section MzL
variable {c w : ByteArray} {sh : Nat}
theorem mz_lc_pure {α : Type} (a : α) : mz_lc c w sh (pure a) (pure a) := by
  intro q a' q' h
  cases h
  rfl
theorem mz_lc_throw {α : Type} (e1 e2 : DecodeError) : mz_lc (α := α) c w sh (throw e1) (throw e2) := by
  intro q a' q' h
  cases h
theorem mz_lc_bind {α β : Type} {r1 r2 : Decoder α} {f1 f2 : α → Decoder β} (h : mz_lc c w sh r1 r2) (hf : ∀ a, mz_lc c w sh (f1 a) (f2 a)) : mz_lc c w sh (r1 >>= f1) (r2 >>= f2) := by
  intro q a q' h1
  have e2 : (r2 >>= f2) w q = (match r2 w q with
    | .ok (x, p) => f2 x w p
    | .error e => .error e) := by
    show (do let (a, s) ← r2 w q; f2 a w s : Except DecodeError (β × Nat)) = _
    cases r2 w q <;> rfl
  have e1 : (r1 >>= f1) c (sh + q) = (match r1 c (sh + q) with
    | .ok (x, p) => f1 x c p
    | .error e => .error e) := by
    show (do let (a, s) ← r1 c (sh + q); f1 a c s : Except DecodeError (β × Nat)) = _
    cases r1 c (sh + q) <;> rfl
  rw [e2] at h1
  rw [e1]
  cases h2 : r2 w q with
  | error e => rw [h2] at h1; cases h1
  | ok x =>
    obtain ⟨x, p⟩ := x
    rw [h2] at h1
    rw [h q x p h2]
    exact hf x p a q' h1
theorem mz_lc_map {α β : Type} {r1 r2 : Decoder α} {f : α → β} (h : mz_lc c w sh r1 r2) : mz_lc c w sh (f <$> r1) (f <$> r2) := by
  have e : ∀ r : Decoder α, (f <$> r) = (r >>= fun x => pure (f x)) := fun r => map_eq_pure_bind f r
  rw [e, e]
  exact mz_lc_bind h (fun _ => mz_lc_pure _)
theorem mz_u1_eq (b : ByteArray) (p : Nat) : (Reader.u1 : Decoder Nat) b p = (if h : p < b.size then .ok (b[p].toNat, p + 1) else .error (.truncated p)) := by
  have e : (Reader.u1 : Decoder Nat) b p = (dite (p < b.size) (fun h => (do set (p + 1); pure b[p].toNat : Decoder Nat)) (fun _ => throw (DecodeError.truncated p))) b p := rfl
  rw [e]
  by_cases hp : p < b.size
  · rw [dif_pos hp, dif_pos hp]; rfl
  · rw [dif_neg hp, dif_neg hp]; rfl
theorem mz_lc_u1 (hw : mz_win c w sh) : mz_lc c w sh Reader.u1 Reader.u1 := by
  intro q a q' h
  rw [mz_u1_eq] at h ⊢
  by_cases hq : q < w.size
  · rw [dif_pos hq] at h
    cases h
    have h' : sh + q < c.size := by have := hw.2.1; omega
    rw [dif_pos h', hw.2.2 q hq h']
    rfl
  · rw [dif_neg hq] at h
    cases h
theorem mz_lc_u2 (hw : mz_win c w sh) : mz_lc c w sh Reader.u2 Reader.u2 := mz_lc_bind (mz_lc_u1 hw) fun _ => mz_lc_bind (mz_lc_u1 hw) fun _ => mz_lc_pure _
theorem mz_lc_u4 (hw : mz_win c w sh) : mz_lc c w sh Reader.u4 Reader.u4 := mz_lc_bind (mz_lc_u2 hw) fun _ => mz_lc_bind (mz_lc_u2 hw) fun _ => mz_lc_pure _
theorem mz_lc_s1 (hw : mz_win c w sh) : mz_lc c w sh Reader.s1 Reader.s1 := mz_lc_map (mz_lc_u1 hw)
theorem mz_lc_s2 (hw : mz_win c w sh) : mz_lc c w sh Reader.s2 Reader.s2 := mz_lc_map (mz_lc_u2 hw)
theorem mz_lc_s4 (hw : mz_win c w sh) : mz_lc c w sh Reader.s4 Reader.s4 := mz_lc_map (mz_lc_u4 hw)
theorem mz_lc_times {α : Type} {r : Decoder α} (h : mz_lc c w sh r r) : ∀ (n : Nat), mz_lc c w sh (Reader.times n r) (Reader.times n r) := by
  have go : ∀ (n : Nat) (acc : Array α), mz_lc c w sh (Reader.times.go r n acc) (Reader.times.go r n acc) := by
    intro n
    induction n with
    | zero => intro acc; exact mz_lc_pure _
    | succ n ih => intro acc; exact mz_lc_bind h fun _ => ih _
  exact fun n => go n #[]
theorem mz_pad_eq (b : ByteArray) (p : Nat) : Decoder.padding b p = (if p + (4 - p % 4) % 4 ≤ b.size then .ok ((), p + (4 - p % 4) % 4) else .error (.truncated b.size)) := by
  have e : Decoder.padding b p = ((ite (p + (4 - p % 4) % 4 ≤ b.size) (do set (p + (4 - p % 4) % 4); pure (b.extract p (p + (4 - p % 4) % 4)) : Decoder ByteArray) (throw (DecodeError.truncated b.size))) >>= fun _ => (pure () : Decoder Unit)) b p := rfl
  rw [e]
  by_cases hp : p + (4 - p % 4) % 4 ≤ b.size
  · rw [if_pos hp, if_pos hp]; rfl
  · rw [if_neg hp, if_neg hp]; rfl
theorem mz_lc_pad (hw : mz_win c w sh) : mz_lc c w sh Decoder.padding Decoder.padding := by
  intro q a q' h
  rw [mz_pad_eq] at h ⊢
  have hm : (sh + q) % 4 = q % 4 := by have := hw.1; omega
  by_cases hq : q + (4 - q % 4) % 4 ≤ w.size
  · rw [if_pos hq] at h
    cases h
    rw [hm, if_pos (by have := hw.2.1; omega), Nat.add_assoc]
  · rw [if_neg hq] at h
    cases h
theorem mz_lc_ite {α : Type} {P : Prop} {d : Decidable P} {r1 r2 r3 r4 : Decoder α} (h1 : mz_lc c w sh r1 r3) (h2 : mz_lc c w sh r2 r4) : mz_lc c w sh (@ite _ P d r1 r2) (@ite _ P d r3 r4) := by
  by_cases h : P
  · rw [if_pos h, if_pos h]; exact h1
  · rw [if_neg h, if_neg h]; exact h2
theorem mz_lc_tsw (hw : mz_win c w sh) (p1 p2 : Nat) : mz_lc c w sh (Decoder.tableswitch p1) (Decoder.tableswitch p2) :=
  mz_lc_bind (mz_lc_pad hw) fun _ => mz_lc_bind (mz_lc_s4 hw) fun _ => mz_lc_bind (mz_lc_s4 hw) fun _ => mz_lc_bind (mz_lc_s4 hw) fun _ => mz_lc_ite (mz_lc_bind (mz_lc_times (mz_lc_s4 hw) _) fun _ => mz_lc_pure _) (mz_lc_bind (mz_lc_throw _ _) fun _ => mz_lc_bind (mz_lc_times (mz_lc_s4 hw) _) fun _ => mz_lc_pure _)
theorem mz_lc_lsw (hw : mz_win c w sh) (p1 p2 : Nat) : mz_lc c w sh (Decoder.lookupswitch p1) (Decoder.lookupswitch p2) :=
  mz_lc_bind (mz_lc_pad hw) fun _ => mz_lc_bind (mz_lc_s4 hw) fun _ => mz_lc_bind (mz_lc_s4 hw) fun _ => mz_lc_ite (mz_lc_bind (mz_lc_times (mz_lc_bind (mz_lc_s4 hw) fun _ => mz_lc_bind (mz_lc_s4 hw) fun _ => mz_lc_pure _) _) fun _ => mz_lc_ite (mz_lc_pure _) (mz_lc_bind (mz_lc_throw _ _) fun _ => mz_lc_pure _)) (mz_lc_bind (mz_lc_throw _ _) fun _ => mz_lc_bind (mz_lc_times (mz_lc_bind (mz_lc_s4 hw) fun _ => mz_lc_bind (mz_lc_s4 hw) fun _ => mz_lc_pure _) _) fun _ => mz_lc_ite (mz_lc_pure _) (mz_lc_bind (mz_lc_throw _ _) fun _ => mz_lc_pure _))
theorem mz_lc_iif (hw : mz_win c w sh) (p1 p2 : Nat) : mz_lc c w sh (Decoder.invokeinterface p1) (Decoder.invokeinterface p2) :=
  mz_lc_bind (mz_lc_u2 hw) fun _ => mz_lc_bind (mz_lc_u1 hw) fun _ => mz_lc_bind (mz_lc_u1 hw) fun _ => mz_lc_ite (mz_lc_pure _) (mz_lc_bind (mz_lc_throw _ _) fun _ => mz_lc_pure _)
theorem mz_lc_idy (hw : mz_win c w sh) (p1 p2 : Nat) : mz_lc c w sh (Decoder.invokedynamic p1) (Decoder.invokedynamic p2) :=
  mz_lc_bind (mz_lc_u2 hw) fun _ => mz_lc_bind (mz_lc_u2 hw) fun _ => mz_lc_ite (mz_lc_pure _) (mz_lc_bind (mz_lc_throw _ _) fun _ => mz_lc_pure _)
theorem mz_lc_mul (hw : mz_win c w sh) (p1 p2 : Nat) : mz_lc c w sh (Decoder.multianewarray p1) (Decoder.multianewarray p2) :=
  mz_lc_bind (mz_lc_u2 hw) fun _ => mz_lc_bind (mz_lc_u1 hw) fun _ => mz_lc_ite (mz_lc_pure _) (mz_lc_bind (mz_lc_throw _ _) fun _ => mz_lc_pure _)
theorem mz_lc_newa (hw : mz_win c w sh) (p1 p2 : Nat) : mz_lc c w sh (Decoder.newarray p1) (Decoder.newarray p2) := by
  refine mz_lc_bind (mz_lc_u1 hw) (fun op => ?_)
  split <;> first | exact mz_lc_pure _ | exact mz_lc_throw _ _
theorem mz_lc_wide (hw : mz_win c w sh) (p1 p2 : Nat) : mz_lc c w sh (Decoder.wide p1) (Decoder.wide p2) := by
  refine mz_lc_bind (mz_lc_u1 hw) (fun op => ?_)
  split <;> first | exact mz_lc_bind (mz_lc_u2 hw) fun _ => mz_lc_pure _ | exact mz_lc_bind (mz_lc_u2 hw) fun _ => mz_lc_bind (mz_lc_s2 hw) fun _ => mz_lc_pure _ | exact mz_lc_throw _ _
set_option maxRecDepth 100000 in
set_option maxHeartbeats 4000000 in
theorem mz_lc_instr (hw : mz_win c w sh) (p1 p2 : Nat) : mz_lc c w sh (Decoder.instr p1) (Decoder.instr p2) := by
  refine mz_lc_bind (mz_lc_u1 hw) (fun op => ?_)
  split
  all_goals first
    | exact mz_lc_pure _
    | exact mz_lc_bind (mz_lc_u1 hw) fun _ => mz_lc_pure _
    | exact mz_lc_bind (mz_lc_u2 hw) fun _ => mz_lc_pure _
    | exact mz_lc_bind (mz_lc_s2 hw) fun _ => mz_lc_pure _
    | exact mz_lc_bind (mz_lc_s1 hw) fun _ => mz_lc_pure _
    | exact mz_lc_bind (mz_lc_s4 hw) fun _ => mz_lc_pure _
    | exact mz_lc_bind (mz_lc_u1 hw) fun _ => mz_lc_bind (mz_lc_s1 hw) fun _ => mz_lc_pure _
    | exact mz_lc_throw _ _
    | exact mz_lc_tsw hw p1 p2
    | exact mz_lc_lsw hw p1 p2
    | exact mz_lc_iif hw p1 p2
    | exact mz_lc_idy hw p1 p2
    | exact mz_lc_newa hw p1 p2
    | exact mz_lc_wide hw p1 p2
    | exact mz_lc_mul hw p1 p2
theorem mz_dec_win (hw : mz_win c w sh) {pc : Nat} {i : Instr × Nat} (hp : sh ≤ pc) (h : decode w (pc - sh) = .ok i) : decode c pc = .ok i := by
  have e : ∀ (b : ByteArray) (p : Nat), decode b p = (match Decoder.instr p b p with
    | .ok (x, n) => .ok (x, n - p)
    | .error e => .error e) := by
    intro b p
    show (do let (instr, next) ← Decoder.instr p b p; pure (instr, next - p) : Except DecodeError (Instr × Nat)) = _
    cases Decoder.instr p b p <;> rfl
  rw [e] at h ⊢
  cases h1 : Decoder.instr (pc - sh) w (pc - sh) with
  | error e => rw [h1] at h; cases h
  | ok x =>
    obtain ⟨x, n⟩ := x
    rw [h1] at h
    have h2 := mz_lc_instr hw pc (pc - sh) (pc - sh) x n h1
    rw [show sh + (pc - sh) = pc by omega] at h2
    rw [h2]
    cases h
    simp only
    rw [show sh + n - pc = n - (pc - sh) by omega]
end MzL
/-- a program that looks at a window -/
def mz_winb (c w : List UInt8) (sh : Nat) : Bool := sh % 4 == 0 && decide (sh + w.length ≤ c.length) && decide ((c.drop sh).take w.length = w)
theorem mz_winb_ok {c w : ByteArray} {sh : Nat} (h : mz_winb c.data.toList w.data.toList sh = true) : mz_win c w sh := by
  simp only [mz_winb, Bool.and_eq_true, beq_iff_eq, decide_eq_true_eq] at h
  obtain ⟨⟨h1, h0⟩, h2⟩ := h
  have hc : c.data.toList.length = c.size := rfl
  have hw : w.data.toList.length = w.size := rfl
  have h3 := congrArg List.length h2
  simp only [List.length_take, List.length_drop] at h3
  refine ⟨h1, ?_, fun i hi h' => ?_⟩
  · omega
  · have h4 : c.data.toList[sh + i]? = w.data.toList[i]? := by
      rw [← h2, List.getElem?_take, if_pos (by omega), List.getElem?_drop]
    have h5 : c.data.toList[sh + i]? = some c[sh + i] := by
      simp [ByteArray.getElem_eq_getElem_data, h']
    have h6 : w.data.toList[i]? = some w[i] := by
      simp [ByteArray.getElem_eq_getElem_data, hi]
    rw [h5, h6] at h4
    exact Option.some.inj h4
