/-! THE SMALL MACHINE (4): branches, a method's walk. An instruction: (tag, instruction, its length, x, y, a constant). Tags: 0 locals and stack, 1 reads, 2 branches, 3 constants, 4 static calls, 5 built-in calls, 6 returns, 7 throws, 8 writes, 9 getstatic, 10 newarray, 11 new, 12 new int[][] or long[][], 13 Object's constructor, 14 virtual calls, 15 constructors. -/
abbrev mz_i : Type := Nat × Instr × Nat × Nat × Nat × Value
abbrev mz_K : Type := mz_S × mz_M × Nat
abbrev mz_Q : Type := (Option Value ⊕ Nat) → mz_K → Prop
def mz_sf (code : List mz_i) (pc : Nat) : List mz_i := match code with
  | [] => []
  | q :: r => if pc = 0 then q :: r else if pc < q.2.2.1 then [] else mz_sf r (pc - q.2.2.1)
def mz_tg (pc : Nat) (off : Int) (st : List Value) : Option (Nat × List Value) := if 0 ≤ (pc : Int) + off then some (((pc : Int) + off).toNat, st) else none
def mz_br (ins : Instr) (pc : Nat) (st : List Value) : Option (Nat × List Value) := match ins, st with
  | .goto off, st => mz_tg pc off st
  | .ifCond .eq off, .int x :: st => match mz_tg pc off st with
    | some t => if x = 0 then some t else some (pc + 3, st)
    | none => none
  | .ifCond .ne off, .int x :: st => match mz_tg pc off st with
    | some t => if ¬ x = 0 then some t else some (pc + 3, st)
    | none => none
  | .ifCond .lt off, .int x :: st => match mz_tg pc off st with
    | some t => if x < 0 then some t else some (pc + 3, st)
    | none => none
  | .ifCond .ge off, .int x :: st => match mz_tg pc off st with
    | some t => if 0 ≤ x then some t else some (pc + 3, st)
    | none => none
  | .ifCond .gt off, .int x :: st => match mz_tg pc off st with
    | some t => if 0 < x then some t else some (pc + 3, st)
    | none => none
  | .ifCond .le off, .int x :: st => match mz_tg pc off st with
    | some t => if x ≤ 0 then some t else some (pc + 3, st)
    | none => none
  | .if_icmp .eq off, .int y :: .int x :: st => match mz_tg pc off st with
    | some t => if x = y then some t else some (pc + 3, st)
    | none => none
  | .if_icmp .ne off, .int y :: .int x :: st => match mz_tg pc off st with
    | some t => if ¬ x = y then some t else some (pc + 3, st)
    | none => none
  | .if_icmp .lt off, .int y :: .int x :: st => match mz_tg pc off st with
    | some t => if x < y then some t else some (pc + 3, st)
    | none => none
  | .if_icmp .ge off, .int y :: .int x :: st => match mz_tg pc off st with
    | some t => if y ≤ x then some t else some (pc + 3, st)
    | none => none
  | .if_icmp .gt off, .int y :: .int x :: st => match mz_tg pc off st with
    | some t => if y < x then some t else some (pc + 3, st)
    | none => none
  | .if_icmp .le off, .int y :: .int x :: st => match mz_tg pc off st with
    | some t => if x ≤ y then some t else some (pc + 3, st)
    | none => none
  | .tableswitch d lo hi offs, .int x :: st => if x.toInt < lo ∨ hi < x.toInt then mz_tg pc d st else match offs[(x.toInt - lo).toNat]? with
    | some off => mz_tg pc off st
    | none => none
  | .lookupswitch d ps, .int x :: st => if (ps.toList.zip (ps.toList.drop 1)).all (fun (a, next) => a.1 < next.1) = true then mz_tg pc (Op.lookupswitch.offset ps.toList d x.toInt) st else none
  | _, _ => none
section Mz4
variable {p : Program} {l : Launch} {e : Env} {R : Room} {s : State} {m : MethodId} {args : Array Value} {below : List Frame} {meth : Method} {c : Code} {H : Heap} {locs : List Loc} {cells slots : Nat} {Q : State → Prop} {cc : ByteArray} {pc : Nat} {ls : Array Slot} {ad : Nat → Nat}
theorem mz_tg_ok {pc tgt : Nat} {off : Int} {st st' : List Value} (h : mz_tg pc off st = some (tgt, st')) : (pc : Int) + off = (tgt : Int) ∧ st' = st := by
  unfold mz_tg at h
  split at h
  · rename_i h0
    cases h
    exact ⟨(Int.toNat_of_nonneg h0).symm, rfl⟩
  · cases h
set_option maxHeartbeats 4000000 in
theorem mz_br_ok (hx : p.tables.exec = Jvm.exec) (hb : c.code = cc) {ins : Instr} {st st' : List Value} {len tgt : Nat} (hd : decode cc pc = .ok (ins, len)) (hlen : (∃ a b c d, ins = .tableswitch a b c d) ∨ (∃ a b, ins = .lookupswitch a b) ∨ len = 3) (h : mz_br ins pc st = some (tgt, st'))
    (k : W p l e R s m args below meth c H locs cells slots Q (F0 m tgt ls (mz_gs ad st'))) : W p l e R s m args below meth c H locs cells slots Q (F0 m pc ls (mz_gs ad st)) := by
  have h3 : (∃ a b c d, ins = .tableswitch a b c d) ∨ (∃ a b, ins = .lookupswitch a b) ∨ decode cc pc = .ok (ins, 3) := by
    rcases hlen with h | h | h
    · exact Or.inl h
    · exact Or.inr (Or.inl h)
    · rw [h] at hd; exact Or.inr (Or.inr hd)
  have d3 : (¬ ∃ a b c d, ins = .tableswitch a b c d) → (¬ ∃ a b, ins = .lookupswitch a b) → decode cc pc = .ok (ins, 3) := fun a b => (h3.resolve_left a).resolve_left b
  unfold mz_br at h
  split at h
  · obtain ⟨h1, rfl⟩ := mz_tg_ok h
    exact lv_goto hx hb (d3 (by rintro ⟨_, _, _, _, q⟩; cases q) (by rintro ⟨_, _, q⟩; cases q)) h1 k
  · have d := d3 (by rintro ⟨_, _, _, _, q⟩; cases q) (by rintro ⟨_, _, q⟩; cases q)
    split at h
    · rename_i t ht
      obtain ⟨t1, t2⟩ := t
      obtain ⟨h1, rfl⟩ := mz_tg_ok ht
      split at h
      · rename_i hc; cases h; exact lv_if_eq hx hb d h1 (fun _ => k) (fun q => absurd hc q)
      · rename_i hc; cases h; exact lv_if_eq hx hb d h1 (fun q => absurd q hc) (fun _ => k)
    · cases h
  · have d := d3 (by rintro ⟨_, _, _, _, q⟩; cases q) (by rintro ⟨_, _, q⟩; cases q)
    split at h
    · rename_i t ht
      obtain ⟨t1, t2⟩ := t
      obtain ⟨h1, rfl⟩ := mz_tg_ok ht
      split at h
      · rename_i hc; cases h; exact lv_if_ne hx hb d h1 (fun _ => k) (fun q => absurd q hc)
      · rename_i hc; cases h; exact lv_if_ne hx hb d h1 (fun q => absurd q hc) (fun _ => k)
    · cases h
  · have d := d3 (by rintro ⟨_, _, _, _, q⟩; cases q) (by rintro ⟨_, _, q⟩; cases q)
    split at h
    · rename_i t ht
      obtain ⟨t1, t2⟩ := t
      obtain ⟨h1, rfl⟩ := mz_tg_ok ht
      split at h
      · rename_i hc; cases h; exact lv_if_lt hx hb d h1 (fun _ => k) (fun q => absurd hc q)
      · rename_i hc; cases h; exact lv_if_lt hx hb d h1 (fun q => absurd q hc) (fun _ => k)
    · cases h
  · have d := d3 (by rintro ⟨_, _, _, _, q⟩; cases q) (by rintro ⟨_, _, q⟩; cases q)
    split at h
    · rename_i t ht
      obtain ⟨t1, t2⟩ := t
      obtain ⟨h1, rfl⟩ := mz_tg_ok ht
      split at h
      · rename_i hc; cases h; exact lv_if_ge hx hb d h1 (fun _ => k) (fun q => absurd hc q)
      · rename_i hc; cases h; exact lv_if_ge hx hb d h1 (fun q => absurd q hc) (fun _ => k)
    · cases h
  · have d := d3 (by rintro ⟨_, _, _, _, q⟩; cases q) (by rintro ⟨_, _, q⟩; cases q)
    split at h
    · rename_i t ht
      obtain ⟨t1, t2⟩ := t
      obtain ⟨h1, rfl⟩ := mz_tg_ok ht
      split at h
      · rename_i hc; cases h; exact lv_if_gt hx hb d h1 (fun _ => k) (fun q => absurd hc q)
      · rename_i hc; cases h; exact lv_if_gt hx hb d h1 (fun q => absurd q hc) (fun _ => k)
    · cases h
  · have d := d3 (by rintro ⟨_, _, _, _, q⟩; cases q) (by rintro ⟨_, _, q⟩; cases q)
    split at h
    · rename_i t ht
      obtain ⟨t1, t2⟩ := t
      obtain ⟨h1, rfl⟩ := mz_tg_ok ht
      split at h
      · rename_i hc; cases h; exact lv_if_le hx hb d h1 (fun _ => k) (fun q => absurd hc q)
      · rename_i hc; cases h; exact lv_if_le hx hb d h1 (fun q => absurd q hc) (fun _ => k)
    · cases h
  · have d := d3 (by rintro ⟨_, _, _, _, q⟩; cases q) (by rintro ⟨_, _, q⟩; cases q)
    split at h
    · rename_i t ht
      obtain ⟨t1, t2⟩ := t
      obtain ⟨h1, rfl⟩ := mz_tg_ok ht
      split at h
      · rename_i hc; cases h; exact lv_icmp_eq hx hb d h1 (fun _ => k) (fun q => absurd hc q)
      · rename_i hc; cases h; exact lv_icmp_eq hx hb d h1 (fun q => absurd q hc) (fun _ => k)
    · cases h
  · have d := d3 (by rintro ⟨_, _, _, _, q⟩; cases q) (by rintro ⟨_, _, q⟩; cases q)
    split at h
    · rename_i t ht
      obtain ⟨t1, t2⟩ := t
      obtain ⟨h1, rfl⟩ := mz_tg_ok ht
      split at h
      · rename_i hc; cases h; exact lv_icmp_ne hx hb d h1 (fun _ => k) (fun q => absurd q hc)
      · rename_i hc; cases h; exact lv_icmp_ne hx hb d h1 (fun q => absurd q hc) (fun _ => k)
    · cases h
  · have d := d3 (by rintro ⟨_, _, _, _, q⟩; cases q) (by rintro ⟨_, _, q⟩; cases q)
    split at h
    · rename_i t ht
      obtain ⟨t1, t2⟩ := t
      obtain ⟨h1, rfl⟩ := mz_tg_ok ht
      split at h
      · rename_i hc; cases h; exact lv_icmp_lt hx hb d h1 (fun _ => k) (fun q => absurd hc q)
      · rename_i hc; cases h; exact lv_icmp_lt hx hb d h1 (fun q => absurd q hc) (fun _ => k)
    · cases h
  · have d := d3 (by rintro ⟨_, _, _, _, q⟩; cases q) (by rintro ⟨_, _, q⟩; cases q)
    split at h
    · rename_i t ht
      obtain ⟨t1, t2⟩ := t
      obtain ⟨h1, rfl⟩ := mz_tg_ok ht
      split at h
      · rename_i hc; cases h; exact lv_icmp_ge hx hb d h1 (fun _ => k) (fun q => absurd hc q)
      · rename_i hc; cases h; exact lv_icmp_ge hx hb d h1 (fun q => absurd q hc) (fun _ => k)
    · cases h
  · have d := d3 (by rintro ⟨_, _, _, _, q⟩; cases q) (by rintro ⟨_, _, q⟩; cases q)
    split at h
    · rename_i t ht
      obtain ⟨t1, t2⟩ := t
      obtain ⟨h1, rfl⟩ := mz_tg_ok ht
      split at h
      · rename_i hc; cases h; exact lv_icmp_gt hx hb d h1 (fun _ => k) (fun q => absurd hc q)
      · rename_i hc; cases h; exact lv_icmp_gt hx hb d h1 (fun q => absurd q hc) (fun _ => k)
    · cases h
  · have d := d3 (by rintro ⟨_, _, _, _, q⟩; cases q) (by rintro ⟨_, _, q⟩; cases q)
    split at h
    · rename_i t ht
      obtain ⟨t1, t2⟩ := t
      obtain ⟨h1, rfl⟩ := mz_tg_ok ht
      split at h
      · rename_i hc; cases h; exact lv_icmp_le hx hb d h1 (fun _ => k) (fun q => absurd hc q)
      · rename_i hc; cases h; exact lv_icmp_le hx hb d h1 (fun q => absurd q hc) (fun _ => k)
    · cases h
  · split at h
    · rename_i hc
      obtain ⟨h1, rfl⟩ := mz_tg_ok h
      exact lv_tableOut hx hb hd hc h1 k
    · rename_i hc
      split at h
      · rename_i ho
        obtain ⟨h1, rfl⟩ := mz_tg_ok h
        exact lv_tableIn hx hb hd (fun q => hc (Or.inl q)) (fun q => hc (Or.inr q)) ho h1 k
      · cases h
  · split at h
    · rename_i hp
      obtain ⟨h1, rfl⟩ := mz_tg_ok h
      exact lv_lookup hx hb hd hp rfl h1 k
    · cases h
  · cases h
end Mz4
