/-! THE SMALL MACHINE (1): instructions that touch locals and the operand stack alone. A reference k of the small machine is the address 'ad k' of the machine. -/
def mz_g (ad : Nat → Nat) (v : Value) : Value := match v with
  | .ref k => .ref (ad k)
  | v => v
def mz_gs (ad : Nat → Nat) (st : List Value) : List Value := st.map (mz_g ad)
def mz_gl (ad : Nat → Nat) (l : List (Nat × Value)) : List (Nat × Value) := l.map (fun q => (q.1, mz_g ad q.2))
/-- a local's value -/
def mz_ld (l : List (Nat × Value)) (i : Nat) : Option Value := match l with
  | [] => none
  | q :: r => if q.1 = i then some q.2 else mz_ld r i
/-- a local of one word gets a value -/
def mz_s1 (l : List (Nat × Value)) (i : Nat) (v : Value) : List (Nat × Value) := (i, v) :: l.filter (fun q => !(q.1 == i) && !(q.1 + 1 == i && q.2.category == 2))
/-- a local of two words gets a value -/
def mz_s2 (l : List (Nat × Value)) (i : Nat) (v : Value) : List (Nat × Value) := (i, v) :: l.filter (fun q => !(q.1 == i) && (!(q.1 == i + 1) && !(q.1 + 1 == i && q.2.category == 2)))
/-- one instruction on locals and stack; nL: how many locals -/
def mz_pu (nL : Nat) (ins : Instr) (l : List (Nat × Value)) (st : List Value) : Option (List (Nat × Value) × List Value) := match ins, st with
  | .iconst n, st => some (l, .int (Int32.ofInt n) :: st)
  | .bipush n, st => some (l, .int (Int8.ofInt n).toInt32 :: st)
  | .sipush n, st => some (l, .int (Int16.ofInt n).toInt32 :: st)
  | .lconst n, st => some (l, .long (Int64.ofNat (n : Nat)) :: st)
  | .iload i, st => match mz_ld l i with
    | some (.int x) => some (l, .int x :: st)
    | _ => none
  | .iload_n i, st => match mz_ld l i with
    | some (.int x) => some (l, .int x :: st)
    | _ => none
  | .lload i, st => match mz_ld l i with
    | some (.long x) => some (l, .long x :: st)
    | _ => none
  | .lload_n i, st => match mz_ld l i with
    | some (.long x) => some (l, .long x :: st)
    | _ => none
  | .aload i, st => match mz_ld l i with
    | some (.ref x) => some (l, .ref x :: st)
    | _ => none
  | .aload_n i, st => match mz_ld l i with
    | some (.ref x) => some (l, .ref x :: st)
    | _ => none
  | .istore i, .int x :: st => if i < nL then some (mz_s1 l i (.int x), st) else none
  | .istore_n i, .int x :: st => if (i : Nat) < nL then some (mz_s1 l i (.int x), st) else none
  | .lstore i, .long x :: st => if i + 1 < nL then some (mz_s2 l i (.long x), st) else none
  | .lstore_n i, .long x :: st => if (i : Nat) + 1 < nL then some (mz_s2 l i (.long x), st) else none
  | .astore i, .ref x :: st => if i < nL then some (mz_s1 l i (.ref x), st) else none
  | .astore_n i, .ref x :: st => if (i : Nat) < nL then some (mz_s1 l i (.ref x), st) else none
  | .iinc i n, st => match mz_ld l i with
    | some (.int x) => if i < nL then some (mz_s1 l i (.int (x + Int32.ofInt n)), st) else none
    | _ => none
  | .iadd, .int y :: .int x :: st => some (l, .int (x + y) :: st)
  | .isub, .int y :: .int x :: st => some (l, .int (x - y) :: st)
  | .imul, .int y :: .int x :: st => some (l, .int (x * y) :: st)
  | .idiv, .int y :: .int x :: st => if y = 0 then none else some (l, .int (x / y) :: st)
  | .irem, .int y :: .int x :: st => if y = 0 then none else some (l, .int (x - x / y * y) :: st)
  | .ineg, .int x :: st => some (l, .int (-x) :: st)
  | .iand, .int y :: .int x :: st => some (l, .int (x &&& y) :: st)
  | .ior, .int y :: .int x :: st => some (l, .int (x ||| y) :: st)
  | .ixor, .int y :: .int x :: st => some (l, .int (x ^^^ y) :: st)
  | .ishl, .int y :: .int x :: st => some (l, .int (x <<< (y &&& 31)) :: st)
  | .ishr, .int y :: .int x :: st => some (l, .int (x >>> (y &&& 31)) :: st)
  | .iushr, .int y :: .int x :: st => some (l, .int (x.toUInt32 >>> (y.toUInt32 &&& Int32.toUInt32 31)).toInt32 :: st)
  | .ladd, .long y :: .long x :: st => some (l, .long (x + y) :: st)
  | .lsub, .long y :: .long x :: st => some (l, .long (x - y) :: st)
  | .lmul, .long y :: .long x :: st => some (l, .long (x * y) :: st)
  | .ldiv, .long y :: .long x :: st => if y = 0 then none else some (l, .long (x / y) :: st)
  | .lrem, .long y :: .long x :: st => if y = 0 then none else some (l, .long (x - x / y * y) :: st)
  | .lneg, .long x :: st => some (l, .long (-x) :: st)
  | .land, .long y :: .long x :: st => some (l, .long (x &&& y) :: st)
  | .lor, .long y :: .long x :: st => some (l, .long (x ||| y) :: st)
  | .lxor, .long y :: .long x :: st => some (l, .long (x ^^^ y) :: st)
  | .lshl, .int y :: .long x :: st => some (l, .long (x <<< (y.toInt64 &&& 63)) :: st)
  | .lshr, .int y :: .long x :: st => some (l, .long (x >>> (y.toInt64 &&& 63)) :: st)
  | .lushr, .int y :: .long x :: st => some (l, .long (x.toUInt64 >>> (y.toInt64.toUInt64 &&& Int64.toUInt64 63)).toInt64 :: st)
  | .lcmp, .long y :: .long x :: st => some (l, .int (lg_cmp x y) :: st)
  | .i2l, .int x :: st => some (l, .long x.toInt64 :: st)
  | .l2i, .long x :: st => some (l, .int x.toInt32 :: st)
  | .i2b, .int x :: st => some (l, .int x.toInt8.toInt32 :: st)
  | .i2s, .int x :: st => some (l, .int x.toInt16.toInt32 :: st)
  | .i2c, .int x :: st => some (l, .int (x.toUInt32 % 65536).toInt32 :: st)
  | .dup, v :: st => if v.category = 1 then some (l, v :: v :: st) else none
  | .dup2, v :: st => if v.category = 2 then some (l, v :: v :: st) else match st with
    | w :: st => if w.category = 1 then some (l, v :: w :: v :: w :: st) else none
    | [] => none
  | .pop, v :: st => if v.category = 1 then some (l, st) else none
  | _, _ => none
/-- how many bytes such an instruction has -/
def mz_len (ins : Instr) : Nat := match ins with
  | .bipush _ => 2
  | .sipush _ => 3
  | .iload _ => 2
  | .lload _ => 2
  | .aload _ => 2
  | .istore _ => 2
  | .lstore _ => 2
  | .astore _ => 2
  | .iinc _ _ => 3
  | _ => 1
theorem mz_g_cat (ad : Nat → Nat) (v : Value) : (mz_g ad v).category = v.category := by cases v <;> rfl
theorem mz_ld_mem {l : List (Nat × Value)} {i : Nat} {v : Value} (h : mz_ld l i = some v) : (i, v) ∈ l := by
  induction l with
  | nil => cases h
  | cons q r ih =>
    rw [mz_ld] at h
    by_cases e : q.1 = i
    · rw [if_pos e] at h
      cases h
      rw [← e]
      exact List.mem_cons_self
    · rw [if_neg e] at h
      exact List.mem_cons_of_mem _ (ih h)
theorem mz_ld_ok {ad : Nat → Nat} {ls : Array Slot} {nL : Nat} {l : List (Nat × Value)} {i : Nat} {v : Value} (hl : lv_has ls nL (mz_gl ad l)) (h : mz_ld l i = some v) : ls[i]? = some (.val (mz_g ad v)) :=
  hl.2.2 (i, mz_g ad v) (List.mem_map.mpr ⟨(i, v), mz_ld_mem h, rfl⟩)
theorem mz_s1_ok (ad : Nat → Nat) (l : List (Nat × Value)) (i : Nat) (v : Value) : (i, mz_g ad v) :: (mz_gl ad l).filter (fun q => !(q.1 == i) && !(q.1 + 1 == i && q.2.category == 2)) = mz_gl ad (mz_s1 l i v) := by
  show _ = (i, mz_g ad v) :: mz_gl ad _
  congr 1
  unfold mz_gl
  rw [List.filter_map]
  congr 1
  apply List.filter_congr
  intro q _
  simp [Function.comp, mz_g_cat]
theorem mz_s2_ok (ad : Nat → Nat) (l : List (Nat × Value)) (i : Nat) (v : Value) : (i, mz_g ad v) :: (mz_gl ad l).filter (fun q => !(q.1 == i) && (!(q.1 == i + 1) && !(q.1 + 1 == i && q.2.category == 2))) = mz_gl ad (mz_s2 l i v) := by
  show _ = (i, mz_g ad v) :: mz_gl ad _
  congr 1
  unfold mz_gl
  rw [List.filter_map]
  congr 1
  apply List.filter_congr
  intro q _
  simp [Function.comp, mz_g_cat]
section Mz1
variable {p : Program} {l : Launch} {e : Env} {R : Room} {s : State} {m : MethodId} {args : Array Value} {below : List Frame} {meth : Method} {c : Code} {H : Heap} {locs : List Loc} {cells slots : Nat} {Q : State → Prop} {cc : ByteArray} {pc : Nat} {ls : Array Slot} {nL : Nat} {ad : Nat → Nat}
set_option maxHeartbeats 4000000 in
theorem mz_pu_ok (hx : p.tables.exec = Jvm.exec) (hb : c.code = cc) {ins : Instr} {lv lv' : List (Nat × Value)} {st st' : List Value} (hd : decode cc pc = .ok (ins, mz_len ins)) (hl : lv_has ls nL (mz_gl ad lv)) (h : mz_pu nL ins lv st = some (lv', st'))
    (k : ∀ ls' : Array Slot, lv_has ls' nL (mz_gl ad lv') → W p l e R s m args below meth c H locs cells slots Q (F0 m (pc + mz_len ins) ls' (mz_gs ad st'))) : W p l e R s m args below meth c H locs cells slots Q (F0 m pc ls (mz_gs ad st)) := by
  unfold mz_pu at h
  split at h
  · cases h; exact lv_iconst hx hb hd rfl (k ls hl)
  · cases h; exact lv_bipush hx hb hd rfl (k ls hl)
  · cases h; exact lv_sipush hx hb hd rfl (k ls hl)
  · cases h; exact lv_lconst hx hb hd rfl (k ls hl)
  · split at h
    · rename_i he; cases h; exact lv_iload hx hb hd (mz_ld_ok hl he) (k ls hl)
    · cases h
  · split at h
    · rename_i he; cases h; exact lv_iload_n hx hb hd rfl (mz_ld_ok hl he) (k ls hl)
    · cases h
  · split at h
    · rename_i he; cases h; exact lv_lload hx hb hd (mz_ld_ok hl he) (k ls hl)
    · cases h
  · split at h
    · rename_i he; cases h; exact lv_lload_n hx hb hd rfl (mz_ld_ok hl he) (k ls hl)
    · cases h
  · split at h
    · rename_i he; cases h; exact lv_aload hx hb hd (mz_ld_ok hl he) (k ls hl)
    · cases h
  · split at h
    · rename_i he; cases h; exact lv_aload_n hx hb hd rfl (mz_ld_ok hl he) (k ls hl)
    · cases h
  · split at h
    · rename_i hn; cases h; exact lv_istore hx hb hd hl hn (mz_s1_ok ad _ _ (.int _)) k
    · cases h
  · split at h
    · rename_i hn; cases h; exact lv_istore_n hx hb hd rfl hl hn (mz_s1_ok ad _ _ (.int _)) k
    · cases h
  · split at h
    · rename_i hn; cases h; exact lv_lstore hx hb hd hl hn (mz_s2_ok ad _ _ (.long _)) k
    · cases h
  · split at h
    · rename_i hn; cases h; exact lv_lstore_n hx hb hd rfl hl hn (mz_s2_ok ad _ _ (.long _)) k
    · cases h
  · split at h
    · rename_i hn; cases h; exact lv_astore hx hb hd hl hn (mz_s1_ok ad _ _ (.ref _)) k
    · cases h
  · split at h
    · rename_i hn; cases h; exact lv_astore_n hx hb hd rfl hl hn (mz_s1_ok ad _ _ (.ref _)) k
    · cases h
  · split at h
    · rename_i he
      split at h
      · rename_i hn
        cases h
        obtain ⟨j, hj⟩ := List.getElem?_of_mem (List.mem_map.mpr ⟨_, mz_ld_mem he, rfl⟩ : (_, mz_g ad (.int _)) ∈ mz_gl ad lv)
        exact lv_iinc hx hb hd hl hj rfl hn (mz_s1_ok ad _ _ (.int _)) k
      · cases h
    · cases h
  · cases h; exact lv_iadd hx hb hd (k ls hl)
  · cases h; exact lv_isub hx hb hd (k ls hl)
  · cases h; exact lv_imul hx hb hd (k ls hl)
  · split at h
    · cases h
    · rename_i hn; cases h; exact lv_idiv hx hb hd hn (k ls hl)
  · split at h
    · cases h
    · rename_i hn; cases h; exact lv_irem hx hb hd hn (k ls hl)
  · cases h; exact lv_ineg hx hb hd (k ls hl)
  · cases h; exact lv_iand hx hb hd (k ls hl)
  · cases h; exact lv_ior hx hb hd (k ls hl)
  · cases h; exact lv_ixor hx hb hd (k ls hl)
  · cases h; exact lv_ishl hx hb hd (k ls hl)
  · cases h; exact lv_ishr hx hb hd (k ls hl)
  · cases h; exact lv_iushr hx hb hd rfl (k ls hl)
  · cases h; exact lv_ladd hx hb hd (k ls hl)
  · cases h; exact lv_lsub hx hb hd (k ls hl)
  · cases h; exact lv_lmul hx hb hd (k ls hl)
  · split at h
    · cases h
    · rename_i hn; cases h; exact lv_ldiv hx hb hd hn (k ls hl)
  · split at h
    · cases h
    · rename_i hn; cases h; exact lv_lrem hx hb hd hn (k ls hl)
  · cases h; exact lv_lneg hx hb hd (k ls hl)
  · cases h; exact lv_land hx hb hd (k ls hl)
  · cases h; exact lv_lor hx hb hd (k ls hl)
  · cases h; exact lv_lxor hx hb hd (k ls hl)
  · cases h; exact lv_lshl hx hb hd rfl (k ls hl)
  · cases h; exact lv_lshr hx hb hd rfl (k ls hl)
  · cases h; exact lv_lushr hx hb hd rfl (k ls hl)
  · cases h; exact W.lcmp hx hb hd (k ls hl)
  · cases h; exact lv_i2l hx hb hd rfl (k ls hl)
  · cases h; exact lv_l2i hx hb hd rfl (k ls hl)
  · cases h; exact lv_i2b hx hb hd rfl (k ls hl)
  · cases h; exact lv_i2s hx hb hd rfl (k ls hl)
  · cases h; exact lv_i2c hx hb hd rfl (k ls hl)
  · split at h
    · rename_i hn; cases h; exact lv_dup hx hb hd ((mz_g_cat ad _).trans hn) (k ls hl)
    · cases h
  · split at h
    · rename_i hn; cases h; exact lv_dup2_2 hx hb hd ((mz_g_cat ad _).trans hn) (k ls hl)
    · rename_i hn
      split at h
      · split at h
        · rename_i hw; cases h; exact lv_dup2_11 hx hb hd ((mz_g_cat ad _).trans ((lv_cat _).resolve_right hn)) ((mz_g_cat ad _).trans hw) (k ls hl)
        · cases h
      · cases h
  · split at h
    · rename_i hn; cases h; exact lv_pop hx hb hd ((mz_g_cat ad _).trans hn) (k ls hl)
    · cases h
  · cases h
end Mz1
