/-! PURE (50zzzzzzh): the places left, the best of them. -/
/-- places below n that the mask leaves -/
def rem (n m : Nat) : List Nat := (List.range n).filter (fun j => !m.testBit j)
theorem rem_picks : ∀ n, n < 7 → ∀ m, m < 64 → picks (rem n m) = (rem n m).map (fun j => (j, rem n (m ||| 1 <<< j))) := by decide +kernel
theorem rem_0 : ∀ n, n < 7 → rem n 0 = List.range n := by decide +kernel
theorem rem_chk : ∀ n, n < 7 → ∀ m, m < 64 → ∀ j, j < n → (m.testBit j || (decide ((m ||| 1 <<< j) < 64) && (decide ((rem n (m ||| 1 <<< j)).length + 1 = (rem n m).length) && decide (m < (m ||| 1 <<< j))))) = true := by decide +kernel
theorem rem_in (n : Nat) (hn : n < 7) (m : Nat) (hm : m < 64) (j : Nat) (hj : j < n) (h : m.testBit j = false) : (m ||| 1 <<< j) < 64 ∧ (rem n (m ||| 1 <<< j)).length + 1 = (rem n m).length ∧ m < (m ||| 1 <<< j) := by
  have c := rem_chk n hn m hm j hj
  rw [h, Bool.false_or] at c
  simp only [Bool.and_eq_true] at c
  exact ⟨of_decide_eq_true c.1, of_decide_eq_true c.2.1, of_decide_eq_true c.2.2⟩
theorem rem_mem {n m j : Nat} : j ∈ rem n m ↔ j < n ∧ m.testBit j = false := by
  unfold rem
  rw [List.mem_filter, List.mem_range]
  cases m.testBit j <;> simp
theorem rem_s {n m : Nat} : rem (n + 1) m = if m.testBit n = true then rem n m else rem n m ++ [n] := by
  unfold rem
  rw [List.range_succ, List.filter_append]
  cases h : m.testBit n with
  | true =>
    rw [if_pos rfl]
    have : List.filter (fun j => !m.testBit j) [n] = [] := by simp [h]
    rw [this, List.append_nil]
  | false =>
    rw [if_neg (fun z => by cases z)]
    have : List.filter (fun j => !m.testBit j) [n] = [n] := by simp [h]
    rw [this]
/-- the first best of a list of places (6: none) -/
def bnL (f : Nat → Nat) : List Nat → Nat
  | [] => 6
  | x :: l => fm f x l
theorem bnL_a {f : Nat → Nat} {A : List Nat} {y : Nat} : bnL f (A ++ [y]) = if A = [] then y else if f y < f (bnL f A) then y else bnL f A := by
  cases A with
  | nil => rfl
  | cons x l =>
    rw [if_neg (fun z => by cases z)]
    show fm f x (l ++ [y]) = _
    rw [fm_app]
    rfl
/-- as the loop over the places finds it -/
def bnx (f : Nat → Nat) (m : Nat) : Nat → Nat
  | 0 => 6
  | k + 1 => if m.testBit k = true then bnx f m k else if ¬ bnx f m k < 6 then k else if f k < f (bnx f m k) then k else bnx f m k
theorem bnL_m {f : Nat → Nat} {L : List Nat} (h : L ≠ []) : bnL f L ∈ L := by
  cases L with
  | nil => exact absurd rfl h
  | cons x l =>
    rcases fm_mem (f := f) l x with e | e
    · show fm f x l ∈ _; rw [e]; exact List.mem_cons_self
    · exact List.mem_cons_of_mem _ e
theorem bn_L {f : Nat → Nat} {m : Nat} : ∀ n, n ≤ 6 → bnx f m n = bnL f (rem n m) := by
  intro n
  induction n with
  | zero => intro _; rfl
  | succ n ih =>
    intro hn
    rw [bnx, rem_s, ih (by omega)]
    by_cases w : m.testBit n = true
    · rw [if_pos w, if_pos w]
    · rw [if_neg w, if_neg w, bnL_a]
      by_cases e : rem n m = []
      · rw [if_pos e, e]; rfl
      · have hm := rem_mem.mp (bnL_m (f := f) e)
        rw [if_neg e, if_neg (show ¬ ¬ bnL f (rem n m) < 6 by omega)]
section Gg
variable {w : Nat → Nat → Nat} {sp : Nat → Nat}
def GV (w : Nat → Nat → Nat) (sp : Nat → Nat) (n m a : Nat) : Nat := gv w sp (rem n m).length a (rem n m)
def GP (w : Nat → Nat → Nat) (sp : Nat → Nat) (n m a : Nat) : List Nat := gp w sp (rem n m).length a (rem n m)
def gf (w : Nat → Nat → Nat) (sp : Nat → Nat) (n m a : Nat) : Nat → Nat := fun j => w a (sp j) + GV w sp n (m ||| 1 <<< j) (sp j)
theorem GV_0 {n m a : Nat} (h : rem n m = []) : GV w sp n m a = w a 0 ∧ GP w sp n m a = [] := by unfold GV GP; rw [h]; exact ⟨rfl, rfl⟩
theorem GV_s {n m a : Nat} (hn : n < 7) (hm : m < 64) (h : rem n m ≠ []) : GV w sp n m a = gf w sp n m a (bnL (gf w sp n m a) (rem n m)) ∧ GP w sp n m a = bnL (gf w sp n m a) (rem n m) :: GP w sp n (m ||| 1 <<< bnL (gf w sp n m a) (rem n m)) (sp (bnL (gf w sp n m a) (rem n m))) := by
  have hp := rem_picks n hn m hm
  have hl : ∀ j, j ∈ rem n m → (rem n (m ||| 1 <<< j)).length + 1 = (rem n m).length := fun j hj => (rem_in n hn m hm j (rem_mem.mp hj).1 (rem_mem.mp hj).2).2.1
  obtain ⟨k, hk⟩ : ∃ k, (rem n m).length = k + 1 := ⟨(rem n m).length - 1, by
    have : 0 < (rem n m).length := Nat.pos_of_ne_zero (fun z => h (List.eq_nil_of_length_eq_zero z))
    omega⟩
  unfold GV GP
  rw [hk, gv, gp, hp]
  cases hr : rem n m with
  | nil => exact absurd hr h
  | cons x l =>
    rw [hr] at hl hk
    have e1 := fm_map (f := fun z : Nat × List Nat => w a (sp z.1) + gv w sp k (sp z.1) z.2) (h := fun j => (j, rem n (m ||| 1 <<< j))) l x
    have e2 : fm (fun j => w a (sp j) + gv w sp k (sp j) (rem n (m ||| 1 <<< j))) x l = fm (gf w sp n m a) x l := fm_cg l x (fun j hj => by
      have hj' : j ∈ x :: l := by rcases hj with u | u; rw [u]; exact List.mem_cons_self; exact List.mem_cons_of_mem _ u
      show _ = w a (sp j) + GV w sp n (m ||| 1 <<< j) (sp j)
      unfold GV
      rw [show (rem n (m ||| 1 <<< j)).length = k by have := hl j hj'; omega])
    have e3 : fm (fun z : Nat × List Nat => w a (sp z.1) + gv w sp k (sp z.1) z.2) (x, rem n (m ||| 1 <<< x)) (l.map (fun j => (j, rem n (m ||| 1 <<< j)))) = (fm (gf w sp n m a) x l, rem n (m ||| 1 <<< fm (gf w sp n m a) x l)) := by rw [e1, e2]
    have hb : bnL (gf w sp n m a) (x :: l) = fm (gf w sp n m a) x l := rfl
    have hbm : fm (gf w sp n m a) x l ∈ x :: l := by
      rcases fm_mem (f := gf w sp n m a) l x with u | u
      · rw [u]; exact List.mem_cons_self
      · exact List.mem_cons_of_mem _ u
    have hlen := hl _ hbm
    rw [hb]
    show (fun z : Nat × List Nat => w a (sp z.1) + gv w sp k (sp z.1) z.2) (fm (fun z : Nat × List Nat => w a (sp z.1) + gv w sp k (sp z.1) z.2) (x, rem n (m ||| 1 <<< x)) (l.map (fun j => (j, rem n (m ||| 1 <<< j))))) = _ ∧ (fun z : Nat × List Nat => z.1 :: gp w sp k (sp z.1) z.2) (fm (fun z : Nat × List Nat => w a (sp z.1) + gv w sp k (sp z.1) z.2) (x, rem n (m ||| 1 <<< x)) (l.map (fun j => (j, rem n (m ||| 1 <<< j))))) = _
    rw [e3]
    generalize fm (gf w sp n m a) x l = j at hlen
    have ek : (rem n (m ||| 1 <<< j)).length = k := by omega
    unfold gf GV
    rw [ek]
    exact ⟨rfl, rfl⟩
theorem GP_all {n : Nat} (hn : n < 7) : GP w sp n 0 0 = gp w sp n 0 (List.range n) := by unfold GP; rw [rem_0 n hn, List.length_range]
end Gg
