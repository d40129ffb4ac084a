/-! PURE (50zzzzzze): ways through all places: the first shortest in order is the greedy one. -/
section Fm
variable {β γ : Type} {f : β → Nat}
/-- the first least, from x on -/
def fm (f : β → Nat) : β → List β → β
  | x, [] => x
  | x, y :: ys => fm f (if f y < f x then y else x) ys
theorem fm_app : ∀ (L1 L2 : List β) (x : β), fm f x (L1 ++ L2) = fm f (fm f x L1) L2 := by
  intro L1
  induction L1 with
  | nil => intro L2 x; rfl
  | cons y ys ih => intro L2 x; show fm f _ (ys ++ L2) = fm f (fm f _ ys) L2; exact ih L2 _
theorem fm_acc : ∀ (ys : List β) (x y : β), fm f x (y :: ys) = if f (fm f y ys) < f x then fm f y ys else x := by
  intro ys
  induction ys with
  | nil => intro x y; rfl
  | cons z zs ih =>
    intro x y
    have e1 : fm f x (y :: z :: zs) = fm f (if f y < f x then y else x) (z :: zs) := rfl
    rw [e1, ih _ z, ih y z]
    generalize fm f z zs = m
    by_cases a : f y < f x
    · rw [if_pos a]
      by_cases c : f m < f y
      · rw [if_pos c, if_pos (by omega)]
      · rw [if_neg c, if_pos a]
    · rw [if_neg a]
      by_cases c : f m < f y
      · rw [if_pos c]
      · rw [if_neg c, if_neg (by omega), if_neg a]
theorem fm_le : ∀ (ys : List β) (x : β), f (fm f x ys) ≤ f x := by
  intro ys
  induction ys with
  | nil => intro x; exact Nat.le_refl _
  | cons y ys ih =>
    intro x
    have := ih (if f y < f x then y else x)
    show f (fm f (if f y < f x then y else x) ys) ≤ _
    by_cases a : f y < f x
    · rw [if_pos a] at this ⊢; omega
    · rw [if_neg a] at this ⊢; exact this
theorem fm_map {h : γ → β} : ∀ (L : List γ) (x : γ), fm f (h x) (L.map h) = h (fm (fun c => f (h c)) x L) := by
  intro L
  induction L with
  | nil => intro x; rfl
  | cons y ys ih =>
    intro x
    show fm f (if f (h y) < f (h x) then h y else h x) (ys.map h) = h (fm _ (if f (h y) < f (h x) then y else x) ys)
    by_cases a : f (h y) < f (h x)
    · rw [if_pos a, if_pos a]; exact ih y
    · rw [if_neg a, if_neg a]; exact ih x
theorem fm_cg {g : β → Nat} : ∀ (L : List β) (x : β), (∀ y, y = x ∨ y ∈ L → f y = g y) → fm f x L = fm g x L := by
  intro L
  induction L with
  | nil => intro x _; rfl
  | cons y ys ih =>
    intro x h
    show fm f (if f y < f x then y else x) ys = fm g (if g y < g x then y else x) ys
    rw [h y (Or.inr List.mem_cons_self), h x (Or.inl rfl)]
    refine ih _ (fun z hz => h z ?_)
    rcases hz with w | w
    · by_cases a : g y < g x
      · rw [if_pos a] at w; rw [w]; exact Or.inr List.mem_cons_self
      · rw [if_neg a] at w; exact Or.inl w
    · exact Or.inr (List.mem_cons_of_mem _ w)
/-- adding one and the same changes nothing -/
theorem fm_add {c : Nat} : ∀ (L : List β) (x : β), fm (fun y => c + f y) x L = fm f x L := by
  intro L
  induction L with
  | nil => intro x; rfl
  | cons y ys ih =>
    intro x
    show fm _ (if c + f y < c + f x then y else x) ys = fm f (if f y < f x then y else x) ys
    by_cases a : f y < f x
    · rw [if_pos a, if_pos (by omega)]; exact ih y
    · rw [if_neg a, if_neg (by omega)]; exact ih x
theorem fm_bl {h : γ → β} {t : γ → List β} : ∀ (L : List γ) (x : β), fm f x (L.flatMap (fun c => h c :: t c)) = fm f x (L.map (fun c => fm f (h c) (t c))) := by
  intro L
  induction L with
  | nil => intro x; rfl
  | cons c L ih =>
    intro x
    rw [List.flatMap_cons, fm_app, fm_acc, ih, List.map_cons]
    rfl
end Fm
/-- one out of a list, and the others -/
def picks : List Nat → List (Nat × List Nat)
  | [] => []
  | x :: l => (x, l) :: (picks l).map (fun y => (y.1, x :: y.2))
theorem picks_len : ∀ (l : List Nat) (y : Nat × List Nat), y ∈ picks l → y.2.length + 1 = l.length ∧ y.1 ∈ l := by
  intro l
  induction l with
  | nil => intro y hy; cases hy
  | cons x l ih =>
    intro y hy
    rw [picks] at hy
    rcases List.mem_cons.mp hy with w | w
    · rw [w]; exact ⟨rfl, List.mem_cons_self⟩
    · obtain ⟨z, z1, z2⟩ := List.mem_map.mp w
      obtain ⟨a, c⟩ := ih z z1
      rw [← z2]
      exact ⟨by show (x :: z.2).length + 1 = (x :: l).length; simp only [List.length_cons]; omega, List.mem_cons_of_mem _ c⟩
/-- all orders, the least first -/
def pms : Nat → List Nat → List (List Nat)
  | 0, _ => [[]]
  | n + 1, l => (picks l).flatMap (fun y => (pms n y.2).map (fun p => y.1 :: p))
section Pw
variable {w : Nat → Nat → Nat} {sp : Nat → Nat}
/-- how long a way is: from a through the places, then home -/
def pwc (w : Nat → Nat → Nat) (sp : Nat → Nat) : Nat → List Nat → Nat
  | a, [] => w a 0
  | a, j :: p => w a (sp j) + pwc w sp (sp j) p
/-- the shortest way on, step by step: the first place that leads to it -/
def gv (w : Nat → Nat → Nat) (sp : Nat → Nat) : Nat → Nat → List Nat → Nat
  | 0, a, _ => w a 0
  | n + 1, a, l => match picks l with
    | [] => w a 0
    | y :: ys => (fun z : Nat × List Nat => w a (sp z.1) + gv w sp n (sp z.1) z.2) (fm (fun z : Nat × List Nat => w a (sp z.1) + gv w sp n (sp z.1) z.2) y ys)
def gp (w : Nat → Nat → Nat) (sp : Nat → Nat) : Nat → Nat → List Nat → List Nat
  | 0, _, _ => []
  | n + 1, a, l => match picks l with
    | [] => []
    | y :: ys => (fun z : Nat × List Nat => z.1 :: gp w sp n (sp z.1) z.2) (fm (fun z : Nat × List Nat => w a (sp z.1) + gv w sp n (sp z.1) z.2) y ys)
/-- the first least of a list that isn't empty -/
def fmL (f : List Nat → Nat) : List (List Nat) → List Nat
  | [] => []
  | x :: xs => fm f x xs
theorem fm_mem {β : Type} {f : β → Nat} : ∀ (L : List β) (x : β), fm f x L = x ∨ fm f x L ∈ L := by
  intro L
  induction L with
  | nil => intro x; exact Or.inl rfl
  | cons y ys ih =>
    intro x
    rcases ih (if f y < f x then y else x) with e | e
    · by_cases a : f y < f x
      · rw [if_pos a] at e
        right
        show fm f (if f y < f x then y else x) ys ∈ _
        rw [if_pos a, e]; exact List.mem_cons_self
      · rw [if_neg a] at e
        left
        show fm f (if f y < f x then y else x) ys = x
        rw [if_neg a]; exact e
    · exact Or.inr (List.mem_cons_of_mem _ e)
theorem pms_ok : ∀ (n : Nat) (l : List Nat), l.length = n → ∃ h t, pms n l = h :: t ∧ ∀ a, fm (pwc w sp a) h t = gp w sp n a l ∧ pwc w sp a (gp w sp n a l) = gv w sp n a l := by
  intro n
  induction n with
  | zero => intro l _; exact ⟨[], [], rfl, fun a => ⟨rfl, rfl⟩⟩
  | succ n ih =>
    intro l hl
    -- blocks, one for each first place
    have ex : ∀ y : Nat × List Nat, ∃ h : List Nat, ∃ t : List (List Nat), y.2.length = n → (pms n y.2).map (fun p => y.1 :: p) = h :: t ∧ ∀ a, fm (pwc w sp a) h t = y.1 :: gp w sp n (sp y.1) y.2 ∧ pwc w sp a (y.1 :: gp w sp n (sp y.1) y.2) = w a (sp y.1) + gv w sp n (sp y.1) y.2 := fun y => by
      by_cases hy : y.2.length = n
      · obtain ⟨h, t, e, c⟩ := ih y.2 hy
        refine ⟨y.1 :: h, t.map (fun p => y.1 :: p), fun _ => ⟨by rw [e]; rfl, fun a => ⟨?_, ?_⟩⟩⟩
        · have e1 := fm_map (f := pwc w sp a) (h := fun p => y.1 :: p) t h
          rw [e1]
          have e2 : fm (fun c => pwc w sp a (y.1 :: c)) h t = fm (pwc w sp (sp y.1)) h t := fm_add (f := pwc w sp (sp y.1)) (c := w a (sp y.1)) t h
          rw [e2, (c (sp y.1)).1]
        · show w a (sp y.1) + pwc w sp (sp y.1) (gp w sp n (sp y.1) y.2) = _
          rw [(c (sp y.1)).2]
      · exact ⟨[], [], fun z => absurd z hy⟩
    have hp := picks_len l
    rw [pms]
    cases hpk : picks l with
    | nil =>
      cases l with
      | nil => cases hl
      | cons x l => rw [picks] at hpk; cases hpk
    | cons y ys =>
      rw [hpk] at hp
      have hlen : ∀ z, z ∈ y :: ys → z.2.length = n := fun z hz => by have := (hp z hz).1; omega
      let hh : Nat × List Nat → List Nat := fun z => Classical.choose (ex z)
      let tt : Nat × List Nat → List (List Nat) := fun z => Classical.choose (Classical.choose_spec (ex z))
      have sp' : ∀ z, z ∈ y :: ys → (pms n z.2).map (fun p => z.1 :: p) = hh z :: tt z ∧ ∀ a, fm (pwc w sp a) (hh z) (tt z) = z.1 :: gp w sp n (sp z.1) z.2 ∧ pwc w sp a (z.1 :: gp w sp n (sp z.1) z.2) = w a (sp z.1) + gv w sp n (sp z.1) z.2 := fun z hz => Classical.choose_spec (Classical.choose_spec (ex z)) (hlen z hz)
      have e1 : ys.flatMap (fun z => (pms n z.2).map (fun p => z.1 :: p)) = ys.flatMap (fun z => hh z :: tt z) := by
        have : ∀ L : List (Nat × List Nat), (∀ z, z ∈ L → z ∈ y :: ys) → L.flatMap (fun z => (pms n z.2).map (fun p => z.1 :: p)) = L.flatMap (fun z => hh z :: tt z) := by
          intro L
          induction L with
          | nil => intro _; rfl
          | cons c L ih2 =>
            intro hc
            rw [List.flatMap_cons, List.flatMap_cons, (sp' c (hc c List.mem_cons_self)).1, ih2 (fun z hz => hc z (List.mem_cons_of_mem _ hz))]
        exact this ys (fun z hz => List.mem_cons_of_mem _ hz)
      refine ⟨hh y, tt y ++ ys.flatMap (fun z => hh z :: tt z), ?_, fun a => ?_⟩
      · rw [List.flatMap_cons, (sp' y List.mem_cons_self).1, e1]; rfl
      · have cs : ∀ z, z ∈ y :: ys → fm (pwc w sp a) (hh z) (tt z) = z.1 :: gp w sp n (sp z.1) z.2 := fun z hz => ((sp' z hz).2 a).1
        have cv : ∀ z, z ∈ y :: ys → pwc w sp a (z.1 :: gp w sp n (sp z.1) z.2) = w a (sp z.1) + gv w sp n (sp z.1) z.2 := fun z hz => ((sp' z hz).2 a).2
        have e2 : ys.map (fun z => fm (pwc w sp a) (hh z) (tt z)) = ys.map (fun z => z.1 :: gp w sp n (sp z.1) z.2) := List.map_congr_left (fun z hz => cs z (List.mem_cons_of_mem _ hz))
        have e3 := fm_map (f := pwc w sp a) (h := fun z : Nat × List Nat => z.1 :: gp w sp n (sp z.1) z.2) ys y
        have e4 : fm (fun z : Nat × List Nat => pwc w sp a (z.1 :: gp w sp n (sp z.1) z.2)) y ys = fm (fun z : Nat × List Nat => w a (sp z.1) + gv w sp n (sp z.1) z.2) y ys := fm_cg ys y (fun z hz => cv z (by rcases hz with u | u; rw [u]; exact List.mem_cons_self; exact List.mem_cons_of_mem _ u))
        have g1 : gp w sp (n + 1) a l = (fun z : Nat × List Nat => z.1 :: gp w sp n (sp z.1) z.2) (fm (fun z : Nat × List Nat => w a (sp z.1) + gv w sp n (sp z.1) z.2) y ys) := by rw [gp, hpk]
        have g2 : gv w sp (n + 1) a l = (fun z : Nat × List Nat => w a (sp z.1) + gv w sp n (sp z.1) z.2) (fm (fun z : Nat × List Nat => w a (sp z.1) + gv w sp n (sp z.1) z.2) y ys) := by rw [gv, hpk]
        have mem : fm (fun z : Nat × List Nat => w a (sp z.1) + gv w sp n (sp z.1) z.2) y ys ∈ y :: ys := by
          rcases fm_mem (f := fun z : Nat × List Nat => w a (sp z.1) + gv w sp n (sp z.1) z.2) ys y with u | u
          · rw [u]; exact List.mem_cons_self
          · exact List.mem_cons_of_mem _ u
        refine ⟨?_, ?_⟩
        · rw [fm_app, cs y List.mem_cons_self, fm_bl, e2, e3, e4, g1]
        · rw [g1, g2]; exact cv _ mem
end Pw
