/-! PURE (50zzzzzf): calls that only ask, up or down (made by wip/gen/asks.py). -/
/-- a call whose only refusal is that the store is down -/
def caq1 {α : Type} (q B : Nat) (b : Bool) (N1 N2 : mz_N) (c : Nat × α) (r : α × mz_N) : Prop := (c.1 = 0 ∨ c.1 = 2) ∧ r.2.1 232 0 = nI (c.1 / 2) ∧ (c.1 = 0 → r.1 = c.2) ∧ oF N1 N2 N1 r.2 ∧ Sm q B N1 b r.2
def cal1 {α : Type} (q B : Nat) (b : Bool) (N1 N2 : mz_N) (c : Nat × α × mz_N) (r : α × mz_N) : Prop := (c.1 = 0 ∨ c.1 = 2) ∧ r.2.1 232 0 = nI (c.1 / 2) ∧ (c.1 = 0 → r.1 = c.2.1) ∧ oF N1 N2 c.2.2 r.2 ∧ Sm q B c.2.2 b r.2
theorem f484_d {N : mz_N} (h : N.1 232 137 = 1) : cp_484_0 N ∧ cf_484_0 N = (true, mz_pI N 232 0 1) := by
  have e : mz_fZ N 232 137 = true := by show decide (N.1 232 137 = 1) = true; rw [h]; rfl
  have e2 : (mz_pI N 232 0 (mz_b01 true)).1 232 137 = 1 := h
  rw [cp_484_0, cf_484_0, e, h, if_pos rfl, cp_484_13, cf_484_13, cp_484_13]
  refine ⟨⟨Or.inr rfl, fun _ => by rw [e2]; exact Or.inr rfl, fun z => absurd rfl z⟩, ?_⟩
  show (decide ((mz_pI N 232 0 (mz_b01 true)).1 232 137 = 1), mz_pI N 232 0 1) = _
  rw [e2]; rfl
section Ak
variable {N N1 N2 : mz_N} {b : Bool} {B q : Nat} {v v1 v2 v3 : Int32}
theorem caq1_u {α : Type} {c : Nat × α} {r : α × mz_N} (h : Sm q B N1 b N2) (h0 : c.1 = 0) (hq : qok N2 c r) : caq1 q B b N1 N2 c r := by
  obtain ⟨h1, h2, h3⟩ := hq
  rw [h0] at h2
  exact ⟨Or.inl h0, by rw [h2, h0]; exact code_0, h3, by rw [h2]; exact oF_code, by rw [h2]; exact Sm_code h⟩
theorem caq1_d {α : Type} {a a' : α} {c : Nat × α} {r : α × mz_N} (h : Sm q B N1 b N2) (h1 : c = (2, a)) (h2 : r = (a', mz_pI N2 232 0 1)) : caq1 q B b N1 N2 c r := by
  subst h1 h2
  exact ⟨Or.inr rfl, (by show (mz_pI N2 232 0 1).1 232 0 = nI (2 / 2); rw [show (2 : Nat) / 2 = 1 from rfl]; exact code_0), fun z => absurd z (show (2 : Nat) ≠ 0 by decide), oF_code, Sm_code h⟩
theorem cal1_d {α : Type} {a a' : α} {c : Nat × α × mz_N} {r : α × mz_N} (h : Sm q B N1 b N2) (h1 : c = (2, a, N1)) (h2 : r = (a', mz_pI N2 232 0 1)) : cal1 q B b N1 N2 c r := by
  subst h1 h2
  exact ⟨Or.inr rfl, (by show (mz_pI N2 232 0 1).1 232 0 = nI (2 / 2); rw [show (2 : Nat) / 2 = 1 from rfl]; exact code_0), fun z => absurd z (show (2 : Nat) ≠ 0 by decide), oF_code, Sm_code h⟩
theorem qok_d {α : Type} {a a' : α} {c : Nat × α} {r : α × mz_N} (h1 : c = (2, a)) (h2 : r = (a', mz_pI N2 232 0 2)) : qok N2 c r := by
  subst h1 h2
  exact ⟨Nat.le_refl _, rfl, fun z => absurd z (show (2 : Nat) ≠ 0 by decide)⟩
theorem meter_al (h : Sm q B N1 b N2) : cp_356_0 v1 v2 N1 ∧ cp_586_0 v1 v2 N2 ∧ caq q B b N1 N2 (cf_356_0 v1 v2 N1) (cf_586_0 v1 v2 N2) := by
  rcases h with h | h
  · obtain ⟨p, C, s, D, H, x, L, R, h1, h2, h3, h4, h5, h6⟩ := id h
    obtain ⟨a1, a2, a3⟩ := meter_ok h3
    exact ⟨a1, a2, caq_q (Or.inl h) a3⟩
  · obtain ⟨w1, w2⟩ := Sm_d h
    obtain ⟨u1, u2⟩ := c104_d w1
    obtain ⟨F1, F2⟩ := F_d w2
    exact ⟨by simp [cp_356_0, u1, u2], by simp [cp_586_0, cp_586_29, cp_586_30, F1, F2], caq_q (Or.inr h) (qok_d (by simp [cf_356_0, u2]; rfl) (by simp [cf_586_0, cf_586_29, cf_586_30, F2]; rfl))⟩
theorem account_al (h : Sm q B N1 b N2) : cp_358_0 v1 v2 N1 ∧ cp_587_0 v1 v2 N2 ∧ caq q B b N1 N2 (cf_358_0 v1 v2 N1) (cf_587_0 v1 v2 N2) := by
  rcases h with h | h
  · obtain ⟨p, C, s, D, H, x, L, R, h1, h2, h3, h4, h5, h6⟩ := id h
    obtain ⟨a1, a2, a3⟩ := account_ok h3
    exact ⟨a1, a2, caq_q (Or.inl h) a3⟩
  · obtain ⟨w1, w2⟩ := Sm_d h
    obtain ⟨u1, u2⟩ := c104_d w1
    obtain ⟨F1, F2⟩ := F_d w2
    exact ⟨by simp [cp_358_0, u1, u2], by simp [cp_587_0, cp_587_28, cp_587_27, F1, F2], caq_q (Or.inr h) (qok_d (by simp [cf_358_0, u2]; rfl) (by simp [cf_587_0, cf_587_28, cf_587_27, F2]; rfl))⟩
theorem money_al (h : Sm q B N1 b N2) : cp_360_0 v1 N1 ∧ cp_588_0 v1 N2 ∧ caq q B b N1 N2 (cf_360_0 v1 N1) (cf_588_0 v1 N2) := by
  rcases h with h | h
  · obtain ⟨p, C, s, D, H, x, L, R, h1, h2, h3, h4, h5, h6⟩ := id h
    obtain ⟨a1, a2, a3⟩ := money_ok h3
    exact ⟨a1, a2, caq_q (Or.inl h) a3⟩
  · obtain ⟨w1, w2⟩ := Sm_d h
    obtain ⟨u1, u2⟩ := c104_d w1
    obtain ⟨F1, F2⟩ := F_d w2
    exact ⟨by simp [cp_360_0, u1, u2], by simp [cp_588_0, F1, F2], caq_q (Or.inr h) (qok_d (by simp [cf_360_0, u2]; rfl) (by simp [cf_588_0, F2]; rfl))⟩
theorem part_al (h : Sm q B N1 b N2) : cp_354_0 v1 v2 N1 ∧ cp_573_0 v1 v2 N2 ∧ caq q B b N1 N2 (cf_354_0 v1 v2 N1) (cf_573_0 v1 v2 N2) := by
  rcases h with h | h
  · obtain ⟨p, C, s, D, H, x, L, R, h1, h2, h3, h4, h5, h6⟩ := id h
    obtain ⟨a1, a2, a3⟩ := part_ok h3
    exact ⟨a1, a2, caq_q (Or.inl h) a3⟩
  · obtain ⟨w1, w2⟩ := Sm_d h
    obtain ⟨u1, u2⟩ := c104_d w1
    obtain ⟨F1, F2⟩ := F_d w2
    exact ⟨by simp [cp_354_0, u1, u2], by simp [cp_573_0, cp_573_30, cp_573_29, F1, F2], caq_q (Or.inr h) (qok_d (by simp [cf_354_0, u2]; rfl) (by simp [cf_573_0, cf_573_30, cf_573_29, F2]; rfl))⟩
theorem circuit_al (h : Sm q B N1 b N2) : cp_285_0 v1 v2 N1 ∧ cp_551_0 v1 v2 N2 ∧ caq q B b N1 N2 (cf_285_0 v1 v2 N1) (cf_551_0 v1 v2 N2) := by
  rcases h with h | h
  · obtain ⟨p, C, s, D, H, x, L, R, h1, h2, h3, h4, h5, h6⟩ := id h
    obtain ⟨a1, a2, a3⟩ := circuit_ok h3
    exact ⟨a1, a2, caq_q (Or.inl h) a3⟩
  · obtain ⟨w1, w2⟩ := Sm_d h
    obtain ⟨u1, u2⟩ := c104_d w1
    obtain ⟨F1, F2⟩ := F_d w2
    exact ⟨by simp [cp_285_0, u1, u2], by simp [cp_551_0, cp_551_30, cp_551_29, F1, F2], caq_q (Or.inr h) (qok_d (by simp [cf_285_0, u2]; rfl) (by simp [cf_551_0, cf_551_30, cf_551_29, F2]; rfl))⟩
theorem state_al (h : Sm q B N1 b N2) : cp_287_0 v1 N1 ∧ cp_552_0 v1 N2 ∧ caq q B b N1 N2 (cf_287_0 v1 N1) (cf_552_0 v1 N2) := by
  rcases h with h | h
  · obtain ⟨p, C, s, D, H, x, L, R, h1, h2, h3, h4, h5, h6⟩ := id h
    obtain ⟨a1, a2, a3⟩ := state_ok h3
    exact ⟨a1, a2, caq_q (Or.inl h) a3⟩
  · obtain ⟨w1, w2⟩ := Sm_d h
    obtain ⟨u1, u2⟩ := c104_d w1
    obtain ⟨F1, F2⟩ := F_d w2
    exact ⟨by simp [cp_287_0, u1, u2], by simp [cp_552_0, F1, F2], caq_q (Or.inr h) (qok_d (by simp [cf_287_0, u2]; rfl) (by simp [cf_552_0, F2]; rfl))⟩
theorem target_al (h : Sm q B N1 b N2) : cp_196_0 v1 N1 ∧ cp_505_0 v1 N2 ∧ caq q B b N1 N2 (cf_196_0 v1 N1) (cf_505_0 v1 N2) := by
  rcases h with h | h
  · obtain ⟨p, C, s, D, H, x, L, R, h1, h2, h3, h4, h5, h6⟩ := id h
    obtain ⟨a1, a2, a3⟩ := target_ok h3
    exact ⟨a1, a2, caq_q (Or.inl h) a3⟩
  · obtain ⟨w1, w2⟩ := Sm_d h
    obtain ⟨u1, u2⟩ := c104_d w1
    obtain ⟨F1, F2⟩ := F_d w2
    exact ⟨by simp [cp_196_0, u1, u2], by simp [cp_505_0, F1, F2], caq_q (Or.inr h) (qok_d (by simp [cf_196_0, u2]; rfl) (by simp [cf_505_0, F2]; rfl))⟩
theorem cell_al (h : Sm q B N1 b N2) : cp_289_0 v1 v2 v3 N1 ∧ cp_553_0 v1 v2 v3 N2 ∧ caq q B b N1 N2 (cf_289_0 v1 v2 v3 N1) (cf_553_0 v1 v2 v3 N2) := by
  rcases h with h | h
  · obtain ⟨p, C, s, D, H, x, L, R, h1, h2, h3, h4, h5, h6⟩ := id h
    obtain ⟨a1, a2, a3⟩ := cell_ok h3
    exact ⟨a1, a2, caq_q (Or.inl h) a3⟩
  · obtain ⟨w1, w2⟩ := Sm_d h
    obtain ⟨u1, u2⟩ := c104_d w1
    obtain ⟨F1, F2⟩ := F_d w2
    exact ⟨by simp [cp_289_0, u1, u2], by simp [cp_553_0, cp_553_26, cp_553_25, F1, F2], caq_q (Or.inr h) (qok_d (by simp [cf_289_0, u2]; rfl) (by simp [cf_553_0, cf_553_26, cf_553_25, F2]; rfl))⟩
theorem spaces_al (h : Sm q B N1 b N2) : cp_154_0 N1 ∧ cp_485_0 N2 ∧ caq1 q B b N1 N2 (cf_154_0 N1) (cf_485_0 N2) := by
  rcases h with h | h
  · obtain ⟨p, C, s, D, H, x, L, R, h1, h2, h3, h4, h5, h6⟩ := id h
    obtain ⟨a1, a2, a3⟩ := spaces_ok h3
    obtain ⟨u1, u2⟩ := c104_u (MR_u1 h3)
    exact ⟨a1, a2, caq1_u (Or.inl h) (by simp [cf_154_0, u2]) a3⟩
  · obtain ⟨w1, w2⟩ := Sm_d h
    obtain ⟨u1, u2⟩ := c104_d w1
    obtain ⟨F1, F2⟩ := f484_d w2
    exact ⟨by simp [cp_154_0, u1, u2], by simp [cp_485_0, F1, F2], caq1_d (Or.inr h) (by simp [cf_154_0, u2]; rfl) (by simp [cf_485_0, F2]; rfl)⟩
theorem alarms_al (h : Sm q B N1 b N2) : cp_295_0 N1 ∧ cp_545_0 N2 ∧ caq1 q B b N1 N2 (cf_295_0 N1) (cf_545_0 N2) := by
  rcases h with h | h
  · obtain ⟨p, C, s, D, H, x, L, R, h1, h2, h3, h4, h5, h6⟩ := id h
    obtain ⟨a1, a2, a3⟩ := alarms_ok h3
    obtain ⟨u1, u2⟩ := c104_u (MR_u1 h3)
    exact ⟨a1, a2, caq1_u (Or.inl h) (by simp [cf_295_0, u2]) a3⟩
  · obtain ⟨w1, w2⟩ := Sm_d h
    obtain ⟨u1, u2⟩ := c104_d w1
    obtain ⟨F1, F2⟩ := f484_d w2
    exact ⟨by simp [cp_295_0, u1, u2], by simp [cp_545_0, F1, F2], caq1_d (Or.inr h) (by simp [cf_295_0, u2]; rfl) (by simp [cf_545_0, F2]; rfl)⟩
end Ak
