/-! ===== programs: bases, steps, wants; left, right (of nodes), wants' nodes ===== -/
abbrev pw_P : Type := Int × Int × Int × (Int → Int) × (Int → Int) × (Int → Int)
def pw_at (M : ms_M) (a : Int) (P : pw_P) : Prop :=
  M a 0 = a + 1 ∧ M a 1 = a + 2 ∧ M a 2 = a + 3 ∧ M a 3 = P.1 ∧ M a 4 = P.2.1 ∧ M a 5 = P.2.2.1 ∧ (∀ n, P.1 ≤ n → n < P.1 + P.2.1 → M (a + 1) n = P.2.2.2.1 n ∧ M (a + 2) n = P.2.2.2.2.1 n) ∧ (∀ k, 0 ≤ k → k < P.2.2.1 → M (a + 3) k = P.2.2.2.2.2 k)
def pw_dim (P : pw_P) : Prop := 0 ≤ P.1 ∧ P.1 ≤ 4 ∧ 0 ≤ P.2.1 ∧ P.2.1 ≤ 60 ∧ 0 ≤ P.2.2.1 ∧ P.2.2.1 ≤ 4
/-- steps are of nodes ahead, wants are nodes -/
def pw_lnk (P : pw_P) : Prop := (∀ n, P.1 ≤ n → n < P.1 + P.2.1 → 0 ≤ P.2.2.2.1 n ∧ P.2.2.2.1 n < n ∧ 0 ≤ P.2.2.2.2.1 n ∧ P.2.2.2.2.1 n < n) ∧ ∀ k, 0 ≤ k → k < P.2.2.1 → 0 ≤ P.2.2.2.2.2 k ∧ P.2.2.2.2.2 k < P.1 + P.2.1
theorem pw_at_fr {M M' : ms_M} {a : Int} {P : pw_P} (h0 : M' a = M a) (h1 : M' (a + 1) = M (a + 1)) (h2 : M' (a + 2) = M (a + 2)) (h3 : M' (a + 3) = M (a + 3)) (h : pw_at M a P) : pw_at M' a P := by
  unfold pw_at at h ⊢
  rw [h0, h1, h2, h3]
  exact h
theorem pw_pidr {a : Int} (h : pw_pid a) : 1 ≤ a ∧ a ≤ 99 ∧ (a ≤ 9 ∨ (17 ≤ a ∧ a ≤ 61) ∨ 91 ≤ a) := by
  rcases h with ⟨k, rfl, h1, h2, h3⟩ | ⟨k, rfl, h1, h2⟩ <;> omega
theorem ms_up_row {M : ms_M} {a j v c : Int} (h : c ≠ a) : ms_up M a j v c = M c := funext fun j' => ms_up_a h
/-- how many of n numbers from lo on have it -/
def pw_cnt (f : Int → Prop) [∀ n, Decidable (f n)] (lo : Int) : Nat → Int
  | 0 => 0
  | n + 1 => pw_cnt f lo n + (if f (lo + n) then 1 else 0)
theorem pw_cnt_in (f : Int → Prop) [∀ n, Decidable (f n)] (lo : Int) : ∀ n : Nat, 0 ≤ pw_cnt f lo n ∧ pw_cnt f lo n ≤ n
  | 0 => by simp [pw_cnt]
  | n + 1 => by
    have := pw_cnt_in f lo n
    unfold pw_cnt
    split <;> omega
/-- a sum over n numbers from lo on -/
def pw_sum (f : Int → Int) (lo : Int) : Nat → Int
  | 0 => 0
  | n + 1 => pw_sum f lo n + f (lo + n)
/-- the kind of a node: 0 doubling, 1 star, 2 other, 3 base -/
def pw_kind (P : pw_P) (n : Int) : Int := if n < P.1 then 3 else if P.2.2.2.1 n = P.2.2.2.2.1 n then 0 else if P.2.2.2.1 n = n - 1 ∨ P.2.2.2.2.1 n = n - 1 then 1 else 2
def pw_use (P : pw_P) (a n : Int) : Int := (if P.2.2.2.1 n = a then 1 else 0) + (if P.2.2.2.2.1 n = a then 1 else 0)
