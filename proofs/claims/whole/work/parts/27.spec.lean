theorem x_up {M : ms_M} {a j v a' j' : Int} : ms_up M a j v a' j' = if a' = a ∧ j' = j then v else M a' j' := rfl
theorem x_nw {M : ms_M} {n a j : Int} {f : Int → Int} : ms_nw M n f a j = if a = n then f j else M a j := rfl
/-! ===== what is read off a program ===== -/
theorem pw_up {hi : Int} {p : Int → Prop} (h : ∀ i, i ≤ hi → (∀ i', i < i' → i' ≤ hi → p i') → p i) : ∀ i, i ≤ hi → p i := by
  have key : ∀ (n : Nat) (i : Int), i ≤ hi → (hi - i).toNat = n → p i := by
    intro n
    induction n using Nat.strongRecOn with
    | _ n ih => exact fun i hi' hn => h i hi' (fun i' h1 h2 => ih (hi - i').toNat (by omega) i' h2 rfl)
  exact fun i hi' => key _ i hi' rfl
theorem pw_dn {lo : Int} {p : Int → Prop} (h : ∀ i, lo ≤ i → (∀ i', i' < i → lo ≤ i' → p i') → p i) : ∀ i, lo ≤ i → p i := by
  have key : ∀ (n : Nat) (i : Int), lo ≤ i → (i - lo).toNat = n → p i := by
    intro n
    induction n using Nat.strongRecOn with
    | _ n ih => exact fun i hi' hn => h i hi' (fun i' h1 h2 => ih (i' - lo).toNat (by omega) i' h2 rfl)
  exact fun i hi' => key _ i hi' rfl
/-- a row of memory written anew -/
theorem ms_nw_nw {M : ms_M} {n : Int} {f g : Int → Int} : ms_nw (ms_nw M n f) n g = ms_nw M n g := by
  funext a j
  unfold ms_nw
  by_cases h : a = n
  · rw [if_pos h, if_pos h]
  · rw [if_neg h, if_neg h, if_neg h]
theorem ms_nw_row {M : ms_M} {n : Int} {f : Int → Int} : ms_nw M n f n = f := funext fun j => ms_nw_same
theorem ms_nw_rne {M : ms_M} {n a : Int} {f : Int → Int} (h : a ≠ n) : ms_nw M n f a = M a := funext fun j => ms_nw_ne h
theorem ms_nw_self {M : ms_M} {n : Int} : ms_nw M n (M n) = M := by
  funext a j
  unfold ms_nw
  by_cases h : a = n
  · rw [if_pos h, h]
  · rw [if_neg h]
theorem ms_up_nw {M : ms_M} {n i x : Int} {f : Int → Int} : ms_up (ms_nw M n f) n i x = ms_nw M n (fun j => if j = i then x else f j) := by
  funext a j
  unfold ms_up ms_nw
  by_cases h : a = n
  · by_cases hj : j = i
    · rw [if_pos ⟨h, hj⟩, if_pos h]
      simp only [if_pos hj]
    · rw [if_neg (fun q => hj q.2), if_pos h, if_pos h]
      simp only [if_neg hj]
  · rw [if_neg (fun q => h q.1), if_neg h, if_neg h]
theorem ms_up_is {M : ms_M} {n i x : Int} : ms_up M n i x = ms_nw M n (fun j => if j = i then x else M n j) := by
  rw [← ms_up_nw (f := M n), ms_nw_self]
theorem pw_at_nw {M : ms_M} {a k : Int} {P : pw_P} {f : Int → Int} (hk : k < a ∨ a + 3 < k) (h : pw_at M a P) : pw_at (ms_nw M k f) a P := pw_at_fr (ms_nw_rne (by omega)) (ms_nw_rne (by omega)) (ms_nw_rne (by omega)) (ms_nw_rne (by omega)) h
theorem pw_at_up {M : ms_M} {a k i x : Int} {P : pw_P} (hk : k < a ∨ a + 3 < k) (h : pw_at M a P) : pw_at (ms_up M k i x) a P := pw_at_fr (ms_up_row (by omega)) (ms_up_row (by omega)) (ms_up_row (by omega)) (ms_up_row (by omega)) h
/-! exponents -/
def pw_exf (P : pw_P) : Nat → Int → Int → Int
  | 0, _, _ => 0
  | k + 1, n, c => if n < P.1 then (if c = n then 1 else 0) else pw_exf P k (P.2.2.2.1 n) c + pw_exf P k (P.2.2.2.2.1 n) c
def pw_ex (P : pw_P) (n c : Int) : Int := pw_exf P (n.toNat + 1) n c
theorem pw_exf_ex {P : pw_P} (hl : pw_lnk P) : ∀ (k : Nat) (n c : Int), 0 ≤ n → n < P.1 + P.2.1 → n.toNat < k → pw_exf P k n c = pw_ex P n c := by
  have key : ∀ (k : Nat) (n c : Int), 0 ≤ n → n < P.1 + P.2.1 → n.toNat < k → ∀ k', n.toNat < k' → pw_exf P k n c = pw_exf P k' n c := by
    intro k
    induction k with
    | zero => intro n c h0 h1 h2; omega
    | succ k ih =>
      intro n c h0 h1 h2 k' h3
      cases k' with
      | zero => omega
      | succ k' =>
        simp only [pw_exf]
        by_cases hb : n < P.1
        · rw [if_pos hb, if_pos hb]
        · rw [if_neg hb, if_neg hb]
          obtain ⟨l0, l1, r0, r1⟩ := hl.1 n (by omega) h1
          rw [ih _ c l0 (by omega) (by omega) k' (by omega), ih _ c r0 (by omega) (by omega) k' (by omega)]
  intro k n c h0 h1 h2
  exact key k n c h0 h1 h2 _ (by omega)
theorem pw_ex_b {P : pw_P} {n c : Int} (h : n < P.1) : pw_ex P n c = if c = n then 1 else 0 := by
  unfold pw_ex pw_exf
  rw [if_pos h]
theorem pw_ex_s {P : pw_P} (hl : pw_lnk P) {n c : Int} (h0 : P.1 ≤ n) (hb : 0 ≤ n) (h1 : n < P.1 + P.2.1) : pw_ex P n c = pw_ex P (P.2.2.2.1 n) c + pw_ex P (P.2.2.2.2.1 n) c := by
  obtain ⟨l0, l1, r0, r1⟩ := hl.1 n h0 h1
  show pw_exf P (n.toNat + 1) n c = _
  simp only [pw_exf]
  rw [if_neg (by omega), pw_exf_ex hl _ _ _ l0 (by omega) (by omega), pw_exf_ex hl _ _ _ r0 (by omega) (by omega)]
def pw_big (P : pw_P) : Prop := ∀ n c, 0 ≤ n → n < P.1 + P.2.1 → 0 ≤ c → c < 4 → 0 ≤ pw_ex P n c ∧ pw_ex P n c ≤ 1000000000000000
def pw_ok (P : pw_P) : Prop := pw_dim P ∧ pw_lnk P ∧ pw_big P
def pw_alk (P : pw_P) (j n : Int) : Prop := pw_ex P j 0 = pw_ex P n 0 ∧ pw_ex P j 1 = pw_ex P n 1 ∧ pw_ex P j 2 = pw_ex P n 2 ∧ pw_ex P j 3 = pw_ex P n 3
def pw_alb (P : pw_P) (j n : Int) : Bool := decide (pw_ex P j 0 = pw_ex P n 0) && decide (pw_ex P j 1 = pw_ex P n 1) && decide (pw_ex P j 2 = pw_ex P n 2) && decide (pw_ex P j 3 = pw_ex P n 3)
theorem pw_alb_iff {P : pw_P} {j n : Int} : pw_alb P j n = true ↔ ∀ c, 0 ≤ c → c < 4 → pw_ex P j c = pw_ex P n c := by
  unfold pw_alb
  simp only [Bool.and_eq_true, decide_eq_true_eq]
  constructor
  · intro ⟨⟨⟨h0, h1⟩, h2⟩, h3⟩ c hc0 hc4
    rcases (show c = 0 ∨ c = 1 ∨ c = 2 ∨ c = 3 by omega) with rfl | rfl | rfl | rfl <;> assumption
  · intro h
    exact ⟨⟨⟨h 0 (by omega) (by omega), h 1 (by omega) (by omega)⟩, h 2 (by omega) (by omega)⟩, h 3 (by omega) (by omega)⟩
/-- the first node from k on that n is alike to, within f tries -/
def pw_fas (P : pw_P) (n : Int) : Nat → Int → Int
  | 0, k => k
  | f + 1, k => if pw_alb P k n then k else pw_fas P n f (k + 1)
def pw_fa (P : pw_P) (n : Int) : Int := pw_fas P n n.toNat 0
theorem pw_fas_in {P : pw_P} {n : Int} : ∀ (f : Nat) (k : Int), k ≤ pw_fas P n f k ∧ pw_fas P n f k ≤ k + f
  | 0, k => by simp [pw_fas]
  | f + 1, k => by
    have := pw_fas_in (P := P) (n := n) f (k + 1)
    unfold pw_fas
    split
    · omega
    · omega
theorem pw_fas_alk {P : pw_P} {n : Int} : ∀ (f : Nat) (k : Int), k + f = n → pw_alb P (pw_fas P n f k) n = true
  | 0, k, h => by
    have : k = n := by omega
    subst this
    exact pw_alb_iff.mpr (fun _ _ _ => rfl)
  | f + 1, k, h => by
    unfold pw_fas
    split
    · assumption
    · exact pw_fas_alk f (k + 1) (by omega)
theorem pw_fa_in {P : pw_P} {n : Int} (h : 0 ≤ n) : 0 ≤ pw_fa P n ∧ pw_fa P n ≤ n := by
  have := pw_fas_in (P := P) (n := n) n.toNat 0
  unfold pw_fa
  omega
theorem pw_fa_alk {P : pw_P} {n : Int} (h : 0 ≤ n) : pw_alb P (pw_fa P n) n = true := pw_fas_alk _ _ (by omega)
/-! depths -/
def pw_max (a b : Int) : Int := if a < b then b else a
def pw_dpf (P : pw_P) : Nat → Int → Int
  | 0, _ => 0
  | k + 1, n => if n < P.1 then 0 else 1 + pw_max (pw_dpf P k (P.2.2.2.1 n)) (pw_dpf P k (P.2.2.2.2.1 n))
def pw_dp (P : pw_P) (n : Int) : Int := pw_dpf P (n.toNat + 1) n
theorem pw_dpf_dp {P : pw_P} (hl : pw_lnk P) : ∀ (k : Nat) (n : Int), 0 ≤ n → n < P.1 + P.2.1 → n.toNat < k → pw_dpf P k n = pw_dp P n := by
  have key : ∀ (k : Nat) (n : Int), 0 ≤ n → n < P.1 + P.2.1 → n.toNat < k → ∀ k', n.toNat < k' → pw_dpf P k n = pw_dpf P k' n := by
    intro k
    induction k with
    | zero => intro n h0 h1 h2; omega
    | succ k ih =>
      intro n h0 h1 h2 k' h3
      cases k' with
      | zero => omega
      | succ k' =>
        simp only [pw_dpf]
        by_cases hb : n < P.1
        · rw [if_pos hb, if_pos hb]
        · rw [if_neg hb, if_neg hb]
          obtain ⟨l0, l1, r0, r1⟩ := hl.1 n (by omega) h1
          rw [ih _ l0 (by omega) (by omega) k' (by omega), ih _ r0 (by omega) (by omega) k' (by omega)]
  intro k n h0 h1 h2
  exact key k n h0 h1 h2 _ (by omega)
theorem pw_dp_b {P : pw_P} {n : Int} (h : n < P.1) : pw_dp P n = 0 := by
  unfold pw_dp pw_dpf
  rw [if_pos h]
theorem pw_dp_s {P : pw_P} (hl : pw_lnk P) {n : Int} (h0 : P.1 ≤ n) (hb : 0 ≤ n) (h1 : n < P.1 + P.2.1) : pw_dp P n = 1 + pw_max (pw_dp P (P.2.2.2.1 n)) (pw_dp P (P.2.2.2.2.1 n)) := by
  obtain ⟨l0, l1, r0, r1⟩ := hl.1 n h0 h1
  show pw_dpf P (n.toNat + 1) n = _
  simp only [pw_dpf]
  rw [if_neg (by omega), pw_dpf_dp hl _ _ l0 (by omega) (by omega), pw_dpf_dp hl _ _ r0 (by omega) (by omega)]
theorem pw_dp_in {P : pw_P} (hl : pw_lnk P) : ∀ n, 0 ≤ n → n < P.1 + P.2.1 → 0 ≤ pw_dp P n ∧ pw_dp P n ≤ n := by
  have key : ∀ (k : Nat) (n : Int), n.toNat < k → 0 ≤ n → n < P.1 + P.2.1 → 0 ≤ pw_dp P n ∧ pw_dp P n ≤ n := by
    intro k
    induction k with
    | zero => intro n h; omega
    | succ k ih =>
      intro n hk h0 h1
      by_cases hb : n < P.1
      · rw [pw_dp_b hb]; omega
      · obtain ⟨l0, l1, r0, r1⟩ := hl.1 n (by omega) h1
        have e1 := ih _ (by omega) l0 (by omega)
        have e2 := ih _ (by omega) r0 (by omega)
        rw [pw_dp_s hl (by omega) h0 h1]
        unfold pw_max
        split <;> omega
  exact fun n h0 h1 => key (n.toNat + 1) n (by omega) h0 h1
/-- the greatest of f over the first n numbers (0 at least) -/
def pw_mxf (f : Int → Int) : Nat → Int
  | 0 => 0
  | n + 1 => pw_max (pw_mxf f n) (f n)
/-! needed nodes: marks of wants, then, from the last step down, of what is needed -/
def pw_nd0 (P : pw_P) : Nat → Int → Int
  | 0 => fun _ => 0
  | k + 1 => fun n => if n = P.2.2.2.2.2 k then 1 else pw_nd0 P k n
def pw_ndf (P : pw_P) : Nat → Int → Int
  | 0 => pw_nd0 P P.2.2.1.toNat
  | i + 1 => if pw_ndf P i (P.1 + P.2.1 - 1 - i) = 0 then pw_ndf P i else fun n => if n = P.2.2.2.2.1 (P.1 + P.2.1 - 1 - i) then 1 else if n = P.2.2.2.1 (P.1 + P.2.1 - 1 - i) then 1 else pw_ndf P i n
def pw_nd (P : pw_P) : Int → Int := pw_ndf P P.2.1.toNat
theorem pw_nd0_01 (P : pw_P) : ∀ (k : Nat) (n : Int), pw_nd0 P k n = 0 ∨ pw_nd0 P k n = 1
  | 0, n => Or.inl rfl
  | k + 1, n => by
    simp only [pw_nd0]
    split
    · exact Or.inr rfl
    · exact pw_nd0_01 P k n
theorem pw_ndf_01 (P : pw_P) : ∀ (i : Nat) (n : Int), pw_ndf P i n = 0 ∨ pw_ndf P i n = 1
  | 0, n => pw_nd0_01 P _ n
  | i + 1, n => by
    unfold pw_ndf
    split
    · exact pw_ndf_01 P i n
    · simp only
      split
      · exact Or.inr rfl
      · split
        · exact Or.inr rfl
        · exact pw_ndf_01 P i n
