/-! ===== texts: the reading of one, as it must be ===== -/
noncomputable def tx_hg (D : pw_P) : Bool := @decide (pw_big D) (Classical.propDecidable _)
theorem tx_hg_iff {D : pw_P} : tx_hg D = true ↔ pw_big D := @decide_eq_true_iff (pw_big D) (Classical.propDecidable _)
abbrev tx_R : Type := Int × Int × pw_P × (Int → Int)
def tx_bs (b : Int → Int) (n : Int) : Nat → Int → Int → (Int → Int) → tx_R
  | 0, p, k, nm => (0, p, pw_bare k, nm)
  | m + 1, p, k, nm => if (tk b n p).1 = 59 ∧ 0 < k then (0, (tk b n p).2.2.2, pw_bare k, nm) else if tx_nf (tk b n p) k nm = 0 then (if k = 4 then (8 * (tk b n p).2.1 + 5, 0, pw_bare k, nm) else tx_bs b n m (tk b n p).2.2.2 (k + 1) (pw_set nm k (tk b n p).2.2.1)) else (tx_nf (tk b n p) k nm, 0, pw_bare k, nm)
def tx_wt (b : Int → Int) (n : Int) (nm : Int → Int) : Nat → Int → pw_P → Int × pw_P
  | 0, _, D => (0, D)
  | m + 1, p, D => if (tk b n p).1 = 59 ∧ 0 < D.2.2.1 then (if (tk b n (tk b n p).2.2.2).1 = 0 then 0 else 8 * (tk b n (tk b n p).2.2.2).2.1 + 1, D) else if tx_kf (tk b n p) (D.1 + D.2.1) nm = 0 then (if D.2.2.1 = 4 then (8 * (tk b n p).2.1 + 5, D) else tx_wt b n nm m (tk b n p).2.2.2 (pw_wnt D D.2.2.1 (tx_lk nm (D.1 + D.2.1) (tk b n p).2.2.1))) else (tx_kf (tk b n p) (D.1 + D.2.1) nm, D)
/-- the steps of a power: m bits more, there being the node that is there -/
def tx_pwD (w node : Int) : Nat → Int → pw_P → pw_P
  | 0, _, D => D
  | m + 1, t, D => if w / 2 ^ m % 2 = 1 then tx_pwD w node m (D.1 + D.2.1 + 1) (pw_app (pw_app D t t) (D.1 + D.2.1) node) else tx_pwD w node m (D.1 + D.2.1) (pw_app D t t)
def tx_cn (w : Int) : Nat → Int
  | 0 => 0
  | m + 1 => 1 + (if w / 2 ^ m % 2 = 1 then 1 else 0) + tx_cn w m
def tx_ns (nm : Int → Int) (z z' w : Int) : Int → Int := fun x => if x = z' - 1 then w else if z ≤ x then 0 else nm x
noncomputable def tx_fin (b : Int → Int) (n p name cnt : Int) (D D' : pw_P) (nm : Int → Int) : tx_R :=
  if (tk b n p).1 = 59 then (if 60 < D.2.1 + cnt then (8 * (tk b n p).2.1 + 5, 0, D, nm) else if tx_hg D' = true then (0, (tk b n p).2.2.2, D', tx_ns nm (D.1 + D.2.1) (D'.1 + D'.2.1) name) else (8 * (tk b n p).2.1 + 6, 0, D, nm)) else (8 * (tk b n p).2.1 + 1, 0, D, nm)
noncomputable def tx_prod (b : Int → Int) (n p name node : Int) (D : pw_P) (nm : Int → Int) : tx_R :=
  if tx_kf (tk b n p) (D.1 + D.2.1) nm = 0 then tx_fin b n (tk b n p).2.2.2 name 1 D (pw_app D node (tx_lk nm (D.1 + D.2.1) (tk b n p).2.2.1)) nm else (tx_kf (tk b n p) (D.1 + D.2.1) nm, 0, D, nm)
noncomputable def tx_pow (b : Int → Int) (n p name node : Int) (D : pw_P) (nm : Int → Int) : tx_R :=
  if (tk b n p).1 = 2 then (if (tk b n p).2.2.1 < 2 then (8 * (tk b n p).2.1 + 4, 0, D, nm) else tx_fin b n (tk b n p).2.2.2 name (pw_hb (tk b n p).2.2.1 + pw_pc (tk b n p).2.2.1 - 1) D (tx_pwD (tk b n p).2.2.1 node (pw_hb (tk b n p).2.2.1).toNat node D) nm) else (8 * (tk b n p).2.1 + 1, 0, D, nm)
/-- a statement, T being its first token -/
noncomputable def tx_st (b : Int → Int) (n : Int) (T : tk_T) (D : pw_P) (nm : Int → Int) : tx_R :=
  if tx_nf T (D.1 + D.2.1) nm = 0 then
    (if (tk b n T.2.2.2).1 = 61 then
      (if tx_kf (tk b n (tk b n T.2.2.2).2.2.2) (D.1 + D.2.1) nm = 0 then
        (if (tk b n (tk b n (tk b n T.2.2.2).2.2.2).2.2.2).1 = 42 then tx_prod b n (tk b n (tk b n (tk b n T.2.2.2).2.2.2).2.2.2).2.2.2 T.2.2.1 (tx_lk nm (D.1 + D.2.1) (tk b n (tk b n T.2.2.2).2.2.2).2.2.1) D nm
         else if (tk b n (tk b n (tk b n T.2.2.2).2.2.2).2.2.2).1 = 94 then tx_pow b n (tk b n (tk b n (tk b n T.2.2.2).2.2.2).2.2.2).2.2.2 T.2.2.1 (tx_lk nm (D.1 + D.2.1) (tk b n (tk b n T.2.2.2).2.2.2).2.2.1) D nm
         else (8 * (tk b n (tk b n (tk b n T.2.2.2).2.2.2).2.2.2).2.1 + 1, 0, D, nm))
       else (tx_kf (tk b n (tk b n T.2.2.2).2.2.2) (D.1 + D.2.1) nm, 0, D, nm))
     else (8 * (tk b n T.2.2.2).2.1 + 1, 0, D, nm))
  else (tx_nf T (D.1 + D.2.1) nm, 0, D, nm)
noncomputable def tx_lp (b : Int → Int) (n : Int) : Nat → Int → pw_P → (Int → Int) → Int × pw_P
  | 0, _, D, _ => (0, D)
  | f + 1, p, D, nm => if (tk b n p).1 = 1 ∧ (tk b n p).2.2.1 = 2002873972 then tx_wt b n nm 5 (tk b n p).2.2.2 D else if (tx_st b n (tk b n p) D nm).1 = 0 then tx_lp b n f (tx_st b n (tk b n p) D nm).2.1 (tx_st b n (tk b n p) D nm).2.2.1 (tx_st b n (tk b n p) D nm).2.2.2 else ((tx_st b n (tk b n p) D nm).1, D)
noncomputable def tx_all (b : Int → Int) (n : Int) : Int × pw_P := if (tk b n 0).1 = 1 ∧ (tk b n 0).2.2.1 = 1650553701 then (if (tx_bs b n 5 (tk b n 0).2.2.2 0 (fun _ => 0)).1 = 0 then tx_lp b n (n + 1).toNat (tx_bs b n 5 (tk b n 0).2.2.2 0 (fun _ => 0)).2.1 (tx_bs b n 5 (tk b n 0).2.2.2 0 (fun _ => 0)).2.2.1 (tx_bs b n 5 (tk b n 0).2.2.2 0 (fun _ => 0)).2.2.2 else ((tx_bs b n 5 (tk b n 0).2.2.2 0 (fun _ => 0)).1, pw_bare 0)) else (8 * (tk b n 0).2.1 + 1, pw_bare 0)
/-! programs stay as they should -/
theorem pw_bare_ok {k : Int} (h0 : 0 ≤ k) (h4 : k ≤ 4) : pw_ok (pw_bare k) := by
  refine ⟨⟨h0, h4, by show (0 : Int) ≤ 0; omega, by show (0 : Int) ≤ 60; omega, by show (0 : Int) ≤ 0; omega, by show (0 : Int) ≤ 4; omega⟩, ⟨fun n n0 n1 => ?_, fun j j0 j1 => ?_⟩, fun n c n0 n1 c0 c1 => ?_⟩
  · have n0' : k ≤ n := n0
    have n1' : n < k + 0 := n1
    omega
  · have j1' : j < 0 := j1
    omega
  · have n1' : n < k + 0 := n1
    rw [pw_ex_b (P := pw_bare k) (show n < k by omega)]
    split <;> omega
theorem pw_big_app {D : pw_P} {l r : Int} (hl : pw_lnk D) (h : pw_big (pw_app D l r)) : pw_big D := fun n c n0 n1 c0 c1 => by
  have := h n c n0 (by show n < D.1 + (D.2.1 + 1); omega) c0 c1
  rw [pw_app_ex hl n0 n1] at this
  exact this
theorem tx_pwD_cn {w node : Int} : ∀ (m : Nat) (t : Int) (D : pw_P), (tx_pwD w node m t D).2.1 = D.2.1 + tx_cn w m ∧ (tx_pwD w node m t D).1 = D.1 ∧ (tx_pwD w node m t D).2.2.1 = D.2.2.1
  | 0, t, D => by simp [tx_pwD, tx_cn]
  | m + 1, t, D => by
    unfold tx_pwD tx_cn
    by_cases h : w / 2 ^ m % 2 = 1
    · rw [if_pos h, if_pos h]
      obtain ⟨a, c, e⟩ := tx_pwD_cn (w := w) (node := node) m (D.1 + D.2.1 + 1) (pw_app (pw_app D t t) (D.1 + D.2.1) node)
      refine ⟨?_, c, e⟩
      rw [a]
      show D.2.1 + 1 + 1 + _ = _
      omega
    · rw [if_neg h, if_neg h]
      obtain ⟨a, c, e⟩ := tx_pwD_cn (w := w) (node := node) m (D.1 + D.2.1) (pw_app D t t)
      refine ⟨?_, c, e⟩
      rw [a]
      show D.2.1 + 1 + _ = _
      omega
theorem tx_cn_nn {w : Int} : ∀ m : Nat, (m : Int) ≤ tx_cn w m ∧ tx_cn w m ≤ 2 * m
  | 0 => by simp [tx_cn]
  | m + 1 => by
    have := tx_cn_nn (w := w) m
    unfold tx_cn
    split <;> omega
theorem pw_app_has {D : pw_P} {l r x : Int} (h : pw_has D x) : pw_has (pw_app D l r) x := ⟨h.1, by have := h.2; show x < D.1 + (D.2.1 + 1); omega⟩
theorem tx_pwD_lnk {w node : Int} : ∀ (m : Nat) (t : Int) (D : pw_P), 0 ≤ D.1 + D.2.1 → pw_lnk D → pw_has D t → pw_has D node → pw_lnk (tx_pwD w node m t D) ∧ (pw_big (tx_pwD w node m t D) → pw_big D)
  | 0, t, D, hz, hl, ht, hn => ⟨hl, id⟩
  | m + 1, t, D, hz, hl, ht, hn => by
    have hz1 : (pw_app D t t).1 + (pw_app D t t).2.1 = D.1 + D.2.1 + 1 := by show D.1 + (D.2.1 + 1) = _; omega
    have h1 : pw_has (pw_app D t t) (D.1 + D.2.1) := ⟨hz, by rw [hz1]; omega⟩
    have hl1 := pw_app_lnk hl ht ht
    unfold tx_pwD
    split
    · have hz2 : (pw_app (pw_app D t t) (D.1 + D.2.1) node).1 + (pw_app (pw_app D t t) (D.1 + D.2.1) node).2.1 = D.1 + D.2.1 + 2 := by show D.1 + (D.2.1 + 1 + 1) = _; omega
      have hl2 := pw_app_lnk hl1 h1 (pw_app_has hn)
      obtain ⟨a, c⟩ := tx_pwD_lnk (w := w) (node := node) m (D.1 + D.2.1 + 1) _ (by omega) hl2 ⟨by omega, by rw [hz2]; omega⟩ (pw_app_has (pw_app_has hn))
      exact ⟨a, fun z => pw_big_app hl (pw_big_app hl1 (c z))⟩
    · obtain ⟨a, c⟩ := tx_pwD_lnk (w := w) (node := node) m (D.1 + D.2.1) _ (by omega) hl1 h1 (pw_app_has hn)
      exact ⟨a, fun z => pw_big_app hl (c z)⟩
theorem tx_pcf {v : Int} : ∀ (m : Nat), pw_pcf m v = tx_cn v m - m
  | 0 => rfl
  | m + 1 => by
    have hlast : ∀ (k : Nat) (u : Int), pw_pcf (k + 1) u = pw_pcf k u + u / 2 ^ k % 2 := by
      intro k
      induction k with
      | zero =>
        intro u
        simp only [pw_pcf, Int.pow_zero, Int.ediv_one]
        omega
      | succ k ih =>
        intro u
        have e1 : pw_pcf (k + 1 + 1) u = u % 2 + pw_pcf (k + 1) (u / 2) := rfl
        have e2 : pw_pcf (k + 1) u = u % 2 + pw_pcf k (u / 2) := rfl
        rw [e1, ih (u / 2), e2]
        have e3 : u / 2 ^ (k + 1) = u / 2 / 2 ^ k := by
          rw [Int.pow_succ, Int.mul_comm, Int.ediv_ediv_of_nonneg (by omega)]
        rw [e3]
        omega
    have e : tx_cn v (m + 1) = 1 + (if v / 2 ^ m % 2 = 1 then 1 else 0) + tx_cn v m := rfl
    rw [hlast m v, tx_pcf m, e]
    split <;> omega
theorem tx_cn_hb {w : Int} (h1 : 1 ≤ w) (h2 : w ≤ 9999) : tx_cn w (pw_hb w).toNat = pw_hb w + pw_pc w - 1 := by
  have hb := pw_hb_in h1 h2
  have hp := pw_hb_pow h1 h2
  have h3 := pw_hb_1 h1 h2
  have hup : ∀ k : Nat, pw_pcf ((pw_hb w).toNat + 1 + k) w = pw_pcf ((pw_hb w).toNat + 1) w := by
    intro k
    induction k with
    | zero => rfl
    | succ k ih =>
      rw [← ih]
      show pw_pcf ((pw_hb w).toNat + 1 + k + 1) w = _
      refine pw_pcf_up _ w (by omega) ?_
      have h5 : (2 : Nat) ^ ((pw_hb w).toNat + 1) ≤ 2 ^ ((pw_hb w).toNat + 1 + k) := Nat.pow_le_pow_right (by omega) (by omega)
      have h6 : ((2 ^ ((pw_hb w).toNat + 1) : Nat) : Int) ≤ ((2 ^ ((pw_hb w).toNat + 1 + k) : Nat) : Int) := Int.ofNat_le.mpr h5
      rw [Int.natCast_pow, Int.natCast_pow] at h6
      have h7 : (2 : Int) ^ ((pw_hb w).toNat + 1) ≤ 2 ^ ((pw_hb w).toNat + 1 + k) := h6
      omega
  have h14 := hup (13 - (pw_hb w).toNat)
  rw [show (pw_hb w).toNat + 1 + (13 - (pw_hb w).toNat) = 14 by omega] at h14
  have h15 : pw_pc w = pw_pcf ((pw_hb w).toNat + 1) w := h14
  have e : tx_cn w ((pw_hb w).toNat + 1) = 1 + (if w / 2 ^ (pw_hb w).toNat % 2 = 1 then 1 else 0) + tx_cn w (pw_hb w).toNat := rfl
  rw [h15, tx_pcf, e, h3, if_pos (by omega)]
  omega
/-! worths of numbers -/
theorem tk_rn_all {b : Int → Int} {n lo hi : Int} : ∀ (f : Nat) (p x : Int), p ≤ x → x < tk_rn b n lo hi f p → lo ≤ b x ∧ b x ≤ hi
  | 0, p, x, h0, h1 => by simp only [tk_rn] at h1; omega
  | f + 1, p, x, h0, h1 => by
    unfold tk_rn at h1
    by_cases hc : p < n ∧ lo ≤ b p ∧ b p ≤ hi
    · rw [if_pos hc] at h1
      by_cases hx : x = p
      · rw [hx]; exact hc.2
      · exact tk_rn_all f (p + 1) x (by omega) h1
    · rw [if_neg hc] at h1
      omega
theorem tk_num {b : Int → Int} {n p : Int} (h : p ≤ n) (hk : (tk b n p).1 = 2) : -1 ≤ (tk b n p).2.2.1 ∧ (tk b n p).2.2.1 ≤ 9999 := by
  unfold tk tk_at at hk ⊢
  have hs := tk_skip_in (b := b) h
  generalize tk_skip b n p = q at *
  by_cases h1 : n ≤ q
  · rw [if_pos h1] at hk; simp at hk
  · rw [if_neg h1] at hk ⊢
    by_cases h2 : 97 ≤ b q ∧ b q ≤ 122
    · rw [if_pos h2] at hk; simp at hk
    · rw [if_neg h2] at hk ⊢
      by_cases h3 : 48 ≤ b q ∧ b q ≤ 57
      · rw [if_pos h3] at hk ⊢
        simp only
        split
        · rename_i h4
          have hr := tk_run_in (b := b) (lo := 48) (hi := 57) hs.2
          have hcw : ∀ k : Nat, (k : Int) ≤ tk_run b n 48 57 q - q → k ≤ 4 → 0 ≤ tk_cw b 48 10 q k ∧ tk_cw b 48 10 q k + 1 ≤ 10 ^ k := by
            intro k
            induction k with
            | zero => intro _ _; simp [tk_cw]
            | succ k ih =>
              intro hk1 hk4
              obtain ⟨i1, i2⟩ := ih (by omega) (by omega)
              have hd := tk_rn_all (b := b) (n := n) (lo := 48) (hi := 57) (n - q).toNat q (q + k) (by omega) (by unfold tk_run at hk1; omega)
              have hp : (10 : Int) ^ k ≤ 1000 := by
                have h5 : (10 : Nat) ^ k ≤ 10 ^ 3 := Nat.pow_le_pow_right (by omega) (by omega)
                have h6 : ((10 ^ k : Nat) : Int) ≤ ((10 ^ 3 : Nat) : Int) := Int.ofNat_le.mpr h5
                rw [Int.natCast_pow, Int.natCast_pow] at h6
                exact h6
              have e1 : tk_cw b 48 10 q (k + 1) = tk_cw b 48 10 q k * 10 + (b (q + k) - 48) := by
                simp only [tk_cw]
                rw [w32_id (x := tk_cw b 48 10 q k * 10) (by omega) (by omega), w32_id (x := b (q + k) - 48) (by omega) (by omega), w32_id (by omega) (by omega)]
              rw [e1, Int.pow_succ]
              omega
          have hlast := hcw (tk_run b n 48 57 q - q).toNat (by omega) (by omega)
          have hp4 : (10 : Int) ^ (tk_run b n 48 57 q - q).toNat ≤ 10000 := by
            have h5 : (10 : Nat) ^ (tk_run b n 48 57 q - q).toNat ≤ 10 ^ 4 := Nat.pow_le_pow_right (by omega) (by omega)
            have h6 : ((10 ^ (tk_run b n 48 57 q - q).toNat : Nat) : Int) ≤ ((10 ^ 4 : Nat) : Int) := Int.ofNat_le.mpr h5
            rw [Int.natCast_pow, Int.natCast_pow] at h6
            exact h6
          omega
        · omega
      · rw [if_neg h3] at hk
        simp only at hk
        split at hk <;> omega
