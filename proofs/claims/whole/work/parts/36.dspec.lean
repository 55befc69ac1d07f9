/-! ===== duals, as they are made ===== -/
def pw_app (D : pw_P) (x z : Int) : pw_P := (D.1, D.2.1 + 1, D.2.2.1, fun n => if n = D.1 + D.2.1 then x else D.2.2.2.1 n, fun n => if n = D.1 + D.2.1 then z else D.2.2.2.2.1 n, D.2.2.2.2.2)
def pw_jn (c : Int) (D : pw_P) (t : Int) : Option (Int × pw_P) := if c = -1 then some (t, D) else if 60 ≤ D.2.1 then none else some (D.1 + D.2.1, pw_app D c t)
def pw_gw (P : pw_P) (n : Int) : Nat → Int → Int → pw_P → Option (Int × pw_P)
  | 0, _, c, D => some (c, D)
  | m + 1, k, c, D => if P.2.2.2.2.2 k = n then (match pw_jn c D k with
    | none => none
    | some q => pw_gw P n m (k + 1) q.1 q.2) else pw_gw P n m (k + 1) c D
def pw_jo (b : Prop) [Decidable b] (c : Int) (D : pw_P) (t : Int) : Option (Int × pw_P) := if b then pw_jn c D t else some (c, D)
def pw_gs (P : pw_P) (cm : Int → Int) (n : Int) : Nat → Int → Int → pw_P → Option (Int × pw_P)
  | 0, _, c, D => some (c, D)
  | m + 1, s, c, D => if cm s = -1 then pw_gs P cm n m (s + 1) c D else match pw_jo (P.2.2.2.1 s = n) c D (cm s) with
    | none => none
    | some q => match pw_jo (P.2.2.2.2.1 s = n) q.1 q.2 (cm s) with
      | none => none
      | some q' => pw_gs P cm n m (s + 1) q'.1 q'.2
def pw_node (P : pw_P) (cm : Int → Int) (n : Int) (D : pw_P) : Option (Int × pw_P) := match pw_gw P n P.2.2.1.toNat 0 (-1) D with
  | none => none
  | some q => pw_gs P cm n (P.1 + P.2.1 - pw_max (n + 1) P.1).toNat (pw_max (n + 1) P.1) q.1 q.2
def pw_du (P : pw_P) : Nat → (Int → Int) → pw_P → Option ((Int → Int) × pw_P)
  | 0, cm, D => some (cm, D)
  | m + 1, cm, D => match pw_node P cm m D with
    | none => none
    | some q => pw_du P m (fun j => if j = m then q.1 else cm j) q.2
def pw_wb (cm : Int → Int) : Nat → Bool
  | 0 => true
  | m + 1 => pw_wb cm m && decide (¬ cm m = -1)
def pw_bare (w : Int) : pw_P := (w, 0, 0, fun _ => 0, fun _ => 0, fun _ => 0)
def pw_dual (P : pw_P) : Option pw_P := if P.2.2.1 = 0 then none else match pw_du P (P.1 + P.2.1).toNat (fun _ => -1) (pw_bare P.2.2.1) with
  | none => none
  | some q => if pw_wb q.1 P.1.toNat then some (q.2.1, q.2.2.1, P.1, q.2.2.2.2.1, q.2.2.2.2.2.1, q.1) else none
theorem pw_wb_iff {cm : Int → Int} : ∀ {m : Nat}, pw_wb cm m = true ↔ ∀ c : Int, 0 ≤ c → c < m → cm c ≠ -1
  | 0 => by
    refine ⟨fun _ c h1 h2 => ?_, fun _ => rfl⟩
    omega
  | m + 1 => by
    simp only [pw_wb, Bool.and_eq_true, decide_eq_true_eq]
    rw [pw_wb_iff (m := m)]
    constructor
    · intro ⟨h1, h2⟩ c c0 c1
      by_cases hc : c = m
      · rw [hc]; exact h2
      · exact h1 c c0 (by omega)
    · intro h
      exact ⟨fun c c0 c1 => h c c0 (by omega), h m (by omega) (by omega)⟩
theorem pw_at_app {M M' : ms_M} {a x z : Int} {D : pw_P} (hP : pw_at M a D) (hM : M' = ms_up (ms_up (ms_up M (a + 1) (D.1 + D.2.1) x) (a + 2) (D.1 + D.2.1) z) a 4 (D.2.1 + 1)) : pw_at M' a (pw_app D x z) := by
  obtain ⟨h0, h1, h2, h3, h4, h5, hlr, ht⟩ := hP
  subst hM
  have n1 : ¬ a = a + 1 := by omega
  have n2 : ¬ a = a + 2 := by omega
  have n3 : ¬ a + 1 = a := by omega
  have n4 : ¬ a + 1 = a + 2 := by omega
  have n5 : ¬ a + 2 = a := by omega
  have n6 : ¬ a + 2 = a + 1 := by omega
  have n7 : ¬ a + 3 = a := by omega
  have n8 : ¬ a + 3 = a + 1 := by omega
  have n9 : ¬ a + 3 = a + 2 := by omega
  unfold pw_app
  refine ⟨?_, ?_, ?_, ?_, ?_, ?_, fun n hn1 hn2 => ⟨?_, ?_⟩, fun k hk1 hk2 => ?_⟩
  · simp only [x_up, x_nw, true_and, and_true, false_and, and_false, and_self, Int.reduceEq, if_true, if_false, reduceIte, n1, n2]; exact h0
  · simp only [x_up, x_nw, true_and, and_true, false_and, and_false, and_self, Int.reduceEq, if_true, if_false, reduceIte, n1, n2]; exact h1
  · simp only [x_up, x_nw, true_and, and_true, false_and, and_false, and_self, Int.reduceEq, if_true, if_false, reduceIte, n1, n2]; exact h2
  · simp only [x_up, x_nw, true_and, and_true, false_and, and_false, and_self, Int.reduceEq, if_true, if_false, reduceIte, n1, n2]; exact h3
  · simp only [x_up, x_nw, true_and, and_true, false_and, and_false, and_self, Int.reduceEq, if_true, if_false, reduceIte, n1, n2]
  · simp only [x_up, x_nw, true_and, and_true, false_and, and_false, and_self, Int.reduceEq, if_true, if_false, reduceIte, n1, n2]; exact h5
  · simp only [x_up, x_nw, true_and, and_true, false_and, and_false, and_self, Int.reduceEq, if_true, if_false, reduceIte, n3, n4]
    by_cases hn : n = D.1 + D.2.1
    · rw [if_pos hn, if_pos hn]
    · rw [if_neg hn, if_neg hn]
      simp only at hn1 hn2
      exact (hlr n hn1 (by omega)).1
  · simp only [x_up, x_nw, true_and, and_true, false_and, and_false, and_self, Int.reduceEq, if_true, if_false, reduceIte, n5, n6]
    by_cases hn : n = D.1 + D.2.1
    · rw [if_pos hn, if_pos hn]
    · rw [if_neg hn, if_neg hn]
      simp only at hn1 hn2
      exact (hlr n hn1 (by omega)).2
  · simp only [x_up, x_nw, true_and, and_true, false_and, and_false, and_self, Int.reduceEq, if_true, if_false, reduceIte, n7, n8, n9]
    exact ht k hk1 hk2
