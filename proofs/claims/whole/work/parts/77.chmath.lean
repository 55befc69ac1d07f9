/-! ===== chains: the row that is put down is the set of marks ===== -/
theorem nat_and_pow (n i : Nat) : n &&& 2 ^ i = 0 ↔ n / 2 ^ i % 2 = 0 := by
  have hb : n.testBit i = decide (n / 2 ^ i % 2 = 1) := Nat.testBit_eq_decide_div_mod_eq
  constructor
  · intro h
    have h1 : (n &&& 2 ^ i).testBit i = false := by rw [h]; exact Nat.zero_testBit i
    rw [Nat.testBit_and, Nat.testBit_two_pow_self, Bool.and_true, hb] at h1
    have : ¬ n / 2 ^ i % 2 = 1 := of_decide_eq_false h1
    omega
  · intro h
    refine Nat.eq_of_testBit_eq (fun j => ?_)
    rw [Nat.testBit_and, Nat.testBit_two_pow, Nat.zero_testBit]
    by_cases hj : i = j
    · rw [← hj, hb, decide_eq_false (show ¬ n / 2 ^ i % 2 = 1 by omega)]
      rfl
    · rw [decide_eq_false hj, Bool.and_false]
theorem wand_pow {n : Int} {i : Nat} (h0 : 0 ≤ n) (h1 : n < 2147483648) (hi : i < 31) : (wand n (2 ^ i) ≤ 0) ↔ n / 2 ^ i % 2 = 0 := by
  have hp : (2 : Int) ^ i < 2147483648 := by
    have : (2 : Nat) ^ i < 2 ^ 31 := Nat.pow_lt_pow_right (by omega) hi
    have h2 : ((2 ^ i : Nat) : Int) < ((2 ^ 31 : Nat) : Int) := Int.ofNat_lt.mpr this
    rw [Int.natCast_pow] at h2
    exact h2
  have hpp : (0 : Int) < 2 ^ i := Int.pow_pos (by omega)
  rw [wand_nn h0 h1 (by omega) hp]
  have e : ((2 : Int) ^ i).toNat = 2 ^ i := by
    have : ((2 : Int) ^ i) = ((2 ^ i : Nat) : Int) := by rw [Int.natCast_pow]; rfl
    rw [this, Int.toNat_natCast]
  rw [e]
  have hn : n = ((n.toNat : Nat) : Int) := by omega
  have hdiv : n / 2 ^ i % 2 = ((n.toNat / 2 ^ i % 2 : Nat) : Int) := by
    rw [Int.natCast_emod, Int.natCast_ediv, Int.natCast_pow, ← hn]
    rfl
  rw [hdiv]
  have := nat_and_pow n.toNat i
  omega
/-- put down, with the last number of the row -/
def pw_pe (q : pw_C) (s : Int → Int) (l : Int) : Prop := pw_en q.1 q.2 s ∧ q.2 (q.1 - 1) = l
theorem pw_pe_top {q : pw_C} {s : Int → Int} {l : Int} (h : pw_pe q s l) {x : Int} (hx : s x = 1) : x ≤ l := by
  obtain ⟨i, i0, i1, e⟩ := (h.1.2.2.2 x).mp hx
  by_cases hi : i = q.1 - 1
  · rw [← e, hi, h.2]; exact Int.le_refl _
  · have := h.1.2.2.1 i (q.1 - 1) i0 (by omega) (by omega)
    rw [h.2] at this
    omega
theorem pw_pe_up {q : pw_C} {s : Int → Int} {l x : Int} (h : pw_pe q s l) (hm : q.1 < 64) (hx : l < x) : pw_pe (pw_pt q x) (pw_set s x 1) x ∧ (pw_pt q x).1 = q.1 + 1 := by
  have h1 := h.1.1
  have e : pw_pt q x = (q.1 + 1, fun j => if j = q.1 then x else q.2 j) := if_pos ⟨hm, Or.inr (by rw [h.2]; exact hx)⟩
  have hen := pw_en_ins h.1 (p := q.1) (x := x) h1 (Int.le_refl _) (fun i i0 i1 => by
    have := pw_pe_top h ((h.1.2.2.2 (q.2 i)).mpr ⟨i, i0, i1, rfl⟩)
    omega) (fun i i0 i1 => by omega)
  rw [e]
  refine ⟨⟨pw_en_cg hen (fun i i0 i1 => ?_), ?_⟩, rfl⟩
  · have i1' : i < q.1 + 1 := i1
    unfold pw_ins
    by_cases hi : i = q.1
    · rw [if_neg (by omega), if_pos hi]
      exact if_pos hi
    · rw [if_pos (by omega)]
      exact if_neg hi
  · show (if q.1 + 1 - 1 = q.1 then x else q.2 (q.1 + 1 - 1)) = x
    rw [if_pos (by omega)]
theorem pw_pe_same {q : pw_C} {s : Int → Int} {l x : Int} (h : pw_pe q s l) (hx : s x = 1) : pw_pt q x = q ∧ pw_set s x 1 = s := by
  have h1 := h.1.1
  refine ⟨if_neg (fun z => ?_), pw_en_same h.1 hx⟩
  have ht := pw_pe_top h hx
  rcases z.2 with z | z
  · omega
  · rw [h.2] at z; omega
theorem pw_pe_last {q : pw_C} {s : Int → Int} {l : Int} (h : pw_pe q s l) : s l = 1 := (h.1.2.2.2 l).mpr ⟨q.1 - 1, by have := h.1.1; omega, by omega, h.2⟩
theorem pw_pe_0 {r : Int → Int} : pw_pe (pw_pt (0, r) 1) (fun x => if x = 1 then 1 else 0) 1 ∧ (pw_pt (0, r) 1).1 = 1 := by
  have e : pw_pt (0, r) 1 = (1, fun j => if j = 0 then 1 else r j) := rfl
  rw [e]
  refine ⟨⟨⟨Int.le_refl _, rfl, fun i j i0 ij jm => ?_, fun x => ⟨fun hx => ?_, fun ⟨i, i0, im, ei⟩ => ?_⟩⟩, rfl⟩, rfl⟩
  · have jm' : j < 1 := jm
    omega
  · refine ⟨0, by omega, by show (0 : Int) < 1; omega, ?_⟩
    show (if (0 : Int) = 0 then (1 : Int) else r 0) = x
    rw [if_pos rfl]
    have hx' : (if x = 1 then (1 : Int) else 0) = 1 := hx
    split at hx' <;> omega
  · have im' : i < 1 := im
    have ei' : (if i = 0 then (1 : Int) else r i) = x := ei
    rw [if_pos (by omega)] at ei'
    show (if x = 1 then (1 : Int) else 0) = 1
    rw [if_pos ei'.symm]
