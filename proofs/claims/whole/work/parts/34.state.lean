/-! ===== the class's state ===== -/
/-- its refs, that never change: cell, field, cell -/
def pw_refs : List (Int × Int × Int) := [(0, 0, 1), (0, 1, 5), (0, 2, 9), (0, 3, 13), (0, 4, 14), (0, 5, 15), (0, 6, 65), (0, 7, 68), (0, 8, 70), (0, 9, 72), (0, 10, 73), (0, 11, 74), (0, 12, 76), (0, 13, 81), (0, 14, 83), (0, 15, 87), (0, 16, 89), (1, 0, 2), (1, 1, 3), (1, 2, 4), (5, 0, 6), (5, 1, 7), (5, 2, 8), (9, 0, 10), (9, 1, 11), (9, 2, 12), (17, 0, 18), (17, 1, 19), (17, 2, 20), (21, 0, 22), (21, 1, 23), (21, 2, 24), (25, 0, 26), (25, 1, 27), (25, 2, 28), (29, 0, 30), (29, 1, 31), (29, 2, 32), (33, 0, 34), (33, 1, 35), (33, 2, 36), (37, 0, 38), (37, 1, 39), (37, 2, 40), (41, 0, 42), (41, 1, 43), (41, 2, 44), (45, 0, 46), (45, 1, 47), (45, 2, 48), (49, 0, 50), (49, 1, 51), (49, 2, 52), (53, 0, 54), (53, 1, 55), (53, 2, 56), (57, 0, 58), (57, 1, 59), (57, 2, 60), (61, 0, 62), (61, 1, 63), (61, 2, 64), (91, 0, 92), (91, 1, 93), (91, 2, 94), (95, 0, 96), (95, 1, 97), (95, 2, 98), (99, 0, 100), (99, 1, 101), (99, 2, 102), (13, 0, 91), (13, 1, 95), (13, 2, 99), (15, 0, 16), (16, 0, 17), (16, 1, 21), (16, 2, 25), (16, 3, 29), (16, 4, 33), (16, 5, 37), (16, 6, 41), (16, 7, 45), (16, 8, 49), (16, 9, 53), (16, 10, 57), (16, 11, 61), (65, 0, 66), (65, 1, 67), (68, 0, 69), (70, 0, 71), (74, 0, 75), (76, 0, 77), (76, 1, 78), (76, 2, 80), (78, 0, 79), (81, 0, 82), (83, 0, 84), (83, 1, 85), (83, 2, 86), (87, 0, 88), (89, 0, 90)]
def pw_cr (M : ms_M) : Prop := ∀ q ∈ pw_refs, M q.1 q.2.1 = q.2.2
def pw_zone (c : Int) : Bool := (1 ≤ c && c ≤ 12) || (17 ≤ c && c ≤ 64) || (91 ≤ c && c ≤ 102)
theorem pw_cr_nw {M : ms_M} {k : Int} {g : Int → Int} (h : pw_cr M) (hk : ∀ q ∈ pw_refs, q.1 ≠ k) : pw_cr (ms_nw M k g) := fun q hq => by rw [ms_nw_ne (hk q hq)]; exact h q hq
theorem pw_cr_up {M : ms_M} {k i x : Int} (h : pw_cr M) (hk : ∀ q ∈ pw_refs, q.1 ≠ k ∨ q.2.1 ≠ i) : pw_cr (ms_up M k i x) := fun q hq => by
  unfold ms_up
  rw [if_neg (fun z => (hk q hq).elim (fun e => e z.1) (fun e => e z.2))]
  exact h q hq
theorem pw_cr_fr {M M' : ms_M} (h : pw_cr M) (hf : ∀ q ∈ pw_refs, M' q.1 q.2.1 = M q.1 q.2.1) : pw_cr M' := fun q hq => by rw [hf q hq]; exact h q hq
theorem pw_refs_z : ∀ q ∈ pw_refs, pw_zone q.1 = true → (q.1 % 4 = 1 ∨ q.1 % 4 = 3) ∧ 0 ≤ q.2.1 ∧ q.2.1 ≤ 2 ∧ (q.1 ≤ 64 → q.1 % 4 = 1) ∧ (91 ≤ q.1 → q.1 % 4 = 3) := by decide +kernel
theorem pw_refs_v : ∀ q ∈ pw_refs, pw_zone q.1 = true → q.2.2 = q.1 + 1 + q.2.1 := by decide +kernel
theorem pw_pid_zone {a c : Int} (ha : pw_pid a) (h : a ≤ c) (h' : c ≤ a + 3) : pw_zone c = true := by
  have : (1 ≤ c ∧ c ≤ 12) ∨ (17 ≤ c ∧ c ≤ 64) ∨ (91 ≤ c ∧ c ≤ 102) := by
    rcases ha with ⟨k, rfl, h1, h2, h3⟩ | ⟨k, rfl, h1, h2⟩ <;> omega
  unfold pw_zone
  simp only [Bool.or_eq_true, Bool.and_eq_true, decide_eq_true_eq]
  omega
/-- a program written anew at a: the refs stand -/
theorem pw_cr_cp {M M' : ms_M} {a : Int} {P : pw_P} (h : pw_cr M) (ha : pw_pid a) (hf : ∀ c, c < a ∨ a + 3 < c → M' c = M c) (hP : pw_at M' a P) : pw_cr M' := by
  intro q hq
  by_cases hc : q.1 < a ∨ a + 3 < q.1
  · rw [hf _ hc]; exact h q hq
  · obtain ⟨z1, z2, z3, z4, z5⟩ := pw_refs_z q hq (pw_pid_zone ha (by omega) (by omega))
    have hqa : q.1 = a := by
      rcases ha with ⟨k, rfl, h1, h2, h3⟩ | ⟨k, rfl, h1, h2⟩ <;> omega
    have hv := pw_refs_v q hq (pw_pid_zone ha (by omega) (by omega))
    rw [hqa] at hv ⊢
    rcases (show q.2.1 = 0 ∨ q.2.1 = 1 ∨ q.2.1 = 2 by omega) with e | e | e
    · rw [e, hP.1, hv, e]; omega
    · rw [e, hP.2.1, hv, e]; omega
    · rw [e, hP.2.2.1, hv, e]; omega
theorem pw_cr_own {M : ms_M} {a : Int} (h : pw_cr M) (ha : pw_pid a) : M a 0 = a + 1 ∧ M a 1 = a + 2 ∧ M a 2 = a + 3 := by
  have hk : ∀ b : Int, (b = 1 ∨ b = 5 ∨ b = 9 ∨ b = 17 ∨ b = 21 ∨ b = 25 ∨ b = 29 ∨ b = 33 ∨ b = 37 ∨ b = 41 ∨ b = 45 ∨ b = 49 ∨ b = 53 ∨ b = 57 ∨ b = 61 ∨ b = 91 ∨ b = 95 ∨ b = 99) → (b, 0, b + 1) ∈ pw_refs ∧ (b, 1, b + 2) ∈ pw_refs ∧ (b, 2, b + 3) ∈ pw_refs := by
    intro b hb
    rcases hb with rfl | rfl | rfl | rfl | rfl | rfl | rfl | rfl | rfl | rfl | rfl | rfl | rfl | rfl | rfl | rfl | rfl | rfl <;> decide +kernel
  obtain ⟨h0, h1, h2⟩ := hk a (by rcases ha with ⟨k, rfl, h1, h2, h3⟩ | ⟨k, rfl, h1, h2⟩ <;> omega)
  exact ⟨h _ h0, h _ h1, h _ h2⟩
theorem pw_pid1 : pw_pid 1 := Or.inl ⟨0, by omega, by omega, by omega, by omega⟩
theorem pw_pid5 : pw_pid 5 := Or.inl ⟨1, by omega, by omega, by omega, by omega⟩
theorem pw_pid9 : pw_pid 9 := Or.inl ⟨2, by omega, by omega, by omega, by omega⟩
theorem pw_pidh {i : Int} (h0 : 0 ≤ i) (h : i < 12) : pw_pid (17 + 4 * i) := Or.inl ⟨i + 4, by omega, by omega, by omega, by omega⟩
theorem pw_pids {i : Int} (h0 : 0 ≤ i) (h : i < 3) : pw_pid (91 + 4 * i) := Or.inr ⟨i, by omega, by omega, by omega⟩
theorem pw_cr16 {M : ms_M} (h : pw_cr M) {i : Int} (h0 : 0 ≤ i) (h1 : i < 12) : M 16 i = 17 + 4 * i := by
  have hk : ∀ b : Int, (b = 0 ∨ b = 1 ∨ b = 2 ∨ b = 3 ∨ b = 4 ∨ b = 5 ∨ b = 6 ∨ b = 7 ∨ b = 8 ∨ b = 9 ∨ b = 10 ∨ b = 11) → (16, b, 17 + 4 * b) ∈ pw_refs := by
    intro b hb
    rcases hb with rfl | rfl | rfl | rfl | rfl | rfl | rfl | rfl | rfl | rfl | rfl | rfl <;> decide +kernel
  exact h _ (hk i (by omega))
theorem pw_cr13 {M : ms_M} (h : pw_cr M) {i : Int} (h0 : 0 ≤ i) (h1 : i < 3) : M 13 i = 91 + 4 * i := by
  rcases (show i = 0 ∨ i = 1 ∨ i = 2 by omega) with rfl | rfl | rfl
  · exact h (13, 0, 91) (by decide +kernel)
  · exact h (13, 1, 95) (by decide +kernel)
  · exact h (13, 2, 99) (by decide +kernel)
/-- the programs that can be taken back: k of them, the oldest first -/
def pw_hist (M : ms_M) (k : Int) (h : Int → pw_P) : Prop := ∃ o : Int, M 15 1 = o ∧ 0 ≤ o ∧ o < 12 ∧ M 15 2 = k ∧ 0 ≤ k ∧ k ≤ 12 ∧ ∀ j, 0 ≤ j → j < k → pw_at M (17 + 4 * ((o + j) % 12)) (h j)
def pw_psh (k : Int) (h : Int → pw_P) (P : pw_P) : Int → pw_P := fun j => if k = 12 then (if j = 11 then P else h (j + 1)) else (if j = k then P else h j)
theorem pw_r0_0 {M : ms_M} (h : pw_cr M) : M 0 0 = 1 := h (0, 0, 1) (by decide +kernel)
theorem pw_r0_1 {M : ms_M} (h : pw_cr M) : M 0 1 = 5 := h (0, 1, 5) (by decide +kernel)
theorem pw_r0_2 {M : ms_M} (h : pw_cr M) : M 0 2 = 9 := h (0, 2, 9) (by decide +kernel)
theorem pw_r0_3 {M : ms_M} (h : pw_cr M) : M 0 3 = 13 := h (0, 3, 13) (by decide +kernel)
theorem pw_r0_4 {M : ms_M} (h : pw_cr M) : M 0 4 = 14 := h (0, 4, 14) (by decide +kernel)
theorem pw_r0_5 {M : ms_M} (h : pw_cr M) : M 0 5 = 15 := h (0, 5, 15) (by decide +kernel)
theorem pw_r0_6 {M : ms_M} (h : pw_cr M) : M 0 6 = 65 := h (0, 6, 65) (by decide +kernel)
theorem pw_r0_7 {M : ms_M} (h : pw_cr M) : M 0 7 = 68 := h (0, 7, 68) (by decide +kernel)
theorem pw_r0_8 {M : ms_M} (h : pw_cr M) : M 0 8 = 70 := h (0, 8, 70) (by decide +kernel)
theorem pw_r0_9 {M : ms_M} (h : pw_cr M) : M 0 9 = 72 := h (0, 9, 72) (by decide +kernel)
theorem pw_r0_10 {M : ms_M} (h : pw_cr M) : M 0 10 = 73 := h (0, 10, 73) (by decide +kernel)
theorem pw_r0_11 {M : ms_M} (h : pw_cr M) : M 0 11 = 74 := h (0, 11, 74) (by decide +kernel)
theorem pw_r0_12 {M : ms_M} (h : pw_cr M) : M 0 12 = 76 := h (0, 12, 76) (by decide +kernel)
theorem pw_r0_13 {M : ms_M} (h : pw_cr M) : M 0 13 = 81 := h (0, 13, 81) (by decide +kernel)
theorem pw_r0_14 {M : ms_M} (h : pw_cr M) : M 0 14 = 83 := h (0, 14, 83) (by decide +kernel)
theorem pw_r0_15 {M : ms_M} (h : pw_cr M) : M 0 15 = 87 := h (0, 15, 87) (by decide +kernel)
theorem pw_r0_16 {M : ms_M} (h : pw_cr M) : M 0 16 = 89 := h (0, 16, 89) (by decide +kernel)
theorem pw_r15_0 {M : ms_M} (h : pw_cr M) : M 15 0 = 16 := h (15, 0, 16) (by decide +kernel)
theorem pw_r65_0 {M : ms_M} (h : pw_cr M) : M 65 0 = 66 := h (65, 0, 66) (by decide +kernel)
theorem pw_r65_1 {M : ms_M} (h : pw_cr M) : M 65 1 = 67 := h (65, 1, 67) (by decide +kernel)
theorem pw_r68_0 {M : ms_M} (h : pw_cr M) : M 68 0 = 69 := h (68, 0, 69) (by decide +kernel)
theorem pw_r70_0 {M : ms_M} (h : pw_cr M) : M 70 0 = 71 := h (70, 0, 71) (by decide +kernel)
theorem pw_r74_0 {M : ms_M} (h : pw_cr M) : M 74 0 = 75 := h (74, 0, 75) (by decide +kernel)
theorem pw_r76_0 {M : ms_M} (h : pw_cr M) : M 76 0 = 77 := h (76, 0, 77) (by decide +kernel)
theorem pw_r76_1 {M : ms_M} (h : pw_cr M) : M 76 1 = 78 := h (76, 1, 78) (by decide +kernel)
theorem pw_r76_2 {M : ms_M} (h : pw_cr M) : M 76 2 = 80 := h (76, 2, 80) (by decide +kernel)
theorem pw_r78_0 {M : ms_M} (h : pw_cr M) : M 78 0 = 79 := h (78, 0, 79) (by decide +kernel)
theorem pw_r81_0 {M : ms_M} (h : pw_cr M) : M 81 0 = 82 := h (81, 0, 82) (by decide +kernel)
theorem pw_r83_0 {M : ms_M} (h : pw_cr M) : M 83 0 = 84 := h (83, 0, 84) (by decide +kernel)
theorem pw_r83_1 {M : ms_M} (h : pw_cr M) : M 83 1 = 85 := h (83, 1, 85) (by decide +kernel)
theorem pw_r83_2 {M : ms_M} (h : pw_cr M) : M 83 2 = 86 := h (83, 2, 86) (by decide +kernel)
theorem pw_r87_0 {M : ms_M} (h : pw_cr M) : M 87 0 = 88 := h (87, 0, 88) (by decide +kernel)
theorem pw_r89_0 {M : ms_M} (h : pw_cr M) : M 89 0 = 90 := h (89, 0, 90) (by decide +kernel)
