/-! ===== the first state ===== -/
def pw_S0 : pw_S := pw_S.mk (pw_bare 0) 0 (fun _ => pw_bare 0) (fun _ => 0) (fun _ => pw_bare 0) 0 (fun _ => 0) 0 (-1) (fun _ => 0)
theorem pw_S0_ok : pw_SO pw_S0 := by
  refine ⟨pw_bare_ok (by omega) (by omega), by show (0 : Int) ≤ 0; omega, by show (0 : Int) ≤ 12; omega, fun j j0 j1 => ?_, fun i _ _ => ⟨Or.inl rfl, fun h => ?_⟩, by show (0 : Int) ≤ 0; omega, by show (0 : Int) ≤ 500; omega, by show (-1 : Int) ≤ -1; omega, by show (-1 : Int) ≤ 20; omega⟩
  · have j1' : j < 0 := j1
    omega
  · have h' : (0 : Int) = 1 := h
    omega
theorem pw_RC0 {M : ms_M} (hc : pw_cr M) (h1 : M 1 3 = 0 ∧ M 1 4 = 0 ∧ M 1 5 = 0) (h15 : M 15 1 = 0 ∧ M 15 2 = 0) (h14 : ∀ j, M 14 j = 0) (h74 : M 74 1 = 0) (h75 : ∀ j, M 75 j = 0) (h89 : M 89 1 = 0) (h892 : M 89 2 = -1) : pw_RC M pw_S0 := by
  have o1 := pw_cr_own hc pw_pid1
  refine ⟨hc, ⟨o1.1, o1.2.1, o1.2.2, h1.1, h1.2.1, h1.2.2, fun x x0 x1 => ?_, fun x x0 x1 => ?_⟩, ⟨0, h15.1, by omega, by omega, h15.2, by show (0 : Int) ≤ 0; omega, by show (0 : Int) ≤ 12; omega, fun j j0 j1 => ?_⟩, fun i i0 i1 => ⟨h14 i, fun h => ?_⟩, h74, fun j _ _ => h75 j, h89, h892, fun j j0 j1 => ?_⟩
  · have x0' : (0 : Int) ≤ x := x0
    have x1' : x < 0 + 0 := x1
    omega
  · have x1' : x < 0 := x1
    omega
  · have j1' : j < 0 := j1
    omega
  · have h' : (0 : Int) = 1 := h
    omega
  · have j1' : j ≤ -1 := j1
    omega
theorem pw_RM0 {M : ms_M} (hr : pw_mr M) (hz : ∀ c, 103 < c → c < 129 → ∀ j, M c j = 0) (h4 : M 103 4 = 0) (h9 : M 103 9 = 0) (h39 : M 103 39 = 0) (h40 : M 103 40 = 0) : pw_RM M pw_S0 := by
  refine ⟨hr, mo_at_bare (fun j _ _ => hz 104 (by omega) (by omega) j), h4, fun j j0 j1 => ?_, fun i i0 i1 => ⟨hz 108 (by omega) (by omega) i, fun h => ?_⟩, h9, fun j _ _ => hz 110 (by omega) (by omega) j, h39, ?_, fun j j0 j1 => ?_⟩
  · have j1' : j < 0 := j1
    omega
  · have h' : (0 : Int) = 1 := h
    omega
  · rw [h40]; rfl
  · have j1' : j ≤ -1 := j1
    omega
