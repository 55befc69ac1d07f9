/-! ===== steps that go: Program.compact ===== -/
abbrev pw_Cs : Type := Int × (Int → Int) × (Int → Int) × (Int → Int)
def pw_set (f : Int → Int) (i v : Int) : Int → Int := fun j => if j = i then v else f j
theorem pw_set_same {f : Int → Int} {i v : Int} : pw_set f i v i = v := if_pos rfl
theorem pw_set_ne {f : Int → Int} {i v j : Int} (h : j ≠ i) : pw_set f i v j = f j := if_neg h
def pw_cp1 (P : pw_P) (n : Int) (s : pw_Cs) : pw_Cs :=
  if s.2.1 n = n then (s.1 + 1, pw_set s.2.1 n s.1, pw_set s.2.2.1 s.1 (s.2.1 (P.2.2.2.1 n)), pw_set s.2.2.2 s.1 (s.2.1 (P.2.2.2.2.1 n)))
  else if s.2.1 n = -1 then s else (s.1, pw_set s.2.1 n (s.2.1 (s.2.1 n)), s.2.2.1, s.2.2.2)
def pw_cps (P : pw_P) (b : Int → Int) : Nat → pw_Cs
  | 0 => (P.1, b, P.2.2.2.1, P.2.2.2.2.1)
  | i + 1 => pw_cp1 P (P.1 + i) (pw_cps P b i)
def pw_cpt (P : pw_P) (b : Int → Int) : pw_P :=
  (P.1, (pw_cps P b P.2.1.toNat).1 - P.1, P.2.2.1, (pw_cps P b P.2.1.toNat).2.2.1, (pw_cps P b P.2.1.toNat).2.2.2, fun k => (pw_cps P b P.2.1.toNat).2.1 (P.2.2.2.2.2 k))
theorem pw_cps_in (P : pw_P) (b : Int → Int) : ∀ i : Nat, P.1 ≤ (pw_cps P b i).1 ∧ (pw_cps P b i).1 ≤ P.1 + i ∧ ∀ n, P.1 + i ≤ n → (pw_cps P b i).2.1 n = b n
  | 0 => by simp [pw_cps]
  | i + 1 => by
    obtain ⟨h1, h2, h3⟩ := pw_cps_in P b i
    simp only [pw_cps, pw_cp1]
    split
    · refine ⟨by simp only; omega, by simp only; omega, fun n hn => ?_⟩
      simp only
      rw [pw_set_ne (by omega), h3 n (by omega)]
    · split
      · exact ⟨h1, by omega, fun n hn => h3 n (by omega)⟩
      · refine ⟨h1, by simp only; omega, fun n hn => ?_⟩
        simp only
        rw [pw_set_ne (by omega), h3 n (by omega)]
section CCO
variable {G : ms_G} {Γ : List ms_Sh} {M : ms_M} {Q : ms_Q} {d : Nat} {a : Int} {P : pw_P}
set_option maxRecDepth 100000
set_option maxHeartbeats 4000000
theorem c_compact {b : Int → Int} (hG : pw_G Γ) (ha : pw_pid a) (hP : pw_at M a P) (hd : pw_dim P) (hl : pw_lnk P) (hb : ∀ n, 0 ≤ n → n < P.1 + P.2.1 → M 72 n = b n) (hb' : ∀ n, P.1 ≤ n → n < P.1 + P.2.1 → b n = -1 ∨ (0 ≤ b n ∧ b n ≤ n)) (K : ∀ M', (∀ c, c < a ∨ a + 3 < c → c ≠ 72 → M' c = M c) → pw_at M' a (pw_cpt P b) → Q (0, P.2.1 - (pw_cpt P b).2.1) Γ M') : ms_Call G mX4_compact (d + 2) 0 0 [(2, a), (2, 72)] Γ M Q := by
  obtain ⟨k0, k1, k2, k3, l1, l2, l3⟩ := pw_pk hG ha
  obtain ⟨h0, h1, h2, h3, h4, h5, hlr, ht⟩ := id hP
  obtain ⟨b0, b1, s0, s1, w0, w1⟩ := id hd
  have har := pw_pidr ha
  refine ms_Call.of (ls := [(2, a), (2, 72), (3, 0), (3, 0), (3, 0), (3, 0)]) (by decide +kernel) (Nat.le_of_ble_eq_true rfl) rfl (fun hM hv => ?_)
  refine ms_gq (kX4_compact G Q (d + 1)) rfl ?_
  simp only [x_run, x_ci, x_cl, x_bin, x_dv, x_lbin, x_ldv, x_un, x_lcmp, x_lshl, x_dup0, x_dup2r, x_dup2, x_pop0, x_go, x_if1, x_if2, x_retf, x_rett, x_lret, x_vret, x_ald, x_bald, x_ast, x_bast, x_aast, x_oi, x_mx, x_acp, x_new, x_newa, x_anew, x_wt0, x_wti, x_wtl, x_wtr, x_lst4, x_lst8, x_ld0, x_st0, x_inc0, x_ld1, x_st1, x_inc1, x_ld2, x_st2, x_inc2, x_ld3, x_st3, x_inc3, x_ld4, x_st4, x_inc4, x_ld5, x_st5, x_inc5, x_ld6, x_st6, x_inc6, x_ld7, x_st7, x_inc7, x_ld8, x_st8, x_inc8, x_ld9, x_st9, x_inc9, x_ld10, x_st10, x_inc10, x_ld11, x_st11, x_inc11, x_ld12, x_st12, x_inc12, x_ld13, x_st13, x_inc13, x_get_0, x_put_0, x_get_1, x_put_1, x_get_2, x_put_2, x_get_3, x_put_3, x_get_4, x_put_4, x_get_5, x_put_5, x_get_6, x_put_6, x_get_7, x_put_7, x_get_8, x_put_8, x_get_9, x_put_9, x_get_10, x_put_10, x_get_11, x_put_11, x_get_12, x_put_12, x_get_13, x_put_13, x_get_14, x_put_14, x_get_15, x_put_15, x_get_16, x_put_16, x_get_17, x_put_17, x_get_18, x_put_18, x_get_19, x_put_19, x_get_20, x_put_20, x_get_21, x_put_21, x_get_22, x_put_22, x_get_23, x_put_23, x_get_24, x_put_24, x_get_25, x_put_25, x_get_26, x_put_26, x_get_27, x_put_27, x_get_28, x_put_28, x_get_29, x_put_29, x_get_30, x_put_30, x_get_31, x_put_31, x_get_32, x_put_32, x_get_33, x_put_33, x_get_34, x_put_34, x_get_35, x_put_35, x_get_36, x_put_36, x_get_37, x_put_37, x_get_38, x_put_38, x_get_39, x_put_39, x_get_40, x_put_40, x_get_41, x_put_41, x_get_42, x_put_42, x_get_43, x_put_43, x_get_44, x_put_44, x_invS0, x_invV0, x_invS1, x_invV1, x_invS2, x_invV2, x_invS3, x_invV3, x_invS4, x_invV4, x_invS5, x_invV5, x_invS6, x_invV6, x_invS7, x_invV7, true_and, and_true, true_or, or_true, false_or, or_false, ne_eq, not_true_eq_false, not_false_eq_true, implies_true, true_implies, false_implies, Nat.zero_le, Nat.le_refl, Nat.sub_self, Nat.sub_zero, if_true, if_false, reduceIte, Nat.reduceAdd, Nat.reduceSub, Nat.reduceLeDiff, Nat.reduceLT, Nat.reduceEqDiff, Int.reduceEq, Int.reduceNeg, Int.reduceLT, Int.reduceLE, k0]
  refine c_size hG ha hP hd ?_
  simp only [x_run, x_ci, x_cl, x_bin, x_dv, x_lbin, x_ldv, x_un, x_lcmp, x_lshl, x_dup0, x_dup2r, x_dup2, x_pop0, x_go, x_if1, x_if2, x_retf, x_rett, x_lret, x_vret, x_ald, x_bald, x_ast, x_bast, x_aast, x_oi, x_mx, x_acp, x_new, x_newa, x_anew, x_wt0, x_wti, x_wtl, x_wtr, x_lst4, x_lst8, x_ld0, x_st0, x_inc0, x_ld1, x_st1, x_inc1, x_ld2, x_st2, x_inc2, x_ld3, x_st3, x_inc3, x_ld4, x_st4, x_inc4, x_ld5, x_st5, x_inc5, x_ld6, x_st6, x_inc6, x_ld7, x_st7, x_inc7, x_ld8, x_st8, x_inc8, x_ld9, x_st9, x_inc9, x_ld10, x_st10, x_inc10, x_ld11, x_st11, x_inc11, x_ld12, x_st12, x_inc12, x_ld13, x_st13, x_inc13, x_get_0, x_put_0, x_get_1, x_put_1, x_get_2, x_put_2, x_get_3, x_put_3, x_get_4, x_put_4, x_get_5, x_put_5, x_get_6, x_put_6, x_get_7, x_put_7, x_get_8, x_put_8, x_get_9, x_put_9, x_get_10, x_put_10, x_get_11, x_put_11, x_get_12, x_put_12, x_get_13, x_put_13, x_get_14, x_put_14, x_get_15, x_put_15, x_get_16, x_put_16, x_get_17, x_put_17, x_get_18, x_put_18, x_get_19, x_put_19, x_get_20, x_put_20, x_get_21, x_put_21, x_get_22, x_put_22, x_get_23, x_put_23, x_get_24, x_put_24, x_get_25, x_put_25, x_get_26, x_put_26, x_get_27, x_put_27, x_get_28, x_put_28, x_get_29, x_put_29, x_get_30, x_put_30, x_get_31, x_put_31, x_get_32, x_put_32, x_get_33, x_put_33, x_get_34, x_put_34, x_get_35, x_put_35, x_get_36, x_put_36, x_get_37, x_put_37, x_get_38, x_put_38, x_get_39, x_put_39, x_get_40, x_put_40, x_get_41, x_put_41, x_get_42, x_put_42, x_get_43, x_put_43, x_get_44, x_put_44, x_invS0, x_invV0, x_invS1, x_invV1, x_invS2, x_invV2, x_invS3, x_invV3, x_invS4, x_invV4, x_invS5, x_invV5, x_invS6, x_invV6, x_invS7, x_invV7, true_and, and_true, true_or, or_true, false_or, or_false, ne_eq, not_true_eq_false, not_false_eq_true, implies_true, true_implies, false_implies, Nat.zero_le, Nat.le_refl, Nat.sub_self, Nat.sub_zero, if_true, if_false, reduceIte, Nat.reduceAdd, Nat.reduceSub, Nat.reduceLeDiff, Nat.reduceLT, Nat.reduceEqDiff, Int.reduceEq, Int.reduceNeg, Int.reduceLT, Int.reduceLE, k0, h3]
  have hin := pw_cps_in P b P.2.1.toNat
  -- the wants, and the end
  have loop2 := pw_up (hi := P.2.2.1) (p := fun k => 0 ≤ k → ∀ (M1 : ms_M) (z : ms_V), (∀ c, c ≠ 72 → c ≠ a + 1 → c ≠ a + 2 → c ≠ a + 3 → M1 c = M c) → (∀ n, 0 ≤ n → n < P.1 + P.2.1 → M1 72 n = (pw_cps P b P.2.1.toNat).2.1 n) → (∀ n, P.1 ≤ n → n < (pw_cps P b P.2.1.toNat).1 → M1 (a + 1) n = (pw_cps P b P.2.1.toNat).2.2.1 n ∧ M1 (a + 2) n = (pw_cps P b P.2.1.toNat).2.2.2 n) → (∀ j, 0 ≤ j → j < k → M1 (a + 3) j = (pw_cps P b P.2.1.toNat).2.1 (P.2.2.2.2.2 j)) → (∀ j, k ≤ j → j < P.2.2.1 → M1 (a + 3) j = P.2.2.2.2.2 j) → ms_At G Q mX4_compact (d + 1 + 1) 0 0 99 [(2, a), (2, 72), (0, P.1 + P.2.1), (0, (pw_cps P b P.2.1.toNat).1), (0, k), z] [] Γ M1) (by
    intro k hk ih hk0 M1 z hf hm hlr1 hw1 hw2
    have ea : M1 a = M a := hf a (by omega) (by omega) (by omega) (by omega)
    have e5 : M1 a 5 = P.2.2.1 := by rw [ea]; exact h5
    have e2 : M1 a 2 = a + 3 := by rw [ea]; exact h2
    have e3 : M1 a 3 = P.1 := by rw [ea]; exact h3
    refine ms_gq (kX4_compact G Q (d + 1)) rfl ?_
    simp only [x_run, x_ci, x_cl, x_bin, x_dv, x_lbin, x_ldv, x_un, x_lcmp, x_lshl, x_dup0, x_dup2r, x_dup2, x_pop0, x_go, x_if1, x_if2, x_retf, x_rett, x_lret, x_vret, x_ald, x_bald, x_ast, x_bast, x_aast, x_oi, x_mx, x_acp, x_new, x_newa, x_anew, x_wt0, x_wti, x_wtl, x_wtr, x_lst4, x_lst8, x_ld0, x_st0, x_inc0, x_ld1, x_st1, x_inc1, x_ld2, x_st2, x_inc2, x_ld3, x_st3, x_inc3, x_ld4, x_st4, x_inc4, x_ld5, x_st5, x_inc5, x_ld6, x_st6, x_inc6, x_ld7, x_st7, x_inc7, x_ld8, x_st8, x_inc8, x_ld9, x_st9, x_inc9, x_ld10, x_st10, x_inc10, x_ld11, x_st11, x_inc11, x_ld12, x_st12, x_inc12, x_ld13, x_st13, x_inc13, x_get_0, x_put_0, x_get_1, x_put_1, x_get_2, x_put_2, x_get_3, x_put_3, x_get_4, x_put_4, x_get_5, x_put_5, x_get_6, x_put_6, x_get_7, x_put_7, x_get_8, x_put_8, x_get_9, x_put_9, x_get_10, x_put_10, x_get_11, x_put_11, x_get_12, x_put_12, x_get_13, x_put_13, x_get_14, x_put_14, x_get_15, x_put_15, x_get_16, x_put_16, x_get_17, x_put_17, x_get_18, x_put_18, x_get_19, x_put_19, x_get_20, x_put_20, x_get_21, x_put_21, x_get_22, x_put_22, x_get_23, x_put_23, x_get_24, x_put_24, x_get_25, x_put_25, x_get_26, x_put_26, x_get_27, x_put_27, x_get_28, x_put_28, x_get_29, x_put_29, x_get_30, x_put_30, x_get_31, x_put_31, x_get_32, x_put_32, x_get_33, x_put_33, x_get_34, x_put_34, x_get_35, x_put_35, x_get_36, x_put_36, x_get_37, x_put_37, x_get_38, x_put_38, x_get_39, x_put_39, x_get_40, x_put_40, x_get_41, x_put_41, x_get_42, x_put_42, x_get_43, x_put_43, x_get_44, x_put_44, x_invS0, x_invV0, x_invS1, x_invV1, x_invS2, x_invV2, x_invS3, x_invV3, x_invS4, x_invV4, x_invS5, x_invV5, x_invS6, x_invV6, x_invS7, x_invV7, true_and, and_true, true_or, or_true, false_or, or_false, ne_eq, not_true_eq_false, not_false_eq_true, implies_true, true_implies, false_implies, Nat.zero_le, Nat.le_refl, Nat.sub_self, Nat.sub_zero, if_true, if_false, reduceIte, Nat.reduceAdd, Nat.reduceSub, Nat.reduceLeDiff, Nat.reduceLT, Nat.reduceEqDiff, Int.reduceEq, Int.reduceNeg, Int.reduceLT, Int.reduceLE, k0, k3, l3, e5, e2, pw_k72 hG, pw_l72 hG]
    refine ⟨fun q => ms_gq (kX4_compact G Q (d + 1)) rfl ?_, fun q => ?_⟩
    · simp only [x_run, x_ci, x_cl, x_bin, x_dv, x_lbin, x_ldv, x_un, x_lcmp, x_lshl, x_dup0, x_dup2r, x_dup2, x_pop0, x_go, x_if1, x_if2, x_retf, x_rett, x_lret, x_vret, x_ald, x_bald, x_ast, x_bast, x_aast, x_oi, x_mx, x_acp, x_new, x_newa, x_anew, x_wt0, x_wti, x_wtl, x_wtr, x_lst4, x_lst8, x_ld0, x_st0, x_inc0, x_ld1, x_st1, x_inc1, x_ld2, x_st2, x_inc2, x_ld3, x_st3, x_inc3, x_ld4, x_st4, x_inc4, x_ld5, x_st5, x_inc5, x_ld6, x_st6, x_inc6, x_ld7, x_st7, x_inc7, x_ld8, x_st8, x_inc8, x_ld9, x_st9, x_inc9, x_ld10, x_st10, x_inc10, x_ld11, x_st11, x_inc11, x_ld12, x_st12, x_inc12, x_ld13, x_st13, x_inc13, x_get_0, x_put_0, x_get_1, x_put_1, x_get_2, x_put_2, x_get_3, x_put_3, x_get_4, x_put_4, x_get_5, x_put_5, x_get_6, x_put_6, x_get_7, x_put_7, x_get_8, x_put_8, x_get_9, x_put_9, x_get_10, x_put_10, x_get_11, x_put_11, x_get_12, x_put_12, x_get_13, x_put_13, x_get_14, x_put_14, x_get_15, x_put_15, x_get_16, x_put_16, x_get_17, x_put_17, x_get_18, x_put_18, x_get_19, x_put_19, x_get_20, x_put_20, x_get_21, x_put_21, x_get_22, x_put_22, x_get_23, x_put_23, x_get_24, x_put_24, x_get_25, x_put_25, x_get_26, x_put_26, x_get_27, x_put_27, x_get_28, x_put_28, x_get_29, x_put_29, x_get_30, x_put_30, x_get_31, x_put_31, x_get_32, x_put_32, x_get_33, x_put_33, x_get_34, x_put_34, x_get_35, x_put_35, x_get_36, x_put_36, x_get_37, x_put_37, x_get_38, x_put_38, x_get_39, x_put_39, x_get_40, x_put_40, x_get_41, x_put_41, x_get_42, x_put_42, x_get_43, x_put_43, x_get_44, x_put_44, x_invS0, x_invV0, x_invS1, x_invV1, x_invS2, x_invV2, x_invS3, x_invV3, x_invS4, x_invV4, x_invS5, x_invV5, x_invS6, x_invV6, x_invS7, x_invV7, true_and, and_true, true_or, or_true, false_or, or_false, ne_eq, not_true_eq_false, not_false_eq_true, implies_true, true_implies, false_implies, Nat.zero_le, Nat.le_refl, Nat.sub_self, Nat.sub_zero, if_true, if_false, reduceIte, Nat.reduceAdd, Nat.reduceSub, Nat.reduceLeDiff, Nat.reduceLT, Nat.reduceEqDiff, Int.reduceEq, Int.reduceNeg, Int.reduceLT, Int.reduceLE, k0, e3]
      rw [w32_id (by omega) (by omega), w32_id (by omega) (by omega)]
      have := K (ms_up M1 a 4 ((pw_cps P b P.2.1.toNat).1 - P.1)) (fun c hc1 hc2 => by rw [ms_up_row (by omega), hf c hc2 (by omega) (by omega) (by omega)]) ?_
      · rw [show P.1 + P.2.1 - (pw_cps P b P.2.1.toNat).1 = P.2.1 - (pw_cpt P b).2.1 by simp only [pw_cpt]; omega]
        exact this
      · refine ⟨?_, ?_, ?_, ?_, ?_, ?_, fun n n1 n2 => ?_, fun j j1 j2 => ?_⟩
        · rw [ms_up_j (by omega), ea]; exact h0
        · rw [ms_up_j (by omega), ea]; exact h1
        · rw [ms_up_j (by omega), ea]; exact h2
        · rw [ms_up_j (by omega), ea]; exact h3
        · rw [ms_up_same]; rfl
        · rw [ms_up_j (by omega), ea]; exact h5
        · simp only [pw_cpt] at n1 n2
          rw [ms_up_a (by omega), ms_up_a (by omega)]
          exact hlr1 n n1 (by omega)
        · simp only [pw_cpt] at j2
          rw [ms_up_a (by omega)]
          exact hw1 j j1 (by omega)
    · have e6 := hw2 k (by omega) (by omega)
      have e7 := hl.2 k (by omega) (by omega)
      rw [e6, hm _ e7.1 e7.2, w32_id (by omega) (by omega)]
      refine ⟨by omega, by omega, by omega, by omega, by omega, by omega, ?_⟩
      refine ih (k + 1) (by omega) (by omega) (by omega) _ _ (fun c c1 c2 c3 c4 => ?_) (fun n n1 n2 => ?_) (fun n n1 n2 => ?_) (fun j j1 j2 => ?_) (fun j j1 j2 => ?_)
      · rw [ms_up_row c4]; exact hf c c1 c2 c3 c4
      · rw [ms_up_a (by omega)]; exact hm n n1 n2
      · rw [ms_up_a (by omega), ms_up_a (by omega)]; exact hlr1 n n1 n2
      · by_cases hj : j = k
        · rw [hj, ms_up_same]
        · rw [ms_up_j hj]; exact hw1 j j1 (by omega)
      · rw [ms_up_j (by omega)]; exact hw2 j (by omega) j2)
  have loop1 := pw_up (hi := P.2.1) (p := fun i => 0 ≤ i → ∀ (M1 : ms_M) (z : ms_V), (∀ c, c ≠ 72 → c ≠ a + 1 → c ≠ a + 2 → M1 c = M c) → (∀ n, 0 ≤ n → n < P.1 + P.2.1 → M1 72 n = (pw_cps P b i.toNat).2.1 n) → (∀ n, P.1 ≤ n → n < (pw_cps P b i.toNat).1 → M1 (a + 1) n = (pw_cps P b i.toNat).2.2.1 n ∧ M1 (a + 2) n = (pw_cps P b i.toNat).2.2.2 n) → (∀ n, P.1 + i ≤ n → n < P.1 + P.2.1 → M1 (a + 1) n = P.2.2.2.1 n ∧ M1 (a + 2) n = P.2.2.2.2.1 n) → ms_At G Q mX4_compact (d + 1 + 1) 0 0 16 [(2, a), (2, 72), (0, P.1 + P.2.1), (0, (pw_cps P b i.toNat).1), (0, P.1 + i), z] [] Γ M1) (by
    intro i hi ih hi0 M1 z hf hm hlr1 hlr2
    have ea : M1 a = M a := hf a (by omega) (by omega) (by omega)
    have e0 : M1 a 0 = a + 1 := by rw [ea]; exact h0
    have e1 : M1 a 1 = a + 2 := by rw [ea]; exact h1
    obtain ⟨i1, i2, i3⟩ := pw_cps_in P b i.toNat
    have r90 : ∀ (s : pw_Cs) (M2 : ms_M) (z : ms_V), s = pw_cps P b (i + 1).toNat → i < P.2.1 → (∀ c, c ≠ 72 → c ≠ a + 1 → c ≠ a + 2 → M2 c = M c) → (∀ n, 0 ≤ n → n < P.1 + P.2.1 → M2 72 n = s.2.1 n) → (∀ n, P.1 ≤ n → n < s.1 → M2 (a + 1) n = s.2.2.1 n ∧ M2 (a + 2) n = s.2.2.2 n) → (∀ n, P.1 + (i + 1) ≤ n → n < P.1 + P.2.1 → M2 (a + 1) n = P.2.2.2.1 n ∧ M2 (a + 2) n = P.2.2.2.2.1 n) → ms_At G Q mX4_compact (d + 1 + 1) 0 0 90 [(2, a), (2, 72), (0, P.1 + P.2.1), (0, s.1), (0, P.1 + i), z] [] Γ M2 := by
      intro s M2 z hs hi' g1 g2 g3 g4
      refine ms_gq (kX4_compact G Q (d + 1)) rfl ?_
      simp only [x_run, x_ci, x_cl, x_bin, x_dv, x_lbin, x_ldv, x_un, x_lcmp, x_lshl, x_dup0, x_dup2r, x_dup2, x_pop0, x_go, x_if1, x_if2, x_retf, x_rett, x_lret, x_vret, x_ald, x_bald, x_ast, x_bast, x_aast, x_oi, x_mx, x_acp, x_new, x_newa, x_anew, x_wt0, x_wti, x_wtl, x_wtr, x_lst4, x_lst8, x_ld0, x_st0, x_inc0, x_ld1, x_st1, x_inc1, x_ld2, x_st2, x_inc2, x_ld3, x_st3, x_inc3, x_ld4, x_st4, x_inc4, x_ld5, x_st5, x_inc5, x_ld6, x_st6, x_inc6, x_ld7, x_st7, x_inc7, x_ld8, x_st8, x_inc8, x_ld9, x_st9, x_inc9, x_ld10, x_st10, x_inc10, x_ld11, x_st11, x_inc11, x_ld12, x_st12, x_inc12, x_ld13, x_st13, x_inc13, x_get_0, x_put_0, x_get_1, x_put_1, x_get_2, x_put_2, x_get_3, x_put_3, x_get_4, x_put_4, x_get_5, x_put_5, x_get_6, x_put_6, x_get_7, x_put_7, x_get_8, x_put_8, x_get_9, x_put_9, x_get_10, x_put_10, x_get_11, x_put_11, x_get_12, x_put_12, x_get_13, x_put_13, x_get_14, x_put_14, x_get_15, x_put_15, x_get_16, x_put_16, x_get_17, x_put_17, x_get_18, x_put_18, x_get_19, x_put_19, x_get_20, x_put_20, x_get_21, x_put_21, x_get_22, x_put_22, x_get_23, x_put_23, x_get_24, x_put_24, x_get_25, x_put_25, x_get_26, x_put_26, x_get_27, x_put_27, x_get_28, x_put_28, x_get_29, x_put_29, x_get_30, x_put_30, x_get_31, x_put_31, x_get_32, x_put_32, x_get_33, x_put_33, x_get_34, x_put_34, x_get_35, x_put_35, x_get_36, x_put_36, x_get_37, x_put_37, x_get_38, x_put_38, x_get_39, x_put_39, x_get_40, x_put_40, x_get_41, x_put_41, x_get_42, x_put_42, x_get_43, x_put_43, x_get_44, x_put_44, x_invS0, x_invV0, x_invS1, x_invV1, x_invS2, x_invV2, x_invS3, x_invV3, x_invS4, x_invV4, x_invS5, x_invV5, x_invS6, x_invV6, x_invS7, x_invV7, true_and, and_true, true_or, or_true, false_or, or_false, ne_eq, not_true_eq_false, not_false_eq_true, implies_true, true_implies, false_implies, Nat.zero_le, Nat.le_refl, Nat.sub_self, Nat.sub_zero, if_true, if_false, reduceIte, Nat.reduceAdd, Nat.reduceSub, Nat.reduceLeDiff, Nat.reduceLT, Nat.reduceEqDiff, Int.reduceEq, Int.reduceNeg, Int.reduceLT, Int.reduceLE]
      rw [w32_id (by omega) (by omega), show P.1 + i + 1 = P.1 + (i + 1) by omega]
      subst hs
      exact ih (i + 1) (by omega) (by omega) (by omega) M2 z g1 g2 g3 g4
    refine ms_gq (kX4_compact G Q (d + 1)) rfl ?_
    simp only [x_run, x_ci, x_cl, x_bin, x_dv, x_lbin, x_ldv, x_un, x_lcmp, x_lshl, x_dup0, x_dup2r, x_dup2, x_pop0, x_go, x_if1, x_if2, x_retf, x_rett, x_lret, x_vret, x_ald, x_bald, x_ast, x_bast, x_aast, x_oi, x_mx, x_acp, x_new, x_newa, x_anew, x_wt0, x_wti, x_wtl, x_wtr, x_lst4, x_lst8, x_ld0, x_st0, x_inc0, x_ld1, x_st1, x_inc1, x_ld2, x_st2, x_inc2, x_ld3, x_st3, x_inc3, x_ld4, x_st4, x_inc4, x_ld5, x_st5, x_inc5, x_ld6, x_st6, x_inc6, x_ld7, x_st7, x_inc7, x_ld8, x_st8, x_inc8, x_ld9, x_st9, x_inc9, x_ld10, x_st10, x_inc10, x_ld11, x_st11, x_inc11, x_ld12, x_st12, x_inc12, x_ld13, x_st13, x_inc13, x_get_0, x_put_0, x_get_1, x_put_1, x_get_2, x_put_2, x_get_3, x_put_3, x_get_4, x_put_4, x_get_5, x_put_5, x_get_6, x_put_6, x_get_7, x_put_7, x_get_8, x_put_8, x_get_9, x_put_9, x_get_10, x_put_10, x_get_11, x_put_11, x_get_12, x_put_12, x_get_13, x_put_13, x_get_14, x_put_14, x_get_15, x_put_15, x_get_16, x_put_16, x_get_17, x_put_17, x_get_18, x_put_18, x_get_19, x_put_19, x_get_20, x_put_20, x_get_21, x_put_21, x_get_22, x_put_22, x_get_23, x_put_23, x_get_24, x_put_24, x_get_25, x_put_25, x_get_26, x_put_26, x_get_27, x_put_27, x_get_28, x_put_28, x_get_29, x_put_29, x_get_30, x_put_30, x_get_31, x_put_31, x_get_32, x_put_32, x_get_33, x_put_33, x_get_34, x_put_34, x_get_35, x_put_35, x_get_36, x_put_36, x_get_37, x_put_37, x_get_38, x_put_38, x_get_39, x_put_39, x_get_40, x_put_40, x_get_41, x_put_41, x_get_42, x_put_42, x_get_43, x_put_43, x_get_44, x_put_44, x_invS0, x_invV0, x_invS1, x_invV1, x_invS2, x_invV2, x_invS3, x_invV3, x_invS4, x_invV4, x_invS5, x_invV5, x_invS6, x_invV6, x_invS7, x_invV7, true_and, and_true, true_or, or_true, false_or, or_false, ne_eq, not_true_eq_false, not_false_eq_true, implies_true, true_implies, false_implies, Nat.zero_le, Nat.le_refl, Nat.sub_self, Nat.sub_zero, if_true, if_false, reduceIte, Nat.reduceAdd, Nat.reduceSub, Nat.reduceLeDiff, Nat.reduceLT, Nat.reduceEqDiff, Int.reduceEq, Int.reduceNeg, Int.reduceLT, Int.reduceLE, pw_k72 hG, pw_l72 hG]
    refine ⟨fun q => ms_gq (kX4_compact G Q (d + 1)) rfl ?_, fun q => ?_⟩
    · simp only [x_run, x_ci, x_cl, x_bin, x_dv, x_lbin, x_ldv, x_un, x_lcmp, x_lshl, x_dup0, x_dup2r, x_dup2, x_pop0, x_go, x_if1, x_if2, x_retf, x_rett, x_lret, x_vret, x_ald, x_bald, x_ast, x_bast, x_aast, x_oi, x_mx, x_acp, x_new, x_newa, x_anew, x_wt0, x_wti, x_wtl, x_wtr, x_lst4, x_lst8, x_ld0, x_st0, x_inc0, x_ld1, x_st1, x_inc1, x_ld2, x_st2, x_inc2, x_ld3, x_st3, x_inc3, x_ld4, x_st4, x_inc4, x_ld5, x_st5, x_inc5, x_ld6, x_st6, x_inc6, x_ld7, x_st7, x_inc7, x_ld8, x_st8, x_inc8, x_ld9, x_st9, x_inc9, x_ld10, x_st10, x_inc10, x_ld11, x_st11, x_inc11, x_ld12, x_st12, x_inc12, x_ld13, x_st13, x_inc13, x_get_0, x_put_0, x_get_1, x_put_1, x_get_2, x_put_2, x_get_3, x_put_3, x_get_4, x_put_4, x_get_5, x_put_5, x_get_6, x_put_6, x_get_7, x_put_7, x_get_8, x_put_8, x_get_9, x_put_9, x_get_10, x_put_10, x_get_11, x_put_11, x_get_12, x_put_12, x_get_13, x_put_13, x_get_14, x_put_14, x_get_15, x_put_15, x_get_16, x_put_16, x_get_17, x_put_17, x_get_18, x_put_18, x_get_19, x_put_19, x_get_20, x_put_20, x_get_21, x_put_21, x_get_22, x_put_22, x_get_23, x_put_23, x_get_24, x_put_24, x_get_25, x_put_25, x_get_26, x_put_26, x_get_27, x_put_27, x_get_28, x_put_28, x_get_29, x_put_29, x_get_30, x_put_30, x_get_31, x_put_31, x_get_32, x_put_32, x_get_33, x_put_33, x_get_34, x_put_34, x_get_35, x_put_35, x_get_36, x_put_36, x_get_37, x_put_37, x_get_38, x_put_38, x_get_39, x_put_39, x_get_40, x_put_40, x_get_41, x_put_41, x_get_42, x_put_42, x_get_43, x_put_43, x_get_44, x_put_44, x_invS0, x_invV0, x_invS1, x_invV1, x_invS2, x_invV2, x_invS3, x_invV3, x_invS4, x_invV4, x_invS5, x_invV5, x_invS6, x_invV6, x_invS7, x_invV7, true_and, and_true, true_or, or_true, false_or, or_false, ne_eq, not_true_eq_false, not_false_eq_true, implies_true, true_implies, false_implies, Nat.zero_le, Nat.le_refl, Nat.sub_self, Nat.sub_zero, if_true, if_false, reduceIte, Nat.reduceAdd, Nat.reduceSub, Nat.reduceLeDiff, Nat.reduceLT, Nat.reduceEqDiff, Int.reduceEq, Int.reduceNeg, Int.reduceLT, Int.reduceLE]
      have hie : i = P.2.1 := by omega
      subst hie
      exact loop2 0 (by omega) (by omega) M1 z (fun c c1 c2 c3 c4 => hf c c1 c2 c3) hm hlr1 (fun j j1 j2 => by omega) (fun j j1 j2 => by rw [hf (a + 3) (by omega) (by omega) (by omega)]; exact ht j j1 j2)
    · have hs : pw_cps P b (i + 1).toNat = pw_cp1 P (P.1 + i) (pw_cps P b i.toNat) := by
        rw [show (i + 1).toNat = i.toNat + 1 by omega]
        simp only [pw_cps]
        rw [show ((i.toNat : Nat) : Int) = i by omega]
      have em := hm (P.1 + i) (by omega) (by omega)
      have eb := i3 (P.1 + i) (by omega)
      have ebb := hb' (P.1 + i) (by omega) (by omega)
      obtain ⟨x1, x2⟩ := hlr2 (P.1 + i) (by omega) (by omega)
      obtain ⟨y1, y2, y3, y4⟩ := hl.1 (P.1 + i) (by omega) (by omega)
      rw [em]
      refine ⟨by omega, by omega, fun q1 => ms_gq (kX4_compact G Q (d + 1)) rfl ?_, fun q1 => ?_⟩
      · simp only [x_run, x_ci, x_cl, x_bin, x_dv, x_lbin, x_ldv, x_un, x_lcmp, x_lshl, x_dup0, x_dup2r, x_dup2, x_pop0, x_go, x_if1, x_if2, x_retf, x_rett, x_lret, x_vret, x_ald, x_bald, x_ast, x_bast, x_aast, x_oi, x_mx, x_acp, x_new, x_newa, x_anew, x_wt0, x_wti, x_wtl, x_wtr, x_lst4, x_lst8, x_ld0, x_st0, x_inc0, x_ld1, x_st1, x_inc1, x_ld2, x_st2, x_inc2, x_ld3, x_st3, x_inc3, x_ld4, x_st4, x_inc4, x_ld5, x_st5, x_inc5, x_ld6, x_st6, x_inc6, x_ld7, x_st7, x_inc7, x_ld8, x_st8, x_inc8, x_ld9, x_st9, x_inc9, x_ld10, x_st10, x_inc10, x_ld11, x_st11, x_inc11, x_ld12, x_st12, x_inc12, x_ld13, x_st13, x_inc13, x_get_0, x_put_0, x_get_1, x_put_1, x_get_2, x_put_2, x_get_3, x_put_3, x_get_4, x_put_4, x_get_5, x_put_5, x_get_6, x_put_6, x_get_7, x_put_7, x_get_8, x_put_8, x_get_9, x_put_9, x_get_10, x_put_10, x_get_11, x_put_11, x_get_12, x_put_12, x_get_13, x_put_13, x_get_14, x_put_14, x_get_15, x_put_15, x_get_16, x_put_16, x_get_17, x_put_17, x_get_18, x_put_18, x_get_19, x_put_19, x_get_20, x_put_20, x_get_21, x_put_21, x_get_22, x_put_22, x_get_23, x_put_23, x_get_24, x_put_24, x_get_25, x_put_25, x_get_26, x_put_26, x_get_27, x_put_27, x_get_28, x_put_28, x_get_29, x_put_29, x_get_30, x_put_30, x_get_31, x_put_31, x_get_32, x_put_32, x_get_33, x_put_33, x_get_34, x_put_34, x_get_35, x_put_35, x_get_36, x_put_36, x_get_37, x_put_37, x_get_38, x_put_38, x_get_39, x_put_39, x_get_40, x_put_40, x_get_41, x_put_41, x_get_42, x_put_42, x_get_43, x_put_43, x_get_44, x_put_44, x_invS0, x_invV0, x_invS1, x_invV1, x_invS2, x_invV2, x_invS3, x_invV3, x_invS4, x_invV4, x_invS5, x_invV5, x_invS6, x_invV6, x_invS7, x_invV7, true_and, and_true, true_or, or_true, false_or, or_false, ne_eq, not_true_eq_false, not_false_eq_true, implies_true, true_implies, false_implies, Nat.zero_le, Nat.le_refl, Nat.sub_self, Nat.sub_zero, if_true, if_false, reduceIte, Nat.reduceAdd, Nat.reduceSub, Nat.reduceLeDiff, Nat.reduceLT, Nat.reduceEqDiff, Int.reduceEq, Int.reduceNeg, Int.reduceLT, Int.reduceLE, pw_k72 hG, pw_l72 hG]
        refine ⟨fun q2 => ?_, fun q2 => ?_⟩
        · refine r90 (pw_cps P b i.toNat) M1 _ ?_ (by omega) hf hm hlr1 (fun n n1 n2 => hlr2 n (by omega) n2)
          rw [hs]; unfold pw_cp1
          rw [if_neg q1, if_pos q2]
        · have q2' : ¬ b (P.1 + i) = -1 := by rw [← eb]; exact q2
          rw [hm _ (by omega) (by omega)]
          have hs' : ((pw_cps P b i.toNat).1, pw_set (pw_cps P b i.toNat).2.1 (P.1 + i) ((pw_cps P b i.toNat).2.1 ((pw_cps P b i.toNat).2.1 (P.1 + i))), (pw_cps P b i.toNat).2.2.1, (pw_cps P b i.toNat).2.2.2) = pw_cps P b (i + 1).toNat := by
            rw [hs]; unfold pw_cp1
            rw [if_neg q1, if_neg q2]
          refine ⟨by omega, by omega, by omega, by omega, r90 ((pw_cps P b i.toNat).1, pw_set (pw_cps P b i.toNat).2.1 (P.1 + i) ((pw_cps P b i.toNat).2.1 ((pw_cps P b i.toNat).2.1 (P.1 + i))), (pw_cps P b i.toNat).2.2.1, (pw_cps P b i.toNat).2.2.2) _ _ hs' (by omega) (fun c c1 c2 c3 => ?_) (fun n n1 n2 => ?_) (fun n n1 n2 => ?_) (fun n n1 n2 => ?_)⟩
          · rw [ms_up_row c1]; exact hf c c1 c2 c3
          · by_cases hn : n = P.1 + i
            · rw [hn, ms_up_same]; exact pw_set_same.symm
            · rw [ms_up_j hn, hm n n1 n2]; exact (pw_set_ne hn).symm
          · rw [ms_up_a (by omega), ms_up_a (by omega)]; exact hlr1 n n1 n2
          · rw [ms_up_a (by omega), ms_up_a (by omega)]; exact hlr2 n (by omega) n2
      · have q1' : (pw_cps P b i.toNat).2.1 (P.1 + i) = P.1 + i := by omega
        have hs' : ((pw_cps P b i.toNat).1 + 1, pw_set (pw_cps P b i.toNat).2.1 (P.1 + i) (pw_cps P b i.toNat).1, pw_set (pw_cps P b i.toNat).2.2.1 (pw_cps P b i.toNat).1 ((pw_cps P b i.toNat).2.1 (P.2.2.2.1 (P.1 + i))), pw_set (pw_cps P b i.toNat).2.2.2 (pw_cps P b i.toNat).1 ((pw_cps P b i.toNat).2.1 (P.2.2.2.2.1 (P.1 + i)))) = pw_cps P b (i + 1).toNat := by
          rw [hs]; unfold pw_cp1
          rw [if_pos q1']
        have u1 : ∀ j v, ms_up M1 (a + 1) j v a 1 = a + 2 := fun j v => by rw [ms_up_a (by omega)]; exact e1
        have u2 : ∀ j v, ms_up M1 (a + 1) j v (a + 2) (P.1 + i) = P.2.2.2.2.1 (P.1 + i) := fun j v => by rw [ms_up_a (by omega)]; exact x2
        have u3 : ∀ j v k, ms_up M1 (a + 1) j v 72 k = M1 72 k := fun j v k => by rw [ms_up_a (by omega)]
        have m1 := hm _ y1 (by omega : P.2.2.2.1 (P.1 + i) < P.1 + P.2.1)
        have m2 := hm _ y3 (by omega : P.2.2.2.2.1 (P.1 + i) < P.1 + P.2.1)
        simp only [x_run, x_ci, x_cl, x_bin, x_dv, x_lbin, x_ldv, x_un, x_lcmp, x_lshl, x_dup0, x_dup2r, x_dup2, x_pop0, x_go, x_if1, x_if2, x_retf, x_rett, x_lret, x_vret, x_ald, x_bald, x_ast, x_bast, x_aast, x_oi, x_mx, x_acp, x_new, x_newa, x_anew, x_wt0, x_wti, x_wtl, x_wtr, x_lst4, x_lst8, x_ld0, x_st0, x_inc0, x_ld1, x_st1, x_inc1, x_ld2, x_st2, x_inc2, x_ld3, x_st3, x_inc3, x_ld4, x_st4, x_inc4, x_ld5, x_st5, x_inc5, x_ld6, x_st6, x_inc6, x_ld7, x_st7, x_inc7, x_ld8, x_st8, x_inc8, x_ld9, x_st9, x_inc9, x_ld10, x_st10, x_inc10, x_ld11, x_st11, x_inc11, x_ld12, x_st12, x_inc12, x_ld13, x_st13, x_inc13, x_get_0, x_put_0, x_get_1, x_put_1, x_get_2, x_put_2, x_get_3, x_put_3, x_get_4, x_put_4, x_get_5, x_put_5, x_get_6, x_put_6, x_get_7, x_put_7, x_get_8, x_put_8, x_get_9, x_put_9, x_get_10, x_put_10, x_get_11, x_put_11, x_get_12, x_put_12, x_get_13, x_put_13, x_get_14, x_put_14, x_get_15, x_put_15, x_get_16, x_put_16, x_get_17, x_put_17, x_get_18, x_put_18, x_get_19, x_put_19, x_get_20, x_put_20, x_get_21, x_put_21, x_get_22, x_put_22, x_get_23, x_put_23, x_get_24, x_put_24, x_get_25, x_put_25, x_get_26, x_put_26, x_get_27, x_put_27, x_get_28, x_put_28, x_get_29, x_put_29, x_get_30, x_put_30, x_get_31, x_put_31, x_get_32, x_put_32, x_get_33, x_put_33, x_get_34, x_put_34, x_get_35, x_put_35, x_get_36, x_put_36, x_get_37, x_put_37, x_get_38, x_put_38, x_get_39, x_put_39, x_get_40, x_put_40, x_get_41, x_put_41, x_get_42, x_put_42, x_get_43, x_put_43, x_get_44, x_put_44, x_invS0, x_invV0, x_invS1, x_invV1, x_invS2, x_invV2, x_invS3, x_invV3, x_invS4, x_invV4, x_invS5, x_invV5, x_invS6, x_invV6, x_invS7, x_invV7, true_and, and_true, true_or, or_true, false_or, or_false, ne_eq, not_true_eq_false, not_false_eq_true, implies_true, true_implies, false_implies, Nat.zero_le, Nat.le_refl, Nat.sub_self, Nat.sub_zero, if_true, if_false, reduceIte, Nat.reduceAdd, Nat.reduceSub, Nat.reduceLeDiff, Nat.reduceLT, Nat.reduceEqDiff, Int.reduceEq, Int.reduceNeg, Int.reduceLT, Int.reduceLE, k0, k1, k2, l1, l2, e0, x1, u1, u2, u3, m1, m2, pw_k72 hG, pw_l72 hG]
        rw [w32_id (x := (pw_cps P b i.toNat).1 + 1) (by omega) (by omega)]
        refine ⟨by omega, by omega, by omega, by omega, by omega, by omega, by omega, by omega, by omega, by omega, by omega, by omega, by omega, by omega, r90 _ _ _ hs' (by omega) (fun c c1 c2 c3 => ?_) (fun n n1 n2 => ?_) (fun n n1 n2 => ?_) (fun n n1 n2 => ?_)⟩
        · rw [ms_up_row c1, ms_up_row c3, ms_up_row c2]; exact hf c c1 c2 c3
        · by_cases hn : n = P.1 + i
          · rw [hn, ms_up_same]; exact pw_set_same.symm
          · rw [ms_up_j hn, ms_up_a (by omega), ms_up_a (by omega), hm n n1 n2]; exact (pw_set_ne hn).symm
        · rw [ms_up_a (by omega), ms_up_a (a := 72) (by omega), ms_up_a (a := a + 2) (by omega)]
          simp only at n2
          by_cases hn : n = (pw_cps P b i.toNat).1
          · rw [hn, ms_up_same, ms_up_same]; exact ⟨pw_set_same.symm, pw_set_same.symm⟩
          · rw [ms_up_j hn, ms_up_j hn, ms_up_a (by omega)]
            have := hlr1 n n1 (by omega)
            exact ⟨this.1.trans (pw_set_ne hn).symm, this.2.trans (pw_set_ne hn).symm⟩
        · rw [ms_up_a (by omega), ms_up_a (a := 72) (by omega), ms_up_a (a := a + 2) (by omega), ms_up_j (by omega), ms_up_j (by omega), ms_up_a (by omega)]
          exact hlr2 n (by omega) n2)
  have := loop1 0 (by omega) (by omega) M (3, 0) (fun _ _ _ _ => rfl) hb (fun n n1 n2 => by simp only [pw_cps, Int.toNat_zero] at n2; omega) (fun n n1 n2 => hlr n (by omega) n2)
  rw [Int.add_zero] at this
  exact this
end CCO
