/-! ===== constructors ===== -/
theorem ms_kd_ap {Γ l : List ms_Sh} {a : Int} {c : Nat} (hc : c < 105) (h : ms_kd Γ a = c) : ms_kd (Γ ++ l) a = c := by
  obtain ⟨n, rfl, sh, h1, h2, -⟩ := ms_kd_some h hc
  have h3 : (Γ ++ l)[n]? = some sh := by
    obtain ⟨hn, -⟩ := List.getElem?_eq_some_iff.mp h1
    rw [List.getElem?_append_left hn]; exact h1
  have e : ms_sh (Γ ++ l) (n : Int) = ms_sh Γ (n : Int) := by
    unfold ms_sh
    simp only [Int.toNat_natCast, h1, h3]
  unfold ms_kd at h ⊢
  rw [e]; exact h
theorem ms_len1 {Γ : List ms_Sh} {x : ms_Sh} {L : Int} (h : (Γ.length : Int) = L) : ((Γ ++ [x]).length : Int) = L + 1 := by
  rw [List.length_append]; simp; exact h
section INI
variable {G : ms_G} {Γ : List ms_Sh} {M : ms_M} {Q : ms_Q} {d : Nat} {a L : Int}
set_option maxRecDepth 100000
set_option maxHeartbeats 4000000
theorem c_X9_init (a0 : 0 ≤ a) (K : Q (3, 0) Γ M) : ms_Call G mX9_init (d + 1) 0 0 [(2, a)] Γ M Q := by
  refine ms_Call.of (ls := [(2, a)]) (by decide +kernel) (Nat.le_of_ble_eq_true rfl) rfl (fun hM hv => ?_)
  refine ms_gq (kX9_init G Q d) rfl ?_
  simp only [x_run, x_ci, x_cl, x_bin, x_dv, x_lbin, x_ldv, x_un, x_lcmp, x_lshl, x_dup0, x_dup2r, x_dup2, x_pop0, x_go, x_if1, x_if2, x_retf, x_rett, x_lret, x_vret, x_ald, x_bald, x_ast, x_bast, x_aast, x_oi, x_mx, x_acp, x_new, x_newa, x_anew, x_wt0, x_wti, x_wtl, x_wtr, x_lst4, x_lst8, x_ld0, x_st0, x_inc0, x_ld1, x_st1, x_inc1, x_ld2, x_st2, x_inc2, x_ld3, x_st3, x_inc3, x_ld4, x_st4, x_inc4, x_ld5, x_st5, x_inc5, x_ld6, x_st6, x_inc6, x_ld7, x_st7, x_inc7, x_ld8, x_st8, x_inc8, x_ld9, x_st9, x_inc9, x_ld10, x_st10, x_inc10, x_ld11, x_st11, x_inc11, x_ld12, x_st12, x_inc12, x_ld13, x_st13, x_inc13, x_get_0, x_put_0, x_get_1, x_put_1, x_get_2, x_put_2, x_get_3, x_put_3, x_get_4, x_put_4, x_get_5, x_put_5, x_get_6, x_put_6, x_get_7, x_put_7, x_get_8, x_put_8, x_get_9, x_put_9, x_get_10, x_put_10, x_get_11, x_put_11, x_get_12, x_put_12, x_get_13, x_put_13, x_get_14, x_put_14, x_get_15, x_put_15, x_get_16, x_put_16, x_get_17, x_put_17, x_get_18, x_put_18, x_get_19, x_put_19, x_get_20, x_put_20, x_get_21, x_put_21, x_get_22, x_put_22, x_get_23, x_put_23, x_get_24, x_put_24, x_get_25, x_put_25, x_get_26, x_put_26, x_get_27, x_put_27, x_get_28, x_put_28, x_get_29, x_put_29, x_get_30, x_put_30, x_get_31, x_put_31, x_get_32, x_put_32, x_get_33, x_put_33, x_get_34, x_put_34, x_get_35, x_put_35, x_get_36, x_put_36, x_get_37, x_put_37, x_get_38, x_put_38, x_get_39, x_put_39, x_get_40, x_put_40, x_get_41, x_put_41, x_get_42, x_put_42, x_get_43, x_put_43, x_get_44, x_put_44, x_invS0, x_invV0, x_invS1, x_invV1, x_invS2, x_invV2, x_invS3, x_invV3, x_invS4, x_invV4, x_invS5, x_invV5, x_invS6, x_invV6, x_invS7, x_invV7, true_and, and_true, true_or, or_true, false_or, or_false, ne_eq, not_true_eq_false, not_false_eq_true, implies_true, true_implies, false_implies, Nat.zero_le, Nat.le_refl, Nat.sub_self, Nat.sub_zero, if_true, if_false, reduceIte, Nat.reduceAdd, Nat.reduceSub, Nat.reduceLeDiff, Nat.reduceLT, Nat.reduceEqDiff, Int.reduceEq, Int.reduceNeg, Int.reduceLT, Int.reduceLE, ms_wt]
  exact ⟨a0, K⟩
theorem c_X2_init (hL : (Γ.length : Int) = L) (a0 : 0 ≤ a) (aL : a < L) (hk : ms_kd Γ a = 2) (K : ∀ M', (∀ c, c ≠ a → c < L → M' c = M c) → M' a 0 = L → Q (3, 0) (Γ ++ [(101, 256)]) M') : ms_Call G mX2_init (d + 1) 1 256 [(2, a)] Γ M Q := by
  refine ms_Call.of (ls := [(2, a)]) (by decide +kernel) (Nat.le_of_ble_eq_true rfl) rfl (fun hM hv => ?_)
  refine ms_gq (kX2_init G Q d) rfl ?_
  have k1 := ms_kd_ap (l := [(101, 256)]) (by omega) hk
  simp only [x_run, x_ci, x_cl, x_bin, x_dv, x_lbin, x_ldv, x_un, x_lcmp, x_lshl, x_dup0, x_dup2r, x_dup2, x_pop0, x_go, x_if1, x_if2, x_retf, x_rett, x_lret, x_vret, x_ald, x_bald, x_ast, x_bast, x_aast, x_oi, x_mx, x_acp, x_new, x_newa, x_anew, x_wt0, x_wti, x_wtl, x_wtr, x_lst4, x_lst8, x_ld0, x_st0, x_inc0, x_ld1, x_st1, x_inc1, x_ld2, x_st2, x_inc2, x_ld3, x_st3, x_inc3, x_ld4, x_st4, x_inc4, x_ld5, x_st5, x_inc5, x_ld6, x_st6, x_inc6, x_ld7, x_st7, x_inc7, x_ld8, x_st8, x_inc8, x_ld9, x_st9, x_inc9, x_ld10, x_st10, x_inc10, x_ld11, x_st11, x_inc11, x_ld12, x_st12, x_inc12, x_ld13, x_st13, x_inc13, x_get_0, x_put_0, x_get_1, x_put_1, x_get_2, x_put_2, x_get_3, x_put_3, x_get_4, x_put_4, x_get_5, x_put_5, x_get_6, x_put_6, x_get_7, x_put_7, x_get_8, x_put_8, x_get_9, x_put_9, x_get_10, x_put_10, x_get_11, x_put_11, x_get_12, x_put_12, x_get_13, x_put_13, x_get_14, x_put_14, x_get_15, x_put_15, x_get_16, x_put_16, x_get_17, x_put_17, x_get_18, x_put_18, x_get_19, x_put_19, x_get_20, x_put_20, x_get_21, x_put_21, x_get_22, x_put_22, x_get_23, x_put_23, x_get_24, x_put_24, x_get_25, x_put_25, x_get_26, x_put_26, x_get_27, x_put_27, x_get_28, x_put_28, x_get_29, x_put_29, x_get_30, x_put_30, x_get_31, x_put_31, x_get_32, x_put_32, x_get_33, x_put_33, x_get_34, x_put_34, x_get_35, x_put_35, x_get_36, x_put_36, x_get_37, x_put_37, x_get_38, x_put_38, x_get_39, x_put_39, x_get_40, x_put_40, x_get_41, x_put_41, x_get_42, x_put_42, x_get_43, x_put_43, x_get_44, x_put_44, x_invS0, x_invV0, x_invS1, x_invV1, x_invS2, x_invV2, x_invS3, x_invV3, x_invS4, x_invV4, x_invS5, x_invV5, x_invS6, x_invV6, x_invS7, x_invV7, true_and, and_true, true_or, or_true, false_or, or_false, ne_eq, not_true_eq_false, not_false_eq_true, implies_true, true_implies, false_implies, Nat.zero_le, Nat.le_refl, Nat.sub_self, Nat.sub_zero, if_true, if_false, reduceIte, Nat.reduceAdd, Nat.reduceSub, Nat.reduceLeDiff, Nat.reduceLT, Nat.reduceEqDiff, Int.reduceEq, Int.reduceNeg, Int.reduceLT, Int.reduceLE, ms_wt, hL, Int.reduceToNat, k1]
  refine ⟨a0, K _ (fun c hc hcL => ?_) ?_⟩
  · rw [ms_up_row hc, ms_nw_rne (by omega)]
  · rw [ms_up_same]
theorem c_X4_init (hL : (Γ.length : Int) = L) (a0 : 0 ≤ a) (aL : a < L) (hk : ms_kd Γ a = 4) (K : ∀ M', (∀ c, c ≠ a → c < L → M' c = M c) → (∀ j, 3 ≤ j → M' a j = M a j) → M' a 0 = L → M' a 1 = L + 1 → M' a 2 = L + 2 → Q (3, 0) (Γ ++ [(100, 64)] ++ [(100, 64)] ++ [(100, 4)]) M') : ms_Call G mX4_init (d + 1) 3 132 [(2, a)] Γ M Q := by
  refine ms_Call.of (ls := [(2, a)]) (by decide +kernel) (Nat.le_of_ble_eq_true rfl) rfl (fun hM hv => ?_)
  refine ms_gq (kX4_init G Q d) rfl ?_
  have k1 := ms_kd_ap (l := [(100, 64)]) (by omega) hk
  have k2 := ms_kd_ap (l := [(100, 64)]) (by omega) k1
  have k3 := ms_kd_ap (l := [(100, 4)]) (by omega) k2
  have l1 := ms_len1 (x := (100, 64)) hL
  have l2 := ms_len1 (x := (100, 64)) l1
  simp only [x_run, x_ci, x_cl, x_bin, x_dv, x_lbin, x_ldv, x_un, x_lcmp, x_lshl, x_dup0, x_dup2r, x_dup2, x_pop0, x_go, x_if1, x_if2, x_retf, x_rett, x_lret, x_vret, x_ald, x_bald, x_ast, x_bast, x_aast, x_oi, x_mx, x_acp, x_new, x_newa, x_anew, x_wt0, x_wti, x_wtl, x_wtr, x_lst4, x_lst8, x_ld0, x_st0, x_inc0, x_ld1, x_st1, x_inc1, x_ld2, x_st2, x_inc2, x_ld3, x_st3, x_inc3, x_ld4, x_st4, x_inc4, x_ld5, x_st5, x_inc5, x_ld6, x_st6, x_inc6, x_ld7, x_st7, x_inc7, x_ld8, x_st8, x_inc8, x_ld9, x_st9, x_inc9, x_ld10, x_st10, x_inc10, x_ld11, x_st11, x_inc11, x_ld12, x_st12, x_inc12, x_ld13, x_st13, x_inc13, x_get_0, x_put_0, x_get_1, x_put_1, x_get_2, x_put_2, x_get_3, x_put_3, x_get_4, x_put_4, x_get_5, x_put_5, x_get_6, x_put_6, x_get_7, x_put_7, x_get_8, x_put_8, x_get_9, x_put_9, x_get_10, x_put_10, x_get_11, x_put_11, x_get_12, x_put_12, x_get_13, x_put_13, x_get_14, x_put_14, x_get_15, x_put_15, x_get_16, x_put_16, x_get_17, x_put_17, x_get_18, x_put_18, x_get_19, x_put_19, x_get_20, x_put_20, x_get_21, x_put_21, x_get_22, x_put_22, x_get_23, x_put_23, x_get_24, x_put_24, x_get_25, x_put_25, x_get_26, x_put_26, x_get_27, x_put_27, x_get_28, x_put_28, x_get_29, x_put_29, x_get_30, x_put_30, x_get_31, x_put_31, x_get_32, x_put_32, x_get_33, x_put_33, x_get_34, x_put_34, x_get_35, x_put_35, x_get_36, x_put_36, x_get_37, x_put_37, x_get_38, x_put_38, x_get_39, x_put_39, x_get_40, x_put_40, x_get_41, x_put_41, x_get_42, x_put_42, x_get_43, x_put_43, x_get_44, x_put_44, x_invS0, x_invV0, x_invS1, x_invV1, x_invS2, x_invV2, x_invS3, x_invV3, x_invS4, x_invV4, x_invS5, x_invV5, x_invS6, x_invV6, x_invS7, x_invV7, true_and, and_true, true_or, or_true, false_or, or_false, ne_eq, not_true_eq_false, not_false_eq_true, implies_true, true_implies, false_implies, Nat.zero_le, Nat.le_refl, Nat.sub_self, Nat.sub_zero, if_true, if_false, reduceIte, Nat.reduceAdd, Nat.reduceSub, Nat.reduceLeDiff, Nat.reduceLT, Nat.reduceEqDiff, Int.reduceEq, Int.reduceNeg, Int.reduceLT, Int.reduceLE, ms_wt, Int.reduceToNat, k1, k2, k3, hL, l1, l2]
  refine ⟨a0, K _ (fun c hc hcL => ?_) (fun j hj => ?_) ?_ ?_ ?_⟩
  · rw [ms_up_row hc, ms_nw_rne (by omega), ms_up_row hc, ms_nw_rne (by omega), ms_up_row hc, ms_nw_rne (by omega)]
  · rw [ms_up_j (by omega), ms_nw_ne (by omega), ms_up_j (by omega), ms_nw_ne (by omega), ms_up_j (by omega), ms_nw_ne (by omega)]
  · rw [ms_up_j (by omega), ms_nw_ne (by omega), ms_up_j (by omega), ms_nw_ne (by omega), ms_up_same]
  · rw [ms_up_j (by omega), ms_nw_ne (by omega), ms_up_same]
  · rw [ms_up_same]; omega
end INI
