/-! ===== the constructor of History ===== -/
def pw_pgs : Nat → List ms_Sh
  | 0 => []
  | k + 1 => pw_pgs k ++ [(4, 6)] ++ [(100, 64)] ++ [(100, 64)] ++ [(100, 4)]
theorem pw_pgs_len : ∀ k : Nat, (pw_pgs k).length = 4 * k
  | 0 => rfl
  | k + 1 => by
    simp only [pw_pgs, List.length_append, List.length_cons, List.length_nil, pw_pgs_len k]
    omega
theorem ms_ln_ap {Γ l : List ms_Sh} {a : Int} {c : Nat} (hc : c < 105) (h : ms_kd Γ a = c) : ms_ln (Γ ++ l) a = ms_ln Γ a := by
  obtain ⟨n, rfl, sh, h1, h2, -⟩ := ms_kd_some h hc
  have h3 : (Γ ++ l)[n]? = some sh := by
    obtain ⟨hn, -⟩ := List.getElem?_eq_some_iff.mp h1
    rw [List.getElem?_append_left hn]; exact h1
  unfold ms_ln ms_sh
  simp only [Int.toNat_natCast, h1, h3]
section INH
variable {G : ms_G} {Γ : List ms_Sh} {M : ms_M} {Q : ms_Q} {d : Nat} {a L : Int}
set_option maxRecDepth 100000
set_option maxHeartbeats 4000000
theorem c_X3_init (hL : (Γ.length : Int) = L) (a0 : 0 ≤ a) (aL : a < L) (hk : ms_kd Γ a = 3) (K : ∀ M', (∀ c, c ≠ a → c < L → M' c = M c) → (∀ j, 1 ≤ j → M' a j = M a j) → M' a 0 = L → (∀ i, 0 ≤ i → i < 12 → M' L i = L + 1 + 4 * i ∧ M' (L + 1 + 4 * i) 0 = L + 2 + 4 * i ∧ M' (L + 1 + 4 * i) 1 = L + 3 + 4 * i ∧ M' (L + 1 + 4 * i) 2 = L + 4 + 4 * i) → Q (3, 0) (Γ ++ [(104, 12)] ++ pw_pgs 12) M') : ms_Call G mX3_init (d + 2) 49 1668 [(2, a)] Γ M Q := by
  refine ms_Call.of (ls := [(2, a), (3, 0)]) (by decide +kernel) (Nat.le_of_ble_eq_true rfl) rfl (fun hM hv => ?_)
  refine ms_gq (kX3_init G Q (d + 1)) rfl ?_
  have k1 := ms_kd_ap (l := [(104, 12)]) (by omega) hk
  have n1 : ms_kd (Γ ++ [(104, 12)]) L = 104 := by rw [← hL]; exact ms_kd_new
  have m1 : ms_ln (Γ ++ [(104, 12)]) L = 12 := by rw [← hL]; exact ms_ln_new
  simp only [x_run, x_ci, x_cl, x_bin, x_dv, x_lbin, x_ldv, x_un, x_lcmp, x_lshl, x_dup0, x_dup2r, x_dup2, x_pop0, x_go, x_if1, x_if2, x_retf, x_rett, x_lret, x_vret, x_ald, x_bald, x_ast, x_bast, x_aast, x_oi, x_mx, x_acp, x_new, x_newa, x_anew, x_wt0, x_wti, x_wtl, x_wtr, x_lst4, x_lst8, x_ld0, x_st0, x_inc0, x_ld1, x_st1, x_inc1, x_ld2, x_st2, x_inc2, x_ld3, x_st3, x_inc3, x_ld4, x_st4, x_inc4, x_ld5, x_st5, x_inc5, x_ld6, x_st6, x_inc6, x_ld7, x_st7, x_inc7, x_ld8, x_st8, x_inc8, x_ld9, x_st9, x_inc9, x_ld10, x_st10, x_inc10, x_ld11, x_st11, x_inc11, x_ld12, x_st12, x_inc12, x_ld13, x_st13, x_inc13, x_get_0, x_put_0, x_get_1, x_put_1, x_get_2, x_put_2, x_get_3, x_put_3, x_get_4, x_put_4, x_get_5, x_put_5, x_get_6, x_put_6, x_get_7, x_put_7, x_get_8, x_put_8, x_get_9, x_put_9, x_get_10, x_put_10, x_get_11, x_put_11, x_get_12, x_put_12, x_get_13, x_put_13, x_get_14, x_put_14, x_get_15, x_put_15, x_get_16, x_put_16, x_get_17, x_put_17, x_get_18, x_put_18, x_get_19, x_put_19, x_get_20, x_put_20, x_get_21, x_put_21, x_get_22, x_put_22, x_get_23, x_put_23, x_get_24, x_put_24, x_get_25, x_put_25, x_get_26, x_put_26, x_get_27, x_put_27, x_get_28, x_put_28, x_get_29, x_put_29, x_get_30, x_put_30, x_get_31, x_put_31, x_get_32, x_put_32, x_get_33, x_put_33, x_get_34, x_put_34, x_get_35, x_put_35, x_get_36, x_put_36, x_get_37, x_put_37, x_get_38, x_put_38, x_get_39, x_put_39, x_get_40, x_put_40, x_get_41, x_put_41, x_get_42, x_put_42, x_get_43, x_put_43, x_get_44, x_put_44, x_invS0, x_invV0, x_invS1, x_invV1, x_invS2, x_invV2, x_invS3, x_invV3, x_invS4, x_invV4, x_invS5, x_invV5, x_invS6, x_invV6, x_invS7, x_invV7, true_and, and_true, true_or, or_true, false_or, or_false, ne_eq, not_true_eq_false, not_false_eq_true, implies_true, true_implies, false_implies, Nat.zero_le, Nat.le_refl, Nat.sub_self, Nat.sub_zero, if_true, if_false, reduceIte, Nat.reduceAdd, Nat.reduceSub, Nat.reduceLeDiff, Nat.reduceLT, Nat.reduceEqDiff, Int.reduceEq, Int.reduceNeg, Int.reduceLT, Int.reduceLE, ms_wt, Int.reduceToNat, hL, k1]
  refine ⟨a0, ?_⟩
  have loop : ∀ (r i : Nat) (M1 : ms_M), r + i = 12 → (∀ c, c ≠ a → c < L → M1 c = M c) → (∀ j, 1 ≤ j → M1 a j = M a j) → M1 a 0 = L → (∀ i' : Int, 0 ≤ i' → i' < i → M1 L i' = L + 1 + 4 * i' ∧ M1 (L + 1 + 4 * i') 0 = L + 2 + 4 * i' ∧ M1 (L + 1 + 4 * i') 1 = L + 3 + 4 * i' ∧ M1 (L + 1 + 4 * i') 2 = L + 4 + 4 * i') → ms_At G Q mX3_init (d + 1 + 1) (4 * r) (138 * r) 15 [(2, a), (0, (i : Int))] [] (Γ ++ [(104, 12)] ++ pw_pgs i) M1 := by
    intro r
    induction r with
    | zero =>
      intro i M1 hr f1 f2 e0 hF
      have hi : i = 12 := by omega
      rw [hi] at hF ⊢
      refine ms_gq (kX3_init G Q (d + 1)) rfl ?_
      simp only [x_run, x_ci, x_cl, x_bin, x_dv, x_lbin, x_ldv, x_un, x_lcmp, x_lshl, x_dup0, x_dup2r, x_dup2, x_pop0, x_go, x_if1, x_if2, x_retf, x_rett, x_lret, x_vret, x_ald, x_bald, x_ast, x_bast, x_aast, x_oi, x_mx, x_acp, x_new, x_newa, x_anew, x_wt0, x_wti, x_wtl, x_wtr, x_lst4, x_lst8, x_ld0, x_st0, x_inc0, x_ld1, x_st1, x_inc1, x_ld2, x_st2, x_inc2, x_ld3, x_st3, x_inc3, x_ld4, x_st4, x_inc4, x_ld5, x_st5, x_inc5, x_ld6, x_st6, x_inc6, x_ld7, x_st7, x_inc7, x_ld8, x_st8, x_inc8, x_ld9, x_st9, x_inc9, x_ld10, x_st10, x_inc10, x_ld11, x_st11, x_inc11, x_ld12, x_st12, x_inc12, x_ld13, x_st13, x_inc13, x_get_0, x_put_0, x_get_1, x_put_1, x_get_2, x_put_2, x_get_3, x_put_3, x_get_4, x_put_4, x_get_5, x_put_5, x_get_6, x_put_6, x_get_7, x_put_7, x_get_8, x_put_8, x_get_9, x_put_9, x_get_10, x_put_10, x_get_11, x_put_11, x_get_12, x_put_12, x_get_13, x_put_13, x_get_14, x_put_14, x_get_15, x_put_15, x_get_16, x_put_16, x_get_17, x_put_17, x_get_18, x_put_18, x_get_19, x_put_19, x_get_20, x_put_20, x_get_21, x_put_21, x_get_22, x_put_22, x_get_23, x_put_23, x_get_24, x_put_24, x_get_25, x_put_25, x_get_26, x_put_26, x_get_27, x_put_27, x_get_28, x_put_28, x_get_29, x_put_29, x_get_30, x_put_30, x_get_31, x_put_31, x_get_32, x_put_32, x_get_33, x_put_33, x_get_34, x_put_34, x_get_35, x_put_35, x_get_36, x_put_36, x_get_37, x_put_37, x_get_38, x_put_38, x_get_39, x_put_39, x_get_40, x_put_40, x_get_41, x_put_41, x_get_42, x_put_42, x_get_43, x_put_43, x_get_44, x_put_44, x_invS0, x_invV0, x_invS1, x_invV1, x_invS2, x_invV2, x_invS3, x_invV3, x_invS4, x_invV4, x_invS5, x_invV5, x_invS6, x_invV6, x_invS7, x_invV7, true_and, and_true, true_or, or_true, false_or, or_false, ne_eq, not_true_eq_false, not_false_eq_true, implies_true, true_implies, false_implies, Nat.zero_le, Nat.le_refl, Nat.sub_self, Nat.sub_zero, if_true, if_false, reduceIte, Nat.reduceAdd, Nat.reduceSub, Nat.reduceLeDiff, Nat.reduceLT, Nat.reduceEqDiff, Int.reduceEq, Int.reduceNeg, Int.reduceLT, Int.reduceLE]
      refine ⟨fun _ => ms_gq (kX3_init G Q (d + 1)) rfl ?_, fun z => absurd (by omega) z⟩
      simp only [x_run, x_ci, x_cl, x_bin, x_dv, x_lbin, x_ldv, x_un, x_lcmp, x_lshl, x_dup0, x_dup2r, x_dup2, x_pop0, x_go, x_if1, x_if2, x_retf, x_rett, x_lret, x_vret, x_ald, x_bald, x_ast, x_bast, x_aast, x_oi, x_mx, x_acp, x_new, x_newa, x_anew, x_wt0, x_wti, x_wtl, x_wtr, x_lst4, x_lst8, x_ld0, x_st0, x_inc0, x_ld1, x_st1, x_inc1, x_ld2, x_st2, x_inc2, x_ld3, x_st3, x_inc3, x_ld4, x_st4, x_inc4, x_ld5, x_st5, x_inc5, x_ld6, x_st6, x_inc6, x_ld7, x_st7, x_inc7, x_ld8, x_st8, x_inc8, x_ld9, x_st9, x_inc9, x_ld10, x_st10, x_inc10, x_ld11, x_st11, x_inc11, x_ld12, x_st12, x_inc12, x_ld13, x_st13, x_inc13, x_get_0, x_put_0, x_get_1, x_put_1, x_get_2, x_put_2, x_get_3, x_put_3, x_get_4, x_put_4, x_get_5, x_put_5, x_get_6, x_put_6, x_get_7, x_put_7, x_get_8, x_put_8, x_get_9, x_put_9, x_get_10, x_put_10, x_get_11, x_put_11, x_get_12, x_put_12, x_get_13, x_put_13, x_get_14, x_put_14, x_get_15, x_put_15, x_get_16, x_put_16, x_get_17, x_put_17, x_get_18, x_put_18, x_get_19, x_put_19, x_get_20, x_put_20, x_get_21, x_put_21, x_get_22, x_put_22, x_get_23, x_put_23, x_get_24, x_put_24, x_get_25, x_put_25, x_get_26, x_put_26, x_get_27, x_put_27, x_get_28, x_put_28, x_get_29, x_put_29, x_get_30, x_put_30, x_get_31, x_put_31, x_get_32, x_put_32, x_get_33, x_put_33, x_get_34, x_put_34, x_get_35, x_put_35, x_get_36, x_put_36, x_get_37, x_put_37, x_get_38, x_put_38, x_get_39, x_put_39, x_get_40, x_put_40, x_get_41, x_put_41, x_get_42, x_put_42, x_get_43, x_put_43, x_get_44, x_put_44, x_invS0, x_invV0, x_invS1, x_invV1, x_invS2, x_invV2, x_invS3, x_invV3, x_invS4, x_invV4, x_invS5, x_invV5, x_invS6, x_invV6, x_invS7, x_invV7, true_and, and_true, true_or, or_true, false_or, or_false, ne_eq, not_true_eq_false, not_false_eq_true, implies_true, true_implies, false_implies, Nat.zero_le, Nat.le_refl, Nat.sub_self, Nat.sub_zero, if_true, if_false, reduceIte, Nat.reduceAdd, Nat.reduceSub, Nat.reduceLeDiff, Nat.reduceLT, Nat.reduceEqDiff, Int.reduceEq, Int.reduceNeg, Int.reduceLT, Int.reduceLE]
      exact K M1 f1 f2 e0 (fun i' i0 i1 => hF i' i0 (by omega))
    | succ r ih =>
      intro i M1 hr f1 f2 e0 hF
      have hli : ((Γ ++ [(104, 12)] ++ pw_pgs i).length : Int) = L + 1 + 4 * i := by
        rw [List.length_append, List.length_append, pw_pgs_len]
        simp only [List.length_cons, List.length_nil]
        omega
      have ka := ms_kd_ap (l := pw_pgs i) (by omega) k1
      have nL := ms_kd_ap (l := pw_pgs i) (by omega) n1
      have mL : ms_ln (Γ ++ [(104, 12)] ++ pw_pgs i) L = 12 := by rw [ms_ln_ap (by omega) n1]; exact m1
      generalize hΓ : Γ ++ [(104, 12)] ++ pw_pgs i = Γ1 at *
      have p1 : ms_kd (Γ1 ++ [(4, 6)]) (L + 1 + 4 * i) = 4 := by rw [← hli]; exact ms_kd_new
      have p2 := ms_kd_ap (l := [(100, 64)]) (by omega) p1
      have p3 := ms_kd_ap (l := [(100, 64)]) (by omega) p2
      have p4 := ms_kd_ap (l := [(100, 4)]) (by omega) p3
      have q1 := ms_kd_ap (l := [(4, 6)]) (by omega) nL
      have q2 := ms_kd_ap (l := [(100, 64)]) (by omega) q1
      have q3 := ms_kd_ap (l := [(100, 64)]) (by omega) q2
      have q4 := ms_kd_ap (l := [(100, 4)]) (by omega) q3
      have lq : ms_ln (Γ1 ++ [(4, 6)] ++ [(100, 64)] ++ [(100, 64)] ++ [(100, 4)]) L = 12 := by rw [ms_ln_ap (by omega) q3, ms_ln_ap (by omega) q2, ms_ln_ap (by omega) q1, ms_ln_ap (by omega) nL]; exact mL
      have lp := ms_len1 (x := (4, 6)) hli
      refine ms_gq (kX3_init G Q (d + 1)) rfl ?_
      simp only [x_run, x_ci, x_cl, x_bin, x_dv, x_lbin, x_ldv, x_un, x_lcmp, x_lshl, x_dup0, x_dup2r, x_dup2, x_pop0, x_go, x_if1, x_if2, x_retf, x_rett, x_lret, x_vret, x_ald, x_bald, x_ast, x_bast, x_aast, x_oi, x_mx, x_acp, x_new, x_newa, x_anew, x_wt0, x_wti, x_wtl, x_wtr, x_lst4, x_lst8, x_ld0, x_st0, x_inc0, x_ld1, x_st1, x_inc1, x_ld2, x_st2, x_inc2, x_ld3, x_st3, x_inc3, x_ld4, x_st4, x_inc4, x_ld5, x_st5, x_inc5, x_ld6, x_st6, x_inc6, x_ld7, x_st7, x_inc7, x_ld8, x_st8, x_inc8, x_ld9, x_st9, x_inc9, x_ld10, x_st10, x_inc10, x_ld11, x_st11, x_inc11, x_ld12, x_st12, x_inc12, x_ld13, x_st13, x_inc13, x_get_0, x_put_0, x_get_1, x_put_1, x_get_2, x_put_2, x_get_3, x_put_3, x_get_4, x_put_4, x_get_5, x_put_5, x_get_6, x_put_6, x_get_7, x_put_7, x_get_8, x_put_8, x_get_9, x_put_9, x_get_10, x_put_10, x_get_11, x_put_11, x_get_12, x_put_12, x_get_13, x_put_13, x_get_14, x_put_14, x_get_15, x_put_15, x_get_16, x_put_16, x_get_17, x_put_17, x_get_18, x_put_18, x_get_19, x_put_19, x_get_20, x_put_20, x_get_21, x_put_21, x_get_22, x_put_22, x_get_23, x_put_23, x_get_24, x_put_24, x_get_25, x_put_25, x_get_26, x_put_26, x_get_27, x_put_27, x_get_28, x_put_28, x_get_29, x_put_29, x_get_30, x_put_30, x_get_31, x_put_31, x_get_32, x_put_32, x_get_33, x_put_33, x_get_34, x_put_34, x_get_35, x_put_35, x_get_36, x_put_36, x_get_37, x_put_37, x_get_38, x_put_38, x_get_39, x_put_39, x_get_40, x_put_40, x_get_41, x_put_41, x_get_42, x_put_42, x_get_43, x_put_43, x_get_44, x_put_44, x_invS0, x_invV0, x_invS1, x_invV1, x_invS2, x_invV2, x_invS3, x_invV3, x_invS4, x_invV4, x_invS5, x_invV5, x_invS6, x_invV6, x_invS7, x_invV7, true_and, and_true, true_or, or_true, false_or, or_false, ne_eq, not_true_eq_false, not_false_eq_true, implies_true, true_implies, false_implies, Nat.zero_le, Nat.le_refl, Nat.sub_self, Nat.sub_zero, if_true, if_false, reduceIte, Nat.reduceAdd, Nat.reduceSub, Nat.reduceLeDiff, Nat.reduceLT, Nat.reduceEqDiff, Int.reduceEq, Int.reduceNeg, Int.reduceLT, Int.reduceLE, ms_wt, ka, e0, hli, p1]
      refine ⟨fun z => absurd z (by omega), fun _ => ⟨by omega, by omega, by omega, by omega, ?_⟩⟩
      refine c_X4_init lp (by omega) (by omega) p1 (fun M2 g1 g2 g3 g4 g5 => ?_)
      simp only [x_run, x_ci, x_cl, x_bin, x_dv, x_lbin, x_ldv, x_un, x_lcmp, x_lshl, x_dup0, x_dup2r, x_dup2, x_pop0, x_go, x_if1, x_if2, x_retf, x_rett, x_lret, x_vret, x_ald, x_bald, x_ast, x_bast, x_aast, x_oi, x_mx, x_acp, x_new, x_newa, x_anew, x_wt0, x_wti, x_wtl, x_wtr, x_lst4, x_lst8, x_ld0, x_st0, x_inc0, x_ld1, x_st1, x_inc1, x_ld2, x_st2, x_inc2, x_ld3, x_st3, x_inc3, x_ld4, x_st4, x_inc4, x_ld5, x_st5, x_inc5, x_ld6, x_st6, x_inc6, x_ld7, x_st7, x_inc7, x_ld8, x_st8, x_inc8, x_ld9, x_st9, x_inc9, x_ld10, x_st10, x_inc10, x_ld11, x_st11, x_inc11, x_ld12, x_st12, x_inc12, x_ld13, x_st13, x_inc13, x_get_0, x_put_0, x_get_1, x_put_1, x_get_2, x_put_2, x_get_3, x_put_3, x_get_4, x_put_4, x_get_5, x_put_5, x_get_6, x_put_6, x_get_7, x_put_7, x_get_8, x_put_8, x_get_9, x_put_9, x_get_10, x_put_10, x_get_11, x_put_11, x_get_12, x_put_12, x_get_13, x_put_13, x_get_14, x_put_14, x_get_15, x_put_15, x_get_16, x_put_16, x_get_17, x_put_17, x_get_18, x_put_18, x_get_19, x_put_19, x_get_20, x_put_20, x_get_21, x_put_21, x_get_22, x_put_22, x_get_23, x_put_23, x_get_24, x_put_24, x_get_25, x_put_25, x_get_26, x_put_26, x_get_27, x_put_27, x_get_28, x_put_28, x_get_29, x_put_29, x_get_30, x_put_30, x_get_31, x_put_31, x_get_32, x_put_32, x_get_33, x_put_33, x_get_34, x_put_34, x_get_35, x_put_35, x_get_36, x_put_36, x_get_37, x_put_37, x_get_38, x_put_38, x_get_39, x_put_39, x_get_40, x_put_40, x_get_41, x_put_41, x_get_42, x_put_42, x_get_43, x_put_43, x_get_44, x_put_44, x_invS0, x_invV0, x_invS1, x_invV1, x_invS2, x_invV2, x_invS3, x_invV3, x_invS4, x_invV4, x_invS5, x_invV5, x_invS6, x_invV6, x_invS7, x_invV7, true_and, and_true, true_or, or_true, false_or, or_false, ne_eq, not_true_eq_false, not_false_eq_true, implies_true, true_implies, false_implies, Nat.zero_le, Nat.le_refl, Nat.sub_self, Nat.sub_zero, if_true, if_false, reduceIte, Nat.reduceAdd, Nat.reduceSub, Nat.reduceLeDiff, Nat.reduceLT, Nat.reduceEqDiff, Int.reduceEq, Int.reduceNeg, Int.reduceLT, Int.reduceLE, p4, q4, lq]
      refine ⟨by omega, by omega, ?_⟩
      rw [w32_id (by omega) (by omega)]
      have hΓ2 : Γ1 ++ [(4, 6)] ++ [(100, 64)] ++ [(100, 64)] ++ [(100, 4)] = Γ ++ [(104, 12)] ++ pw_pgs (i + 1) := by
        rw [← hΓ]
        simp only [pw_pgs, List.append_assoc]
      rw [hΓ2, show 4 * (r + 1) - 1 - 3 = 4 * r by omega, show 138 * (r + 1) - 6 - 132 = 138 * r by omega, show (i : Int) + 1 = ((i + 1 : Nat) : Int) by omega]
      refine ih (i + 1) _ (by omega) (fun c hc hcL => ?_) (fun j hj => ?_) ?_ (fun i' i0 i1 => ?_)
      · rw [ms_up_row (by omega), g1 c (by omega) (by omega), ms_nw_rne (by omega)]; exact f1 c hc hcL
      · rw [ms_up_row (by omega), g1 a (by omega) (by omega), ms_nw_ne (by omega)]; exact f2 j hj
      · rw [ms_up_row (by omega), g1 a (by omega) (by omega), ms_nw_ne (by omega)]; exact e0
      · by_cases hi : i' = i
        · rw [hi, ms_up_same, ms_up_row (by omega), g3, g4, g5]
          refine ⟨rfl, by omega, by omega, by omega⟩
        · rw [ms_up_j hi, ms_up_row (by omega), g1 L (by omega) (by omega), g1 (L + 1 + 4 * i') (by omega) (by omega), ms_nw_ne (by omega), ms_nw_ne (by omega), ms_nw_ne (by omega), ms_nw_ne (by omega)]
          exact hF i' i0 (by omega)
  have := loop 12 0 (ms_up (ms_nw M L (fun _ => -1)) a 0 L) (by omega) (fun c hc hcL => by rw [ms_up_row hc, ms_nw_rne (by omega)]) (fun j hj => by rw [ms_up_j (by omega), ms_nw_ne (by omega)]) ms_up_same (fun i' i0 i1 => by omega)
  rw [show Γ ++ [(104, 12)] ++ pw_pgs 0 = Γ ++ [(104, 12)] from List.append_nil _] at this
  exact this
end INH
