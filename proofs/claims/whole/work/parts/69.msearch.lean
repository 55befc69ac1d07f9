/-! ===== the model's search, two; one answer for both ===== -/
theorem gs_self {M : ms_M} : ms_gs M (M 103 39) (M 103 40) (M 128) = M := by
  unfold ms_gs
  rw [ms_nw_self]
  funext a j
  unfold ms_up
  split
  · rename_i h; rw [h.1, h.2]
  · split
    · rename_i h; rw [h.1, h.2]
    · rfl
theorem gs_u44 {M : ms_M} {v fm x y : Int} {r : Int → Int} : ms_up (ms_gs (ms_up M 103 44 x) v fm r) 103 44 y = ms_gs (ms_up M 103 44 y) v fm r := by
  funext a j
  unfold ms_gs ms_up ms_nw
  by_cases h1 : a = 103
  · by_cases h2 : j = 44
    · subst h1; subst h2; simp
    · simp [h1, h2]
  · simp [h1]
def pw_asr (S : pw_S) (n b : Int) : pw_S × Int := pw_asearch S (fun _ => 0) n b
theorem pw_asr_eq {S : pw_S} {r : Int → Int} {n b : Int} : (pw_asr S n b).2 = (pw_asearch S r n b).2 := by
  have h := pw_sk_cg (S := n) (B := b) (r := fun _ => 0) (r' := r)
  unfold pw_asr pw_asearch
  split
  · simp only
    rw [h.1, h.2.2.1]
  · rfl
theorem pw_asr_RC {M : ms_M} {S : pw_S} {r : Int → Int} {n b : Int} (hR : pw_RC M (pw_asearch S r n b).1) : pw_RC M (pw_asr S n b).1 := by
  have h := pw_sk_cg (S := n) (B := b) (r := fun _ => 0) (r' := r)
  unfold pw_asr
  unfold pw_asearch at hR ⊢
  split
  · rename_i hc
    rw [if_pos hc] at hR
    obtain ⟨r1, r2, r3, r4, r5, r6, r7, r8, r9⟩ := hR
    refine ⟨r1, r2, r3, r4, r5, r6, ?_, ?_, fun j j0 j1 => ?_⟩
    · rw [r7]; exact h.2.1.symm
    · rw [r8]
      show (if (pw_sk n b r).1 = 1 then (pw_sk n b r).2.2.2 else -1) = (if (pw_sk n b (fun _ => 0)).1 = 1 then (pw_sk n b (fun _ => 0)).2.2.2 else -1)
      rw [h.1, h.2.2.1]
    · have j1' : j ≤ (if (pw_sk n b (fun _ => 0)).1 = 1 then (pw_sk n b (fun _ => 0)).2.2.2 else -1) := j1
      by_cases h1 : (pw_sk n b (fun _ => 0)).1 = 1
      · rw [if_pos h1] at j1'
        rw [r9 j j0 (by show j ≤ (if (pw_sk n b r).1 = 1 then (pw_sk n b r).2.2.2 else -1); rw [← h.1, if_pos h1, ← h.2.2.1]; exact j1')]
        exact (h.2.2.2 h1 j j0 j1').symm
      · rw [if_neg h1] at j1'
        omega
  · rename_i hc
    rw [if_neg hc] at hR
    exact hR
theorem pw_asr_RM {M : ms_M} {S : pw_S} {r : Int → Int} {n b : Int} (hR : pw_RM M (pw_asearch S r n b).1) : pw_RM M (pw_asr S n b).1 := by
  have h := pw_sk_cg (S := n) (B := b) (r := fun _ => 0) (r' := r)
  unfold pw_asr
  unfold pw_asearch at hR ⊢
  split
  · rename_i hc
    rw [if_pos hc] at hR
    obtain ⟨r1, r2, r3, r4, r5, r6, r7, r8, r9, r10⟩ := hR
    refine ⟨r1, r2, r3, r4, r5, r6, r7, ?_, ?_, fun j j0 j1 => ?_⟩
    · rw [r8]; exact h.2.1.symm
    · rw [r9]
      show (if (pw_sk n b r).1 = 1 then (pw_sk n b r).2.2.2 else -1) + 1 = (if (pw_sk n b (fun _ => 0)).1 = 1 then (pw_sk n b (fun _ => 0)).2.2.2 else -1) + 1
      rw [h.1, h.2.2.1]
    · have j1' : j ≤ (if (pw_sk n b (fun _ => 0)).1 = 1 then (pw_sk n b (fun _ => 0)).2.2.2 else -1) := j1
      by_cases h1 : (pw_sk n b (fun _ => 0)).1 = 1
      · rw [if_pos h1] at j1'
        rw [r10 j j0 (by show j ≤ (if (pw_sk n b r).1 = 1 then (pw_sk n b r).2.2.2 else -1); rw [← h.1, if_pos h1, ← h.2.2.1]; exact j1')]
        exact (h.2.2.2 h1 j j0 j1').symm
      · rw [if_neg h1] at j1'
        omega
  · rename_i hc
    rw [if_neg hc] at hR
    exact hR
theorem pw_low_in {n : Int} (h1 : 1 ≤ n) (h2 : n ≤ 2047) : 0 ≤ pw_low n 1 ∧ pw_low n 1 ≤ 20 := by
  have hb := pw_hb_in h1 (show n ≤ 9999 by omega)
  have hp := pw_pc_1 h1 (show n ≤ 9999 by omega)
  have hb10 : pw_hb n ≤ 10 := by
    rcases pw_hb_cases h1 (show n ≤ 9999 by omega) with ⟨u, v, w⟩ | ⟨u, v, w⟩ | ⟨u, v, w⟩ | ⟨u, v, w⟩ | ⟨u, v, w⟩ | ⟨u, v, w⟩ | ⟨u, v, w⟩ | ⟨u, v, w⟩ | ⟨u, v, w⟩ | ⟨u, v, w⟩ | ⟨u, v, w⟩ | ⟨u, v, w⟩ | ⟨u, v, w⟩ | ⟨u, v, w⟩ <;> omega
  unfold pw_low
  rw [if_neg (by omega), if_pos rfl]
  split
  · omega
  · split <;> omega
/-- found no later than at 20 -/
theorem pw_vl_fk {S k last : Int} {rec : Int → (Int → Int) → pw_Vr} {L : Int} (hrec : ∀ v r, (rec v r).1 = 1 → 0 ≤ (rec v r).2.2.2 ∧ (rec v r).2.2.2 ≤ L) : ∀ (m : Nat) (v : Int) (r : Int → Int), (pw_vl S k last rec m v r).1 = 1 → 0 ≤ (pw_vl S k last rec m v r).2.2.2 ∧ (pw_vl S k last rec m v r).2.2.2 ≤ L
  | 0, v, r, h => by simp [pw_vl] at h
  | m + 1, v, r, h => by
    unfold pw_vl at h ⊢
    by_cases h1 : S < last + r (m : Int)
    · rw [if_pos h1] at h ⊢
      exact pw_vl_fk hrec m v r h
    · rw [if_neg h1] at h ⊢
      by_cases h2 : (rec v (fun j => if j = k + 1 then last + r (m : Int) else r j)).1 = 0
      · rw [if_pos h2] at h ⊢
        exact pw_vl_fk hrec m _ _ h
      · rw [if_neg h2] at h ⊢
        exact hrec _ _ h
theorem pw_vs_fk {S B : Int} : ∀ (f : Nat) (k v : Int) (r : Int → Int), 0 ≤ k → (pw_vs S B f k v r).1 = 1 → 0 ≤ (pw_vs S B f k v r).2.2.2 ∧ (pw_vs S B f k v r).2.2.2 ≤ k + f
  | 0, k, v, r, k0, h => by
    unfold pw_vs at h ⊢
    by_cases h1 : B ≤ v
    · rw [if_pos h1] at h; simp at h
    · rw [if_neg h1] at h ⊢
      by_cases h2 : r k = S
      · rw [if_pos h2]; simp only; omega
      · rw [if_neg h2] at h; simp at h
  | f + 1, k, v, r, k0, h => by
    unfold pw_vs at h ⊢
    by_cases h1 : B ≤ v
    · rw [if_pos h1] at h; simp at h
    · rw [if_neg h1] at h ⊢
      by_cases h2 : r k = S
      · rw [if_pos h2]; simp only; omega
      · rw [if_neg h2] at h ⊢
        by_cases h3 : r k * 2 ^ (f + 1) < S
        · rw [if_pos h3] at h; simp at h
        · rw [if_neg h3] at h ⊢
          exact pw_vl_fk (L := k + ((f + 1 : Nat) : Int)) (fun v r hq => by
            have := pw_vs_fk f (k + 1) v r (by omega) hq
            omega) _ _ _ h
theorem pw_sl_fk {S B : Int} : ∀ (m len : Nat) (v : Int) (r : Int → Int), (pw_sl S B m len v r).1 = 1 → 0 ≤ (pw_sl S B m len v r).2.2.2 ∧ (pw_sl S B m len v r).2.2.2 < len + m
  | 0, len, v, r, h => by simp [pw_sl] at h
  | m + 1, len, v, r, h => by
    unfold pw_sl at h ⊢
    by_cases h1 : (pw_vs S B len 0 v r).1 = 0
    · rw [if_pos h1] at h ⊢
      have := pw_sl_fk m (len + 1) _ _ h
      omega
    · rw [if_neg h1] at h ⊢
      have := pw_vs_fk len 0 v r (Int.le_refl _) h
      omega
theorem pw_asr_ok {S : pw_S} {n b : Int} (hO : pw_SO S) : pw_SO (pw_asr S n b).1 := by
  unfold pw_asr pw_asearch
  split
  · rename_i hc
    obtain ⟨h1, h2, h3, h4, h5, h6, h7, h8⟩ := hO
    have hl := pw_low_in hc.1 hc.2.1
    have : -1 ≤ (if (pw_sk n b (fun _ => 0)).1 = 1 then (pw_sk n b (fun _ => 0)).2.2.2 else -1) ∧ (if (pw_sk n b (fun _ => 0)).1 = 1 then (pw_sk n b (fun _ => 0)).2.2.2 else -1) ≤ 20 := by
      by_cases h1 : (pw_sk n b (fun _ => 0)).1 = 1
      · have := pw_sl_fk _ _ _ _ h1
        rw [if_pos h1]
        unfold pw_sk
        omega
      · rw [if_neg h1]; omega
    exact ⟨h1, h2, h3, h4, h5, h6, h7, this⟩
  · exact hO
section CMT
variable {G : ms_G} {Γ : List ms_Sh} {M : ms_M} {Q : ms_Q} {d : Nat} {S : pw_S}
set_option maxRecDepth 100000
set_option maxHeartbeats 4000000
theorem m_search {n b : Int} (hG : pw_G Γ) (hR : pw_RM M S) (K : ∀ M', pw_RM M' (pw_asr S n b).1 → pw_lo M M' → Q (0, (pw_asr S n b).2) Γ M') : ms_Call G mX12_search (d + 25) 0 0 [(2, 103), (0, n), (0, b)] Γ M Q := by
  have hR0 := pw_RM_th (x := 0) hR
  have hl0 : pw_lo M (ms_up M 103 0 0) := pw_lo_up (by omega) (by omega)
  refine ms_Call.of (ls := [(2, 103), (0, n), (0, b), (3, 0)]) (by decide +kernel) (Nat.le_of_ble_eq_true rfl) rfl (fun hM hv => ?_)
  refine ms_gq (kX12_search G Q (d + 24)) rfl ?_
  simp only [x_run, x_ci, x_cl, x_bin, x_dv, x_lbin, x_ldv, x_un, x_lcmp, x_lshl, x_dup0, x_dup2r, x_dup2, x_pop0, x_go, x_if1, x_if2, x_retf, x_rett, x_lret, x_vret, x_ald, x_bald, x_ast, x_bast, x_aast, x_oi, x_mx, x_acp, x_new, x_newa, x_anew, x_wt0, x_wti, x_wtl, x_wtr, x_lst4, x_lst8, x_ld0, x_st0, x_inc0, x_ld1, x_st1, x_inc1, x_ld2, x_st2, x_inc2, x_ld3, x_st3, x_inc3, x_ld4, x_st4, x_inc4, x_ld5, x_st5, x_inc5, x_ld6, x_st6, x_inc6, x_ld7, x_st7, x_inc7, x_ld8, x_st8, x_inc8, x_ld9, x_st9, x_inc9, x_ld10, x_st10, x_inc10, x_ld11, x_st11, x_inc11, x_ld12, x_st12, x_inc12, x_ld13, x_st13, x_inc13, x_get_0, x_put_0, x_get_1, x_put_1, x_get_2, x_put_2, x_get_3, x_put_3, x_get_4, x_put_4, x_get_5, x_put_5, x_get_6, x_put_6, x_get_7, x_put_7, x_get_8, x_put_8, x_get_9, x_put_9, x_get_10, x_put_10, x_get_11, x_put_11, x_get_12, x_put_12, x_get_13, x_put_13, x_get_14, x_put_14, x_get_15, x_put_15, x_get_16, x_put_16, x_get_17, x_put_17, x_get_18, x_put_18, x_get_19, x_put_19, x_get_20, x_put_20, x_get_21, x_put_21, x_get_22, x_put_22, x_get_23, x_put_23, x_get_24, x_put_24, x_get_25, x_put_25, x_get_26, x_put_26, x_get_27, x_put_27, x_get_28, x_put_28, x_get_29, x_put_29, x_get_30, x_put_30, x_get_31, x_put_31, x_get_32, x_put_32, x_get_33, x_put_33, x_get_34, x_put_34, x_get_35, x_put_35, x_get_36, x_put_36, x_get_37, x_put_37, x_get_38, x_put_38, x_get_39, x_put_39, x_get_40, x_put_40, x_get_41, x_put_41, x_get_42, x_put_42, x_get_43, x_put_43, x_get_44, x_put_44, x_invS0, x_invV0, x_invS1, x_invV1, x_invS2, x_invV2, x_invS3, x_invV3, x_invS4, x_invV4, x_invS5, x_invV5, x_invS6, x_invV6, x_invS7, x_invV7, true_and, and_true, true_or, or_true, false_or, or_false, ne_eq, not_true_eq_false, not_false_eq_true, implies_true, true_implies, false_implies, Nat.zero_le, Nat.le_refl, Nat.sub_self, Nat.sub_zero, if_true, if_false, reduceIte, Nat.reduceAdd, Nat.reduceSub, Nat.reduceLeDiff, Nat.reduceLT, Nat.reduceEqDiff, Int.reduceEq, Int.reduceNeg, Int.reduceLT, Int.reduceLE, pw_k103 hG]
  generalize ms_up M 103 0 0 = M0 at *
  have r29 : ¬ (1 ≤ n ∧ n ≤ 2047 ∧ 1 ≤ b ∧ b ≤ 100000) → ms_At G Q mX12_search (d + 24 + 1) 0 0 29 [(2, 103), (0, n), (0, b), (3, 0)] [] Γ M0 := by
    intro h
    unfold pw_asr pw_asearch at K
    rw [if_neg h] at K
    refine ms_gq (kX12_search G Q (d + 24)) rfl ?_
    simp only [x_run, x_ci, x_cl, x_bin, x_dv, x_lbin, x_ldv, x_un, x_lcmp, x_lshl, x_dup0, x_dup2r, x_dup2, x_pop0, x_go, x_if1, x_if2, x_retf, x_rett, x_lret, x_vret, x_ald, x_bald, x_ast, x_bast, x_aast, x_oi, x_mx, x_acp, x_new, x_newa, x_anew, x_wt0, x_wti, x_wtl, x_wtr, x_lst4, x_lst8, x_ld0, x_st0, x_inc0, x_ld1, x_st1, x_inc1, x_ld2, x_st2, x_inc2, x_ld3, x_st3, x_inc3, x_ld4, x_st4, x_inc4, x_ld5, x_st5, x_inc5, x_ld6, x_st6, x_inc6, x_ld7, x_st7, x_inc7, x_ld8, x_st8, x_inc8, x_ld9, x_st9, x_inc9, x_ld10, x_st10, x_inc10, x_ld11, x_st11, x_inc11, x_ld12, x_st12, x_inc12, x_ld13, x_st13, x_inc13, x_get_0, x_put_0, x_get_1, x_put_1, x_get_2, x_put_2, x_get_3, x_put_3, x_get_4, x_put_4, x_get_5, x_put_5, x_get_6, x_put_6, x_get_7, x_put_7, x_get_8, x_put_8, x_get_9, x_put_9, x_get_10, x_put_10, x_get_11, x_put_11, x_get_12, x_put_12, x_get_13, x_put_13, x_get_14, x_put_14, x_get_15, x_put_15, x_get_16, x_put_16, x_get_17, x_put_17, x_get_18, x_put_18, x_get_19, x_put_19, x_get_20, x_put_20, x_get_21, x_put_21, x_get_22, x_put_22, x_get_23, x_put_23, x_get_24, x_put_24, x_get_25, x_put_25, x_get_26, x_put_26, x_get_27, x_put_27, x_get_28, x_put_28, x_get_29, x_put_29, x_get_30, x_put_30, x_get_31, x_put_31, x_get_32, x_put_32, x_get_33, x_put_33, x_get_34, x_put_34, x_get_35, x_put_35, x_get_36, x_put_36, x_get_37, x_put_37, x_get_38, x_put_38, x_get_39, x_put_39, x_get_40, x_put_40, x_get_41, x_put_41, x_get_42, x_put_42, x_get_43, x_put_43, x_get_44, x_put_44, x_invS0, x_invV0, x_invS1, x_invV1, x_invS2, x_invV2, x_invS3, x_invV3, x_invS4, x_invV4, x_invS5, x_invV5, x_invS6, x_invV6, x_invS7, x_invV7, true_and, and_true, true_or, or_true, false_or, or_false, ne_eq, not_true_eq_false, not_false_eq_true, implies_true, true_implies, false_implies, Nat.zero_le, Nat.le_refl, Nat.sub_self, Nat.sub_zero, if_true, if_false, reduceIte, Nat.reduceAdd, Nat.reduceSub, Nat.reduceLeDiff, Nat.reduceLT, Nat.reduceEqDiff, Int.reduceEq, Int.reduceNeg, Int.reduceLT, Int.reduceLE]
    exact K M0 hR0 hl0
  refine c_within (fun n1 n2 => ?_) (fun z => ?_)
  rotate_left
  · simp only [x_run, x_ci, x_cl, x_bin, x_dv, x_lbin, x_ldv, x_un, x_lcmp, x_lshl, x_dup0, x_dup2r, x_dup2, x_pop0, x_go, x_if1, x_if2, x_retf, x_rett, x_lret, x_vret, x_ald, x_bald, x_ast, x_bast, x_aast, x_oi, x_mx, x_acp, x_new, x_newa, x_anew, x_wt0, x_wti, x_wtl, x_wtr, x_lst4, x_lst8, x_ld0, x_st0, x_inc0, x_ld1, x_st1, x_inc1, x_ld2, x_st2, x_inc2, x_ld3, x_st3, x_inc3, x_ld4, x_st4, x_inc4, x_ld5, x_st5, x_inc5, x_ld6, x_st6, x_inc6, x_ld7, x_st7, x_inc7, x_ld8, x_st8, x_inc8, x_ld9, x_st9, x_inc9, x_ld10, x_st10, x_inc10, x_ld11, x_st11, x_inc11, x_ld12, x_st12, x_inc12, x_ld13, x_st13, x_inc13, x_get_0, x_put_0, x_get_1, x_put_1, x_get_2, x_put_2, x_get_3, x_put_3, x_get_4, x_put_4, x_get_5, x_put_5, x_get_6, x_put_6, x_get_7, x_put_7, x_get_8, x_put_8, x_get_9, x_put_9, x_get_10, x_put_10, x_get_11, x_put_11, x_get_12, x_put_12, x_get_13, x_put_13, x_get_14, x_put_14, x_get_15, x_put_15, x_get_16, x_put_16, x_get_17, x_put_17, x_get_18, x_put_18, x_get_19, x_put_19, x_get_20, x_put_20, x_get_21, x_put_21, x_get_22, x_put_22, x_get_23, x_put_23, x_get_24, x_put_24, x_get_25, x_put_25, x_get_26, x_put_26, x_get_27, x_put_27, x_get_28, x_put_28, x_get_29, x_put_29, x_get_30, x_put_30, x_get_31, x_put_31, x_get_32, x_put_32, x_get_33, x_put_33, x_get_34, x_put_34, x_get_35, x_put_35, x_get_36, x_put_36, x_get_37, x_put_37, x_get_38, x_put_38, x_get_39, x_put_39, x_get_40, x_put_40, x_get_41, x_put_41, x_get_42, x_put_42, x_get_43, x_put_43, x_get_44, x_put_44, x_invS0, x_invV0, x_invS1, x_invV1, x_invS2, x_invV2, x_invS3, x_invV3, x_invS4, x_invV4, x_invS5, x_invV5, x_invS6, x_invV6, x_invS7, x_invV7, true_and, and_true, true_or, or_true, false_or, or_false, ne_eq, not_true_eq_false, not_false_eq_true, implies_true, true_implies, false_implies, Nat.zero_le, Nat.le_refl, Nat.sub_self, Nat.sub_zero, if_true, if_false, reduceIte, Nat.reduceAdd, Nat.reduceSub, Nat.reduceLeDiff, Nat.reduceLT, Nat.reduceEqDiff, Int.reduceEq, Int.reduceNeg, Int.reduceLT, Int.reduceLE]
    exact r29 (fun h => z ⟨h.1, h.2.1⟩)
  simp only [x_run, x_ci, x_cl, x_bin, x_dv, x_lbin, x_ldv, x_un, x_lcmp, x_lshl, x_dup0, x_dup2r, x_dup2, x_pop0, x_go, x_if1, x_if2, x_retf, x_rett, x_lret, x_vret, x_ald, x_bald, x_ast, x_bast, x_aast, x_oi, x_mx, x_acp, x_new, x_newa, x_anew, x_wt0, x_wti, x_wtl, x_wtr, x_lst4, x_lst8, x_ld0, x_st0, x_inc0, x_ld1, x_st1, x_inc1, x_ld2, x_st2, x_inc2, x_ld3, x_st3, x_inc3, x_ld4, x_st4, x_inc4, x_ld5, x_st5, x_inc5, x_ld6, x_st6, x_inc6, x_ld7, x_st7, x_inc7, x_ld8, x_st8, x_inc8, x_ld9, x_st9, x_inc9, x_ld10, x_st10, x_inc10, x_ld11, x_st11, x_inc11, x_ld12, x_st12, x_inc12, x_ld13, x_st13, x_inc13, x_get_0, x_put_0, x_get_1, x_put_1, x_get_2, x_put_2, x_get_3, x_put_3, x_get_4, x_put_4, x_get_5, x_put_5, x_get_6, x_put_6, x_get_7, x_put_7, x_get_8, x_put_8, x_get_9, x_put_9, x_get_10, x_put_10, x_get_11, x_put_11, x_get_12, x_put_12, x_get_13, x_put_13, x_get_14, x_put_14, x_get_15, x_put_15, x_get_16, x_put_16, x_get_17, x_put_17, x_get_18, x_put_18, x_get_19, x_put_19, x_get_20, x_put_20, x_get_21, x_put_21, x_get_22, x_put_22, x_get_23, x_put_23, x_get_24, x_put_24, x_get_25, x_put_25, x_get_26, x_put_26, x_get_27, x_put_27, x_get_28, x_put_28, x_get_29, x_put_29, x_get_30, x_put_30, x_get_31, x_put_31, x_get_32, x_put_32, x_get_33, x_put_33, x_get_34, x_put_34, x_get_35, x_put_35, x_get_36, x_put_36, x_get_37, x_put_37, x_get_38, x_put_38, x_get_39, x_put_39, x_get_40, x_put_40, x_get_41, x_put_41, x_get_42, x_put_42, x_get_43, x_put_43, x_get_44, x_put_44, x_invS0, x_invV0, x_invS1, x_invV1, x_invS2, x_invV2, x_invS3, x_invV3, x_invS4, x_invV4, x_invS5, x_invV5, x_invS6, x_invV6, x_invS7, x_invV7, true_and, and_true, true_or, or_true, false_or, or_false, ne_eq, not_true_eq_false, not_false_eq_true, implies_true, true_implies, false_implies, Nat.zero_le, Nat.le_refl, Nat.sub_self, Nat.sub_zero, if_true, if_false, reduceIte, Nat.reduceAdd, Nat.reduceSub, Nat.reduceLeDiff, Nat.reduceLT, Nat.reduceEqDiff, Int.reduceEq, Int.reduceNeg, Int.reduceLT, Int.reduceLE]
  refine c_within (fun b1 b2 => ?_) (fun z => ?_)
  rotate_left
  · simp only [x_run, x_ci, x_cl, x_bin, x_dv, x_lbin, x_ldv, x_un, x_lcmp, x_lshl, x_dup0, x_dup2r, x_dup2, x_pop0, x_go, x_if1, x_if2, x_retf, x_rett, x_lret, x_vret, x_ald, x_bald, x_ast, x_bast, x_aast, x_oi, x_mx, x_acp, x_new, x_newa, x_anew, x_wt0, x_wti, x_wtl, x_wtr, x_lst4, x_lst8, x_ld0, x_st0, x_inc0, x_ld1, x_st1, x_inc1, x_ld2, x_st2, x_inc2, x_ld3, x_st3, x_inc3, x_ld4, x_st4, x_inc4, x_ld5, x_st5, x_inc5, x_ld6, x_st6, x_inc6, x_ld7, x_st7, x_inc7, x_ld8, x_st8, x_inc8, x_ld9, x_st9, x_inc9, x_ld10, x_st10, x_inc10, x_ld11, x_st11, x_inc11, x_ld12, x_st12, x_inc12, x_ld13, x_st13, x_inc13, x_get_0, x_put_0, x_get_1, x_put_1, x_get_2, x_put_2, x_get_3, x_put_3, x_get_4, x_put_4, x_get_5, x_put_5, x_get_6, x_put_6, x_get_7, x_put_7, x_get_8, x_put_8, x_get_9, x_put_9, x_get_10, x_put_10, x_get_11, x_put_11, x_get_12, x_put_12, x_get_13, x_put_13, x_get_14, x_put_14, x_get_15, x_put_15, x_get_16, x_put_16, x_get_17, x_put_17, x_get_18, x_put_18, x_get_19, x_put_19, x_get_20, x_put_20, x_get_21, x_put_21, x_get_22, x_put_22, x_get_23, x_put_23, x_get_24, x_put_24, x_get_25, x_put_25, x_get_26, x_put_26, x_get_27, x_put_27, x_get_28, x_put_28, x_get_29, x_put_29, x_get_30, x_put_30, x_get_31, x_put_31, x_get_32, x_put_32, x_get_33, x_put_33, x_get_34, x_put_34, x_get_35, x_put_35, x_get_36, x_put_36, x_get_37, x_put_37, x_get_38, x_put_38, x_get_39, x_put_39, x_get_40, x_put_40, x_get_41, x_put_41, x_get_42, x_put_42, x_get_43, x_put_43, x_get_44, x_put_44, x_invS0, x_invV0, x_invS1, x_invV1, x_invS2, x_invV2, x_invS3, x_invV3, x_invS4, x_invV4, x_invS5, x_invV5, x_invS6, x_invV6, x_invS7, x_invV7, true_and, and_true, true_or, or_true, false_or, or_false, ne_eq, not_true_eq_false, not_false_eq_true, implies_true, true_implies, false_implies, Nat.zero_le, Nat.le_refl, Nat.sub_self, Nat.sub_zero, if_true, if_false, reduceIte, Nat.reduceAdd, Nat.reduceSub, Nat.reduceLeDiff, Nat.reduceLT, Nat.reduceEqDiff, Int.reduceEq, Int.reduceNeg, Int.reduceLT, Int.reduceLE]
    exact r29 (fun h => z ⟨h.2.2.1, h.2.2.2⟩)
  simp only [x_run, x_ci, x_cl, x_bin, x_dv, x_lbin, x_ldv, x_un, x_lcmp, x_lshl, x_dup0, x_dup2r, x_dup2, x_pop0, x_go, x_if1, x_if2, x_retf, x_rett, x_lret, x_vret, x_ald, x_bald, x_ast, x_bast, x_aast, x_oi, x_mx, x_acp, x_new, x_newa, x_anew, x_wt0, x_wti, x_wtl, x_wtr, x_lst4, x_lst8, x_ld0, x_st0, x_inc0, x_ld1, x_st1, x_inc1, x_ld2, x_st2, x_inc2, x_ld3, x_st3, x_inc3, x_ld4, x_st4, x_inc4, x_ld5, x_st5, x_inc5, x_ld6, x_st6, x_inc6, x_ld7, x_st7, x_inc7, x_ld8, x_st8, x_inc8, x_ld9, x_st9, x_inc9, x_ld10, x_st10, x_inc10, x_ld11, x_st11, x_inc11, x_ld12, x_st12, x_inc12, x_ld13, x_st13, x_inc13, x_get_0, x_put_0, x_get_1, x_put_1, x_get_2, x_put_2, x_get_3, x_put_3, x_get_4, x_put_4, x_get_5, x_put_5, x_get_6, x_put_6, x_get_7, x_put_7, x_get_8, x_put_8, x_get_9, x_put_9, x_get_10, x_put_10, x_get_11, x_put_11, x_get_12, x_put_12, x_get_13, x_put_13, x_get_14, x_put_14, x_get_15, x_put_15, x_get_16, x_put_16, x_get_17, x_put_17, x_get_18, x_put_18, x_get_19, x_put_19, x_get_20, x_put_20, x_get_21, x_put_21, x_get_22, x_put_22, x_get_23, x_put_23, x_get_24, x_put_24, x_get_25, x_put_25, x_get_26, x_put_26, x_get_27, x_put_27, x_get_28, x_put_28, x_get_29, x_put_29, x_get_30, x_put_30, x_get_31, x_put_31, x_get_32, x_put_32, x_get_33, x_put_33, x_get_34, x_put_34, x_get_35, x_put_35, x_get_36, x_put_36, x_get_37, x_put_37, x_get_38, x_put_38, x_get_39, x_put_39, x_get_40, x_put_40, x_get_41, x_put_41, x_get_42, x_put_42, x_get_43, x_put_43, x_get_44, x_put_44, x_invS0, x_invV0, x_invS1, x_invV1, x_invS2, x_invV2, x_invS3, x_invV3, x_invS4, x_invV4, x_invS5, x_invV5, x_invS6, x_invV6, x_invS7, x_invV7, true_and, and_true, true_or, or_true, false_or, or_false, ne_eq, not_true_eq_false, not_false_eq_true, implies_true, true_implies, false_implies, Nat.zero_le, Nat.le_refl, Nat.sub_self, Nat.sub_zero, if_true, if_false, reduceIte, Nat.reduceAdd, Nat.reduceSub, Nat.reduceLeDiff, Nat.reduceLT, Nat.reduceEqDiff, Int.reduceEq, Int.reduceNeg, Int.reduceLT, Int.reduceLE]
  refine ms_gq (kX12_search G Q (d + 24)) rfl ?_
  simp only [x_run, x_ci, x_cl, x_bin, x_dv, x_lbin, x_ldv, x_un, x_lcmp, x_lshl, x_dup0, x_dup2r, x_dup2, x_pop0, x_go, x_if1, x_if2, x_retf, x_rett, x_lret, x_vret, x_ald, x_bald, x_ast, x_bast, x_aast, x_oi, x_mx, x_acp, x_new, x_newa, x_anew, x_wt0, x_wti, x_wtl, x_wtr, x_lst4, x_lst8, x_ld0, x_st0, x_inc0, x_ld1, x_st1, x_inc1, x_ld2, x_st2, x_inc2, x_ld3, x_st3, x_inc3, x_ld4, x_st4, x_inc4, x_ld5, x_st5, x_inc5, x_ld6, x_st6, x_inc6, x_ld7, x_st7, x_inc7, x_ld8, x_st8, x_inc8, x_ld9, x_st9, x_inc9, x_ld10, x_st10, x_inc10, x_ld11, x_st11, x_inc11, x_ld12, x_st12, x_inc12, x_ld13, x_st13, x_inc13, x_get_0, x_put_0, x_get_1, x_put_1, x_get_2, x_put_2, x_get_3, x_put_3, x_get_4, x_put_4, x_get_5, x_put_5, x_get_6, x_put_6, x_get_7, x_put_7, x_get_8, x_put_8, x_get_9, x_put_9, x_get_10, x_put_10, x_get_11, x_put_11, x_get_12, x_put_12, x_get_13, x_put_13, x_get_14, x_put_14, x_get_15, x_put_15, x_get_16, x_put_16, x_get_17, x_put_17, x_get_18, x_put_18, x_get_19, x_put_19, x_get_20, x_put_20, x_get_21, x_put_21, x_get_22, x_put_22, x_get_23, x_put_23, x_get_24, x_put_24, x_get_25, x_put_25, x_get_26, x_put_26, x_get_27, x_put_27, x_get_28, x_put_28, x_get_29, x_put_29, x_get_30, x_put_30, x_get_31, x_put_31, x_get_32, x_put_32, x_get_33, x_put_33, x_get_34, x_put_34, x_get_35, x_put_35, x_get_36, x_put_36, x_get_37, x_put_37, x_get_38, x_put_38, x_get_39, x_put_39, x_get_40, x_put_40, x_get_41, x_put_41, x_get_42, x_put_42, x_get_43, x_put_43, x_get_44, x_put_44, x_invS0, x_invV0, x_invS1, x_invV1, x_invS2, x_invV2, x_invS3, x_invV3, x_invS4, x_invV4, x_invS5, x_invV5, x_invS6, x_invV6, x_invS7, x_invV7, true_and, and_true, true_or, or_true, false_or, or_false, ne_eq, not_true_eq_false, not_false_eq_true, implies_true, true_implies, false_implies, Nat.zero_le, Nat.le_refl, Nat.sub_self, Nat.sub_zero, if_true, if_false, reduceIte, Nat.reduceAdd, Nat.reduceSub, Nat.reduceLeDiff, Nat.reduceLT, Nat.reduceEqDiff, Int.reduceEq, Int.reduceNeg, Int.reduceLT, Int.reduceLE, pw_k103 hG]
  refine c_lowerOf n1 (by omega) ?_
  have hlow := pw_low_in n1 n2
  have F41 := pw_m41 hR0.1
  simp only [x_run, x_ci, x_cl, x_bin, x_dv, x_lbin, x_ldv, x_un, x_lcmp, x_lshl, x_dup0, x_dup2r, x_dup2, x_pop0, x_go, x_if1, x_if2, x_retf, x_rett, x_lret, x_vret, x_ald, x_bald, x_ast, x_bast, x_aast, x_oi, x_mx, x_acp, x_new, x_newa, x_anew, x_wt0, x_wti, x_wtl, x_wtr, x_lst4, x_lst8, x_ld0, x_st0, x_inc0, x_ld1, x_st1, x_inc1, x_ld2, x_st2, x_inc2, x_ld3, x_st3, x_inc3, x_ld4, x_st4, x_inc4, x_ld5, x_st5, x_inc5, x_ld6, x_st6, x_inc6, x_ld7, x_st7, x_inc7, x_ld8, x_st8, x_inc8, x_ld9, x_st9, x_inc9, x_ld10, x_st10, x_inc10, x_ld11, x_st11, x_inc11, x_ld12, x_st12, x_inc12, x_ld13, x_st13, x_inc13, x_get_0, x_put_0, x_get_1, x_put_1, x_get_2, x_put_2, x_get_3, x_put_3, x_get_4, x_put_4, x_get_5, x_put_5, x_get_6, x_put_6, x_get_7, x_put_7, x_get_8, x_put_8, x_get_9, x_put_9, x_get_10, x_put_10, x_get_11, x_put_11, x_get_12, x_put_12, x_get_13, x_put_13, x_get_14, x_put_14, x_get_15, x_put_15, x_get_16, x_put_16, x_get_17, x_put_17, x_get_18, x_put_18, x_get_19, x_put_19, x_get_20, x_put_20, x_get_21, x_put_21, x_get_22, x_put_22, x_get_23, x_put_23, x_get_24, x_put_24, x_get_25, x_put_25, x_get_26, x_put_26, x_get_27, x_put_27, x_get_28, x_put_28, x_get_29, x_put_29, x_get_30, x_put_30, x_get_31, x_put_31, x_get_32, x_put_32, x_get_33, x_put_33, x_get_34, x_put_34, x_get_35, x_put_35, x_get_36, x_put_36, x_get_37, x_put_37, x_get_38, x_put_38, x_get_39, x_put_39, x_get_40, x_put_40, x_get_41, x_put_41, x_get_42, x_put_42, x_get_43, x_put_43, x_get_44, x_put_44, x_invS0, x_invV0, x_invS1, x_invV1, x_invS2, x_invV2, x_invS3, x_invV3, x_invS4, x_invV4, x_invS5, x_invV5, x_invS6, x_invV6, x_invS7, x_invV7, true_and, and_true, true_or, or_true, false_or, or_false, ne_eq, not_true_eq_false, not_false_eq_true, implies_true, true_implies, false_implies, Nat.zero_le, Nat.le_refl, Nat.sub_self, Nat.sub_zero, if_true, if_false, reduceIte, Nat.reduceAdd, Nat.reduceSub, Nat.reduceLeDiff, Nat.reduceLT, Nat.reduceEqDiff, Int.reduceEq, Int.reduceNeg, Int.reduceLT, Int.reduceLE, x_up, x_nw, true_and, and_true, false_and, and_false, and_self, Int.reduceEq, if_true, if_false, reduceIte, pw_k103 hG, pw_k128 hG, pw_l128 hG, F41]
  generalize hM1 : ms_up (ms_up (ms_up (ms_up (ms_up (ms_up M0 103 39 0) 103 40 0) 103 42 b) 103 43 n) 103 44 (pw_low n 1)) 128 0 1 = M1
  have g39 : M1 103 39 = 0 := by rw [← hM1]; simp only [x_up, x_nw, true_and, and_true, false_and, and_false, and_self, Int.reduceEq, if_true, if_false, reduceIte]
  have g40 : M1 103 40 = 0 := by rw [← hM1]; simp only [x_up, x_nw, true_and, and_true, false_and, and_false, and_self, Int.reduceEq, if_true, if_false, reduceIte]
  have g42 : M1 103 42 = b := by rw [← hM1]; simp only [x_up, x_nw, true_and, and_true, false_and, and_false, and_self, Int.reduceEq, if_true, if_false, reduceIte]
  have g43 : M1 103 43 = n := by rw [← hM1]; simp only [x_up, x_nw, true_and, and_true, false_and, and_false, and_self, Int.reduceEq, if_true, if_false, reduceIte]
  have g44 : M1 103 44 = pw_low n 1 := by rw [← hM1]; simp only [x_up, x_nw, true_and, and_true, false_and, and_false, and_self, Int.reduceEq, if_true, if_false, reduceIte]
  have g128 : M1 128 = fun j => if j = 0 then 1 else M0 128 j := by
    funext j
    rw [← hM1]
    simp only [x_up, x_nw, true_and, and_true, false_and, and_false, and_self, Int.reduceEq, if_true, if_false, reduceIte]
  have gj : ∀ j, ¬ pw_scr j → j ≠ 39 → j ≠ 40 → M1 103 j = M0 103 j := by
    intro j hj h39 h40
    unfold pw_scr at hj
    rw [← hM1, ms_up_a (by omega), ms_up_j (by omega), ms_up_j (by omega), ms_up_j (by omega), ms_up_j h40, ms_up_j h39]
  have gc : ∀ c, c ≠ 103 → c ≠ 128 → M1 c = M0 c := by
    intro c c1 c2
    rw [← hM1, ms_up_row c2, ms_up_row c1, ms_up_row c1, ms_up_row c1, ms_up_row c1, ms_up_row c1]
  have f41 : ∀ L, ms_up M1 103 44 L 103 41 = 128 := fun L => by rw [ms_up_j (by omega), gj 41 (by unfold pw_scr; omega) (by omega) (by omega)]; exact F41
  have f42 : ∀ L, ms_up M1 103 44 L 103 42 = b := fun L => by rw [ms_up_j (by omega)]; exact g42
  have f43 : ∀ L, ms_up M1 103 44 L 103 43 = n := fun L => by rw [ms_up_j (by omega)]; exact g43
  have f44 : ∀ L, ms_up M1 103 44 L 103 44 = L := fun L => ms_up_same
  have hself : M1 = ms_gs (ms_up M1 103 44 (((pw_low n 1).toNat : Nat) : Int)) 0 0 (M1 128) := by
    have e : ms_up M1 103 44 (((pw_low n 1).toNat : Nat) : Int) = M1 := by
      funext a j
      unfold ms_up
      split
      · rename_i h
        rw [h.1, h.2, g44]; omega
      · rfl
    rw [e]
    have := gs_self (M := M1)
    rw [g39, g40] at this
    exact this.symm
  generalize hWr : pw_sk n b (M0 128) = Wr
  have fin : ∀ (len : Int) (v fm : Int) (r : Int → Int), Wr.1 ≠ 0 → v = Wr.2.1 → fm = (if Wr.1 = 1 then Wr.2.2.2 + 1 else 0) → r = Wr.2.2.1 → ms_At G Q mX12_search (d + 24 + 1) 0 0 97 [(2, 103), (0, n), (0, b), (0, Wr.1)] [] Γ (ms_gs (ms_up M1 103 44 len) v fm r) := by
    intro len v fm r hz ev ef er
    have hM' : pw_RM (ms_gs (ms_up M1 103 44 len) v fm r) (pw_asearch S (M0 128) n b).1 := by
      unfold pw_asearch
      rw [if_pos ⟨n1, n2, b1, b2⟩, hWr]
      obtain ⟨r1, r2, r3, r4, r5, r6, r7, r8, r9, r10⟩ := id hR0
      have hj : ∀ j, ¬ pw_scr j → j ≠ 39 → j ≠ 40 → ms_gs (ms_up M1 103 44 len) v fm r 103 j = M0 103 j := fun j h1 h2 h3 => by
        rw [gs_j h2 h3, ms_up_j (by unfold pw_scr at h1; omega)]
        exact gj j h1 h2 h3
      have hc : ∀ c, c ≠ 103 → c ≠ 128 → ms_gs (ms_up M1 103 44 len) v fm r c = M0 c := fun c h1 h2 => by
        rw [gs_ne h1 h2, ms_up_row h1]
        exact gc c h1 h2
      have n4 : ¬ pw_scr 4 := by unfold pw_scr; omega
      have n9 : ¬ pw_scr 9 := by unfold pw_scr; omega
      refine ⟨pw_mr_fr r1 (fun j h1 _ _ h2 h3 => hj j h1 h2 h3), by rw [hc 104 (by omega) (by omega)]; exact r2, by rw [hj 4 n4 (by omega) (by omega)]; exact r3, fun j j0 j1 => by rw [hc 106 (by omega) (by omega)]; exact r4 j j0 j1, fun i i0 i1 => by rw [hc 107 (by omega) (by omega), hc 108 (by omega) (by omega)]; exact r5 i i0 i1, by rw [hj 9 n9 (by omega) (by omega)]; exact r6, fun j j0 j1 => by rw [hc 110 (by omega) (by omega)]; exact r7 j j0 j1, ?_, ?_, fun j j0 j1 => ?_⟩
      · rw [gs_v]; exact ev
      · rw [gs_f, ef]
        show _ = (if Wr.1 = 1 then Wr.2.2.2 else -1) + 1
        split <;> rfl
      · rw [gs_rj, er]; rfl
    have hans : (pw_asr S n b).2 = (if Wr.1 = 1 then Wr.2.2.2 else -2) := by
      rw [pw_asr_eq (r := M0 128)]
      unfold pw_asearch
      rw [if_pos ⟨n1, n2, b1, b2⟩, hWr]
    have KK := K _ (pw_asr_RM hM') (pw_lo_tr hl0 (fun c hc => by rw [gs_ne (by omega) (by omega), ms_up_row (by omega)]; exact gc c (by omega) (by omega)))
    rw [hans] at KK
    refine ms_gq (kX12_search G Q (d + 24)) rfl ?_
    have r113 : ∀ x : Int, Q (0, x) Γ (ms_gs (ms_up M1 103 44 len) v fm r) → ms_At G Q mX12_search (d + 24 + 1) 0 0 113 [(2, 103), (0, n), (0, b), (0, Wr.1)] [(0, x)] Γ (ms_gs (ms_up M1 103 44 len) v fm r) := fun x h => ms_gq (kX12_search G Q (d + 24)) rfl (by simp only [x_run, x_ci, x_cl, x_bin, x_dv, x_lbin, x_ldv, x_un, x_lcmp, x_lshl, x_dup0, x_dup2r, x_dup2, x_pop0, x_go, x_if1, x_if2, x_retf, x_rett, x_lret, x_vret, x_ald, x_bald, x_ast, x_bast, x_aast, x_oi, x_mx, x_acp, x_new, x_newa, x_anew, x_wt0, x_wti, x_wtl, x_wtr, x_lst4, x_lst8, x_ld0, x_st0, x_inc0, x_ld1, x_st1, x_inc1, x_ld2, x_st2, x_inc2, x_ld3, x_st3, x_inc3, x_ld4, x_st4, x_inc4, x_ld5, x_st5, x_inc5, x_ld6, x_st6, x_inc6, x_ld7, x_st7, x_inc7, x_ld8, x_st8, x_inc8, x_ld9, x_st9, x_inc9, x_ld10, x_st10, x_inc10, x_ld11, x_st11, x_inc11, x_ld12, x_st12, x_inc12, x_ld13, x_st13, x_inc13, x_get_0, x_put_0, x_get_1, x_put_1, x_get_2, x_put_2, x_get_3, x_put_3, x_get_4, x_put_4, x_get_5, x_put_5, x_get_6, x_put_6, x_get_7, x_put_7, x_get_8, x_put_8, x_get_9, x_put_9, x_get_10, x_put_10, x_get_11, x_put_11, x_get_12, x_put_12, x_get_13, x_put_13, x_get_14, x_put_14, x_get_15, x_put_15, x_get_16, x_put_16, x_get_17, x_put_17, x_get_18, x_put_18, x_get_19, x_put_19, x_get_20, x_put_20, x_get_21, x_put_21, x_get_22, x_put_22, x_get_23, x_put_23, x_get_24, x_put_24, x_get_25, x_put_25, x_get_26, x_put_26, x_get_27, x_put_27, x_get_28, x_put_28, x_get_29, x_put_29, x_get_30, x_put_30, x_get_31, x_put_31, x_get_32, x_put_32, x_get_33, x_put_33, x_get_34, x_put_34, x_get_35, x_put_35, x_get_36, x_put_36, x_get_37, x_put_37, x_get_38, x_put_38, x_get_39, x_put_39, x_get_40, x_put_40, x_get_41, x_put_41, x_get_42, x_put_42, x_get_43, x_put_43, x_get_44, x_put_44, x_invS0, x_invV0, x_invS1, x_invV1, x_invS2, x_invV2, x_invS3, x_invV3, x_invS4, x_invV4, x_invS5, x_invV5, x_invS6, x_invV6, x_invS7, x_invV7, true_and, and_true, true_or, or_true, false_or, or_false, ne_eq, not_true_eq_false, not_false_eq_true, implies_true, true_implies, false_implies, Nat.zero_le, Nat.le_refl, Nat.sub_self, Nat.sub_zero, if_true, if_false, reduceIte, Nat.reduceAdd, Nat.reduceSub, Nat.reduceLeDiff, Nat.reduceLT, Nat.reduceEqDiff, Int.reduceEq, Int.reduceNeg, Int.reduceLT, Int.reduceLE]; exact h)
    simp only [x_run, x_ci, x_cl, x_bin, x_dv, x_lbin, x_ldv, x_un, x_lcmp, x_lshl, x_dup0, x_dup2r, x_dup2, x_pop0, x_go, x_if1, x_if2, x_retf, x_rett, x_lret, x_vret, x_ald, x_bald, x_ast, x_bast, x_aast, x_oi, x_mx, x_acp, x_new, x_newa, x_anew, x_wt0, x_wti, x_wtl, x_wtr, x_lst4, x_lst8, x_ld0, x_st0, x_inc0, x_ld1, x_st1, x_inc1, x_ld2, x_st2, x_inc2, x_ld3, x_st3, x_inc3, x_ld4, x_st4, x_inc4, x_ld5, x_st5, x_inc5, x_ld6, x_st6, x_inc6, x_ld7, x_st7, x_inc7, x_ld8, x_st8, x_inc8, x_ld9, x_st9, x_inc9, x_ld10, x_st10, x_inc10, x_ld11, x_st11, x_inc11, x_ld12, x_st12, x_inc12, x_ld13, x_st13, x_inc13, x_get_0, x_put_0, x_get_1, x_put_1, x_get_2, x_put_2, x_get_3, x_put_3, x_get_4, x_put_4, x_get_5, x_put_5, x_get_6, x_put_6, x_get_7, x_put_7, x_get_8, x_put_8, x_get_9, x_put_9, x_get_10, x_put_10, x_get_11, x_put_11, x_get_12, x_put_12, x_get_13, x_put_13, x_get_14, x_put_14, x_get_15, x_put_15, x_get_16, x_put_16, x_get_17, x_put_17, x_get_18, x_put_18, x_get_19, x_put_19, x_get_20, x_put_20, x_get_21, x_put_21, x_get_22, x_put_22, x_get_23, x_put_23, x_get_24, x_put_24, x_get_25, x_put_25, x_get_26, x_put_26, x_get_27, x_put_27, x_get_28, x_put_28, x_get_29, x_put_29, x_get_30, x_put_30, x_get_31, x_put_31, x_get_32, x_put_32, x_get_33, x_put_33, x_get_34, x_put_34, x_get_35, x_put_35, x_get_36, x_put_36, x_get_37, x_put_37, x_get_38, x_put_38, x_get_39, x_put_39, x_get_40, x_put_40, x_get_41, x_put_41, x_get_42, x_put_42, x_get_43, x_put_43, x_get_44, x_put_44, x_invS0, x_invV0, x_invS1, x_invV1, x_invS2, x_invV2, x_invS3, x_invV3, x_invS4, x_invV4, x_invS5, x_invV5, x_invS6, x_invV6, x_invS7, x_invV7, true_and, and_true, true_or, or_true, false_or, or_false, ne_eq, not_true_eq_false, not_false_eq_true, implies_true, true_implies, false_implies, Nat.zero_le, Nat.le_refl, Nat.sub_self, Nat.sub_zero, if_true, if_false, reduceIte, Nat.reduceAdd, Nat.reduceSub, Nat.reduceLeDiff, Nat.reduceLT, Nat.reduceEqDiff, Int.reduceEq, Int.reduceNeg, Int.reduceLT, Int.reduceLE, pw_k103 hG, gs_f]
    refine ⟨fun y => ms_gq (kX12_search G Q (d + 24)) rfl ?_, fun y => ?_⟩
    · rw [if_neg y] at KK
      simp only [x_run, x_ci, x_cl, x_bin, x_dv, x_lbin, x_ldv, x_un, x_lcmp, x_lshl, x_dup0, x_dup2r, x_dup2, x_pop0, x_go, x_if1, x_if2, x_retf, x_rett, x_lret, x_vret, x_ald, x_bald, x_ast, x_bast, x_aast, x_oi, x_mx, x_acp, x_new, x_newa, x_anew, x_wt0, x_wti, x_wtl, x_wtr, x_lst4, x_lst8, x_ld0, x_st0, x_inc0, x_ld1, x_st1, x_inc1, x_ld2, x_st2, x_inc2, x_ld3, x_st3, x_inc3, x_ld4, x_st4, x_inc4, x_ld5, x_st5, x_inc5, x_ld6, x_st6, x_inc6, x_ld7, x_st7, x_inc7, x_ld8, x_st8, x_inc8, x_ld9, x_st9, x_inc9, x_ld10, x_st10, x_inc10, x_ld11, x_st11, x_inc11, x_ld12, x_st12, x_inc12, x_ld13, x_st13, x_inc13, x_get_0, x_put_0, x_get_1, x_put_1, x_get_2, x_put_2, x_get_3, x_put_3, x_get_4, x_put_4, x_get_5, x_put_5, x_get_6, x_put_6, x_get_7, x_put_7, x_get_8, x_put_8, x_get_9, x_put_9, x_get_10, x_put_10, x_get_11, x_put_11, x_get_12, x_put_12, x_get_13, x_put_13, x_get_14, x_put_14, x_get_15, x_put_15, x_get_16, x_put_16, x_get_17, x_put_17, x_get_18, x_put_18, x_get_19, x_put_19, x_get_20, x_put_20, x_get_21, x_put_21, x_get_22, x_put_22, x_get_23, x_put_23, x_get_24, x_put_24, x_get_25, x_put_25, x_get_26, x_put_26, x_get_27, x_put_27, x_get_28, x_put_28, x_get_29, x_put_29, x_get_30, x_put_30, x_get_31, x_put_31, x_get_32, x_put_32, x_get_33, x_put_33, x_get_34, x_put_34, x_get_35, x_put_35, x_get_36, x_put_36, x_get_37, x_put_37, x_get_38, x_put_38, x_get_39, x_put_39, x_get_40, x_put_40, x_get_41, x_put_41, x_get_42, x_put_42, x_get_43, x_put_43, x_get_44, x_put_44, x_invS0, x_invV0, x_invS1, x_invV1, x_invS2, x_invV2, x_invS3, x_invV3, x_invS4, x_invV4, x_invS5, x_invV5, x_invS6, x_invV6, x_invS7, x_invV7, true_and, and_true, true_or, or_true, false_or, or_false, ne_eq, not_true_eq_false, not_false_eq_true, implies_true, true_implies, false_implies, Nat.zero_le, Nat.le_refl, Nat.sub_self, Nat.sub_zero, if_true, if_false, reduceIte, Nat.reduceAdd, Nat.reduceSub, Nat.reduceLeDiff, Nat.reduceLT, Nat.reduceEqDiff, Int.reduceEq, Int.reduceNeg, Int.reduceLT, Int.reduceLE]
      exact r113 _ KK
    · have y1 : Wr.1 = 1 := by omega
      rw [if_pos y1] at KK ef
      have hfk : 0 ≤ Wr.2.2.2 ∧ Wr.2.2.2 ≤ 20 := by
        have hq : (pw_sl n b (21 - (pw_low n 1).toNat) (pw_low n 1).toNat 0 (fun j => if j = 0 then 1 else M0 128 j)) = Wr := hWr
        have := pw_sl_fk (S := n) (B := b) (21 - (pw_low n 1).toNat) (pw_low n 1).toNat 0 (fun j => if j = 0 then 1 else M0 128 j) (by rw [hq]; exact y1)
        rw [hq] at this
        omega
      rw [ef, w32_id (by omega) (by omega), show Wr.2.2.2 + 1 - 1 = Wr.2.2.2 by omega]
      rw [ef] at KK
      have := r113 Wr.2.2.2
      rw [ef] at this
      exact this KK
  have hrb : ∀ r : Int → Int, r 0 = 1 → ∀ j, 0 ≤ j → j ≤ 0 → 1 ≤ r j ∧ r j ≤ n := fun r h0 j j0 j1 => by
    rw [show j = 0 by omega, h0]
    omega
  have loop : ∀ (m len : Nat), len + m = 20 → ∀ (v : Int) (r : Int → Int), r 0 = 1 → 0 ≤ v → v ≤ b → pw_sl n b (m + 1) len v r = Wr → ms_At G Q mX12_search (d + 24 + 1) 0 0 74 [(2, 103), (0, n), (0, b), (0, (pw_vs n b len 0 v r).1)] [] Γ (ms_gs (ms_up M1 103 44 (len : Int)) (pw_vs n b len 0 v r).2.1 (if (pw_vs n b len 0 v r).1 = 1 then (pw_vs n b len 0 v r).2.2.2 + 1 else 0) (pw_vs n b len 0 v r).2.2.1) := by
    intro m
    induction m with
    | zero =>
      intro len hlen v r h0 v0 v1 hW
      have hl20 : len = 20 := by omega
      subst hl20
      have hne := pw_vs20 (B := b) (v := v) n1 n2 h0
      unfold pw_sl at hW
      rw [if_neg hne] at hW
      refine ms_gq (kX12_search G Q (d + 24)) rfl ?_
      simp only [x_run, x_ci, x_cl, x_bin, x_dv, x_lbin, x_ldv, x_un, x_lcmp, x_lshl, x_dup0, x_dup2r, x_dup2, x_pop0, x_go, x_if1, x_if2, x_retf, x_rett, x_lret, x_vret, x_ald, x_bald, x_ast, x_bast, x_aast, x_oi, x_mx, x_acp, x_new, x_newa, x_anew, x_wt0, x_wti, x_wtl, x_wtr, x_lst4, x_lst8, x_ld0, x_st0, x_inc0, x_ld1, x_st1, x_inc1, x_ld2, x_st2, x_inc2, x_ld3, x_st3, x_inc3, x_ld4, x_st4, x_inc4, x_ld5, x_st5, x_inc5, x_ld6, x_st6, x_inc6, x_ld7, x_st7, x_inc7, x_ld8, x_st8, x_inc8, x_ld9, x_st9, x_inc9, x_ld10, x_st10, x_inc10, x_ld11, x_st11, x_inc11, x_ld12, x_st12, x_inc12, x_ld13, x_st13, x_inc13, x_get_0, x_put_0, x_get_1, x_put_1, x_get_2, x_put_2, x_get_3, x_put_3, x_get_4, x_put_4, x_get_5, x_put_5, x_get_6, x_put_6, x_get_7, x_put_7, x_get_8, x_put_8, x_get_9, x_put_9, x_get_10, x_put_10, x_get_11, x_put_11, x_get_12, x_put_12, x_get_13, x_put_13, x_get_14, x_put_14, x_get_15, x_put_15, x_get_16, x_put_16, x_get_17, x_put_17, x_get_18, x_put_18, x_get_19, x_put_19, x_get_20, x_put_20, x_get_21, x_put_21, x_get_22, x_put_22, x_get_23, x_put_23, x_get_24, x_put_24, x_get_25, x_put_25, x_get_26, x_put_26, x_get_27, x_put_27, x_get_28, x_put_28, x_get_29, x_put_29, x_get_30, x_put_30, x_get_31, x_put_31, x_get_32, x_put_32, x_get_33, x_put_33, x_get_34, x_put_34, x_get_35, x_put_35, x_get_36, x_put_36, x_get_37, x_put_37, x_get_38, x_put_38, x_get_39, x_put_39, x_get_40, x_put_40, x_get_41, x_put_41, x_get_42, x_put_42, x_get_43, x_put_43, x_get_44, x_put_44, x_invS0, x_invV0, x_invS1, x_invV1, x_invS2, x_invV2, x_invS3, x_invV3, x_invS4, x_invV4, x_invS5, x_invV5, x_invS6, x_invV6, x_invS7, x_invV7, true_and, and_true, true_or, or_true, false_or, or_false, ne_eq, not_true_eq_false, not_false_eq_true, implies_true, true_implies, false_implies, Nat.zero_le, Nat.le_refl, Nat.sub_self, Nat.sub_zero, if_true, if_false, reduceIte, Nat.reduceAdd, Nat.reduceSub, Nat.reduceLeDiff, Nat.reduceLT, Nat.reduceEqDiff, Int.reduceEq, Int.reduceNeg, Int.reduceLT, Int.reduceLE]
      refine ⟨fun _ => ?_, fun z => absurd (Decidable.not_not.mp z) hne⟩
      rw [hW] at hne ⊢
      exact fin _ _ _ _ hne rfl rfl rfl
    | succ m ih =>
      intro len hlen v r h0 v0 v1 hW
      have hvis := pw_vs_vis (S := n) (B := b) len 0 v r v1
      unfold pw_sl at hW
      refine ms_gq (kX12_search G Q (d + 24)) rfl ?_
      simp only [x_run, x_ci, x_cl, x_bin, x_dv, x_lbin, x_ldv, x_un, x_lcmp, x_lshl, x_dup0, x_dup2r, x_dup2, x_pop0, x_go, x_if1, x_if2, x_retf, x_rett, x_lret, x_vret, x_ald, x_bald, x_ast, x_bast, x_aast, x_oi, x_mx, x_acp, x_new, x_newa, x_anew, x_wt0, x_wti, x_wtl, x_wtr, x_lst4, x_lst8, x_ld0, x_st0, x_inc0, x_ld1, x_st1, x_inc1, x_ld2, x_st2, x_inc2, x_ld3, x_st3, x_inc3, x_ld4, x_st4, x_inc4, x_ld5, x_st5, x_inc5, x_ld6, x_st6, x_inc6, x_ld7, x_st7, x_inc7, x_ld8, x_st8, x_inc8, x_ld9, x_st9, x_inc9, x_ld10, x_st10, x_inc10, x_ld11, x_st11, x_inc11, x_ld12, x_st12, x_inc12, x_ld13, x_st13, x_inc13, x_get_0, x_put_0, x_get_1, x_put_1, x_get_2, x_put_2, x_get_3, x_put_3, x_get_4, x_put_4, x_get_5, x_put_5, x_get_6, x_put_6, x_get_7, x_put_7, x_get_8, x_put_8, x_get_9, x_put_9, x_get_10, x_put_10, x_get_11, x_put_11, x_get_12, x_put_12, x_get_13, x_put_13, x_get_14, x_put_14, x_get_15, x_put_15, x_get_16, x_put_16, x_get_17, x_put_17, x_get_18, x_put_18, x_get_19, x_put_19, x_get_20, x_put_20, x_get_21, x_put_21, x_get_22, x_put_22, x_get_23, x_put_23, x_get_24, x_put_24, x_get_25, x_put_25, x_get_26, x_put_26, x_get_27, x_put_27, x_get_28, x_put_28, x_get_29, x_put_29, x_get_30, x_put_30, x_get_31, x_put_31, x_get_32, x_put_32, x_get_33, x_put_33, x_get_34, x_put_34, x_get_35, x_put_35, x_get_36, x_put_36, x_get_37, x_put_37, x_get_38, x_put_38, x_get_39, x_put_39, x_get_40, x_put_40, x_get_41, x_put_41, x_get_42, x_put_42, x_get_43, x_put_43, x_get_44, x_put_44, x_invS0, x_invV0, x_invS1, x_invV1, x_invS2, x_invV2, x_invS3, x_invV3, x_invS4, x_invV4, x_invS5, x_invV5, x_invS6, x_invV6, x_invS7, x_invV7, true_and, and_true, true_or, or_true, false_or, or_false, ne_eq, not_true_eq_false, not_false_eq_true, implies_true, true_implies, false_implies, Nat.zero_le, Nat.le_refl, Nat.sub_self, Nat.sub_zero, if_true, if_false, reduceIte, Nat.reduceAdd, Nat.reduceSub, Nat.reduceLeDiff, Nat.reduceLT, Nat.reduceEqDiff, Int.reduceEq, Int.reduceNeg, Int.reduceLT, Int.reduceLE, pw_k103 hG]
      refine ⟨fun y => ?_, fun y => ?_⟩
      · rw [if_neg y] at hW
        rw [hW] at y ⊢
        exact fin _ _ _ _ y rfl rfl rfl
      · have y0 := Decidable.not_not.mp y
        rw [if_pos y0] at hW
        rw [gs_44, f44, w32_id (by omega) (by omega), gs_u44, if_neg (by omega), show ((len : Int) + 1) = ((len + 1 : Nat) : Int) by omega]
        have hkeep : (pw_vs n b len 0 v r).2.2.1 0 = 1 := by rw [pw_vs_keep len 0 v r 0 (Int.le_refl _)]; exact h0
        refine c_goes hG (f41 _) (f43 _) (f42 _) n1 n2 b1 b2 (L := len + 1) (f44 _) (by omega) (len + 1) _ 0 _ 0 _ _ (by omega) (Int.le_refl _) (by omega) (by omega) hvis.2 (hrb _ hkeep) ?_
        simp only [x_run, x_ci, x_cl, x_bin, x_dv, x_lbin, x_ldv, x_un, x_lcmp, x_lshl, x_dup0, x_dup2r, x_dup2, x_pop0, x_go, x_if1, x_if2, x_retf, x_rett, x_lret, x_vret, x_ald, x_bald, x_ast, x_bast, x_aast, x_oi, x_mx, x_acp, x_new, x_newa, x_anew, x_wt0, x_wti, x_wtl, x_wtr, x_lst4, x_lst8, x_ld0, x_st0, x_inc0, x_ld1, x_st1, x_inc1, x_ld2, x_st2, x_inc2, x_ld3, x_st3, x_inc3, x_ld4, x_st4, x_inc4, x_ld5, x_st5, x_inc5, x_ld6, x_st6, x_inc6, x_ld7, x_st7, x_inc7, x_ld8, x_st8, x_inc8, x_ld9, x_st9, x_inc9, x_ld10, x_st10, x_inc10, x_ld11, x_st11, x_inc11, x_ld12, x_st12, x_inc12, x_ld13, x_st13, x_inc13, x_get_0, x_put_0, x_get_1, x_put_1, x_get_2, x_put_2, x_get_3, x_put_3, x_get_4, x_put_4, x_get_5, x_put_5, x_get_6, x_put_6, x_get_7, x_put_7, x_get_8, x_put_8, x_get_9, x_put_9, x_get_10, x_put_10, x_get_11, x_put_11, x_get_12, x_put_12, x_get_13, x_put_13, x_get_14, x_put_14, x_get_15, x_put_15, x_get_16, x_put_16, x_get_17, x_put_17, x_get_18, x_put_18, x_get_19, x_put_19, x_get_20, x_put_20, x_get_21, x_put_21, x_get_22, x_put_22, x_get_23, x_put_23, x_get_24, x_put_24, x_get_25, x_put_25, x_get_26, x_put_26, x_get_27, x_put_27, x_get_28, x_put_28, x_get_29, x_put_29, x_get_30, x_put_30, x_get_31, x_put_31, x_get_32, x_put_32, x_get_33, x_put_33, x_get_34, x_put_34, x_get_35, x_put_35, x_get_36, x_put_36, x_get_37, x_put_37, x_get_38, x_put_38, x_get_39, x_put_39, x_get_40, x_put_40, x_get_41, x_put_41, x_get_42, x_put_42, x_get_43, x_put_43, x_get_44, x_put_44, x_invS0, x_invV0, x_invS1, x_invV1, x_invS2, x_invV2, x_invS3, x_invV3, x_invS4, x_invV4, x_invS5, x_invV5, x_invS6, x_invV6, x_invS7, x_invV7, true_and, and_true, true_or, or_true, false_or, or_false, ne_eq, not_true_eq_false, not_false_eq_true, implies_true, true_implies, false_implies, Nat.zero_le, Nat.le_refl, Nat.sub_self, Nat.sub_zero, if_true, if_false, reduceIte, Nat.reduceAdd, Nat.reduceSub, Nat.reduceLeDiff, Nat.reduceLT, Nat.reduceEqDiff, Int.reduceEq, Int.reduceNeg, Int.reduceLT, Int.reduceLE]
        exact ih (len + 1) (by omega) _ _ hkeep (by omega) hvis.2 hW
  rw [hself]
  refine c_goes hG (f41 _) (f43 _) (f42 _) n1 n2 b1 b2 (L := (pw_low n 1).toNat) (f44 _) (by omega) (pw_low n 1).toNat _ 0 0 0 _ _ (by omega) (Int.le_refl _) (by omega) (Int.le_refl _) (by omega) (hrb _ (by rw [g128]; rfl)) ?_
  simp only [x_run, x_ci, x_cl, x_bin, x_dv, x_lbin, x_ldv, x_un, x_lcmp, x_lshl, x_dup0, x_dup2r, x_dup2, x_pop0, x_go, x_if1, x_if2, x_retf, x_rett, x_lret, x_vret, x_ald, x_bald, x_ast, x_bast, x_aast, x_oi, x_mx, x_acp, x_new, x_newa, x_anew, x_wt0, x_wti, x_wtl, x_wtr, x_lst4, x_lst8, x_ld0, x_st0, x_inc0, x_ld1, x_st1, x_inc1, x_ld2, x_st2, x_inc2, x_ld3, x_st3, x_inc3, x_ld4, x_st4, x_inc4, x_ld5, x_st5, x_inc5, x_ld6, x_st6, x_inc6, x_ld7, x_st7, x_inc7, x_ld8, x_st8, x_inc8, x_ld9, x_st9, x_inc9, x_ld10, x_st10, x_inc10, x_ld11, x_st11, x_inc11, x_ld12, x_st12, x_inc12, x_ld13, x_st13, x_inc13, x_get_0, x_put_0, x_get_1, x_put_1, x_get_2, x_put_2, x_get_3, x_put_3, x_get_4, x_put_4, x_get_5, x_put_5, x_get_6, x_put_6, x_get_7, x_put_7, x_get_8, x_put_8, x_get_9, x_put_9, x_get_10, x_put_10, x_get_11, x_put_11, x_get_12, x_put_12, x_get_13, x_put_13, x_get_14, x_put_14, x_get_15, x_put_15, x_get_16, x_put_16, x_get_17, x_put_17, x_get_18, x_put_18, x_get_19, x_put_19, x_get_20, x_put_20, x_get_21, x_put_21, x_get_22, x_put_22, x_get_23, x_put_23, x_get_24, x_put_24, x_get_25, x_put_25, x_get_26, x_put_26, x_get_27, x_put_27, x_get_28, x_put_28, x_get_29, x_put_29, x_get_30, x_put_30, x_get_31, x_put_31, x_get_32, x_put_32, x_get_33, x_put_33, x_get_34, x_put_34, x_get_35, x_put_35, x_get_36, x_put_36, x_get_37, x_put_37, x_get_38, x_put_38, x_get_39, x_put_39, x_get_40, x_put_40, x_get_41, x_put_41, x_get_42, x_put_42, x_get_43, x_put_43, x_get_44, x_put_44, x_invS0, x_invV0, x_invS1, x_invV1, x_invS2, x_invV2, x_invS3, x_invV3, x_invS4, x_invV4, x_invS5, x_invV5, x_invS6, x_invV6, x_invS7, x_invV7, true_and, and_true, true_or, or_true, false_or, or_false, ne_eq, not_true_eq_false, not_false_eq_true, implies_true, true_implies, false_implies, Nat.zero_le, Nat.le_refl, Nat.sub_self, Nat.sub_zero, if_true, if_false, reduceIte, Nat.reduceAdd, Nat.reduceSub, Nat.reduceLeDiff, Nat.reduceLT, Nat.reduceEqDiff, Int.reduceEq, Int.reduceNeg, Int.reduceLT, Int.reduceLE]
  refine loop (20 - (pw_low n 1).toNat) (pw_low n 1).toNat (by omega) 0 _ (by rw [g128]; rfl) (Int.le_refl _) (by omega) ?_
  rw [show 20 - (pw_low n 1).toNat + 1 = 21 - (pw_low n 1).toNat by omega, g128]
  exact hWr
end CMT
