/-! ===== the class Seeker (cell 89, row 90) ===== -/
theorem ms_sh63 : ∀ b : Nat, b < 64 → ((Int32.ofInt (b : Int)).toInt64 &&& 63).toBitVec.smod 64#64 = BitVec.ofNat 64 b := by decide +kernel
theorem wlshl_eq {a b : Int} (ha : 0 ≤ a) (hb0 : 0 ≤ b) (hb : b < 64) (h : a * 2 ^ b.toNat < 9223372036854775808) : wlshl a b = a * 2 ^ b.toNat := by
  have hs := ms_sh63 b.toNat (by omega)
  rw [show ((b.toNat : Nat) : Int) = b by omega] at hs
  have hp : (1 : Int) ≤ 2 ^ b.toNat := by
    have : (0 : Int) < 2 ^ b.toNat := Int.pow_pos (by omega)
    omega
  have ha1 : a ≤ a * 2 ^ b.toNat := by
    have := Int.mul_le_mul_of_nonneg_left hp ha
    rw [Int.mul_one] at this
    exact this
  have e : (Int64.ofInt a <<< ((Int32.ofInt b).toInt64 &&& 63)).toInt = ((Int64.ofInt a).toBitVec <<< (((Int32.ofInt b).toInt64 &&& 63).toBitVec.smod 64#64)).toInt := rfl
  unfold wlshl
  rw [e, hs, BitVec.shiftLeft_eq', BitVec.toInt_shiftLeft, BitVec.toNat_ofNat, Nat.mod_eq_of_lt (by omega)]
  have hn : (Int64.ofInt a).toBitVec.toNat = a.toNat := by
    rw [Int64.toBitVec_ofInt, BitVec.toNat_ofInt]
    have : a % ((2 ^ 64 : Nat) : Int) = a := Int.emod_eq_of_lt ha (by omega)
    rw [this]
  rw [hn, Nat.shiftLeft_eq]
  have e2 : ((a.toNat * 2 ^ b.toNat : Nat) : Int) = a * 2 ^ b.toNat := by
    rw [Int.natCast_mul, Int.natCast_pow, show ((a.toNat : Nat) : Int) = a by omega]
    rfl
  rw [e2]
  have e3 : ((2 : Nat) ^ 64) = 18446744073709551616 := rfl
  rw [e3]
  unfold Int.bmod
  simp only
  split <;> omega
/-- how it ended (0 back, 1 found, 2 given up), visits, the row, where it was found -/
abbrev pw_Vr : Type := Int × Int × (Int → Int) × Int
def pw_vl (S k last : Int) (rec : Int → (Int → Int) → pw_Vr) : Nat → Int → (Int → Int) → pw_Vr
  | 0, v, r => (0, v, r, 0)
  | m + 1, v, r => if S < last + r m then pw_vl S k last rec m v r else if (rec v (fun j => if j = k + 1 then last + r m else r j)).1 = 0 then pw_vl S k last rec m (rec v (fun j => if j = k + 1 then last + r m else r j)).2.1 (rec v (fun j => if j = k + 1 then last + r m else r j)).2.2.1 else rec v (fun j => if j = k + 1 then last + r m else r j)
def pw_vs (S B : Int) : Nat → Int → Int → (Int → Int) → pw_Vr
  | 0, k, v, r => if B ≤ v then (2, v, r, 0) else if r k = S then (1, v + 1, r, k) else (0, v + 1, r, 0)
  | f + 1, k, v, r => if B ≤ v then (2, v, r, 0) else if r k = S then (1, v + 1, r, k) else if r k * 2 ^ (f + 1) < S then (0, v + 1, r, 0) else pw_vl S k (r k) (pw_vs S B f (k + 1)) (k + 1).toNat (v + 1) r
/-- lengths from len on, m of them at most -/
def pw_sl (S B : Int) : Nat → Nat → Int → (Int → Int) → pw_Vr
  | 0, _, v, r => (0, v, r, 0)
  | m + 1, len, v, r => if (pw_vs S B len 0 v r).1 = 0 then pw_sl S B m (len + 1) (pw_vs S B len 0 v r).2.1 (pw_vs S B len 0 v r).2.2.1 else pw_vs S B len 0 v r
theorem pw_vl_keep {S k last : Int} {rec : Int → (Int → Int) → pw_Vr} (hrec : ∀ v r j, j ≤ k + 1 → (rec v r).2.2.1 j = r j) : ∀ (m : Nat) (v : Int) (r : Int → Int) (j : Int), j ≤ k → (pw_vl S k last rec m v r).2.2.1 j = r j
  | 0, v, r, j, hj => rfl
  | m + 1, v, r, j, hj => by
    unfold pw_vl
    split
    · exact pw_vl_keep hrec m v r j hj
    · split
      · rw [pw_vl_keep hrec m _ _ j hj, hrec _ _ j (by omega), if_neg (by omega)]
      · rw [hrec _ _ j (by omega), if_neg (by omega)]
theorem pw_vs_keep {S B : Int} : ∀ (f : Nat) (k v : Int) (r : Int → Int) (j : Int), j ≤ k → (pw_vs S B f k v r).2.2.1 j = r j
  | 0, k, v, r, j, hj => by
    unfold pw_vs
    split
    · rfl
    · split <;> rfl
  | f + 1, k, v, r, j, hj => by
    unfold pw_vs
    split
    · rfl
    · split
      · rfl
      · split
        · rfl
        · exact pw_vl_keep (fun v r j hj => pw_vs_keep f (k + 1) v r j hj) _ _ _ j hj
theorem pw_vl_vis {S k last B : Int} {rec : Int → (Int → Int) → pw_Vr} (hrec : ∀ v r, v ≤ B → v ≤ (rec v r).2.1 ∧ (rec v r).2.1 ≤ B) : ∀ (m : Nat) (v : Int) (r : Int → Int), v ≤ B → v ≤ (pw_vl S k last rec m v r).2.1 ∧ (pw_vl S k last rec m v r).2.1 ≤ B
  | 0, v, r, h => by simp [pw_vl, h]
  | m + 1, v, r, h => by
    unfold pw_vl
    split
    · exact pw_vl_vis hrec m v r h
    · have h1 := hrec v (fun j => if j = k + 1 then last + r m else r j) h
      split
      · have h2 := pw_vl_vis (S := S) (k := k) (last := last) hrec m (rec v (fun j => if j = k + 1 then last + r m else r j)).2.1 (rec v (fun j => if j = k + 1 then last + r m else r j)).2.2.1 h1.2
        omega
      · exact h1
theorem pw_vs_vis {S B : Int} : ∀ (f : Nat) (k v : Int) (r : Int → Int), v ≤ B → v ≤ (pw_vs S B f k v r).2.1 ∧ (pw_vs S B f k v r).2.1 ≤ B
  | 0, k, v, r, h => by
    unfold pw_vs
    split
    · simp [h]
    · split
      · simp only; omega
      · simp only; omega
  | f + 1, k, v, r, h => by
    unfold pw_vs
    split
    · simp [h]
    · split
      · simp only; omega
      · split
        · simp only; omega
        · have := pw_vl_vis (S := S) (k := k) (last := r k) (B := B) (rec := pw_vs S B f (k + 1)) (fun v r h => pw_vs_vis f (k + 1) v r h) (k + 1).toNat (v + 1) r (by omega)
          omega
def ms_sk (M : ms_M) (v fl : Int) (r : Int → Int) : ms_M := ms_up (ms_up (ms_nw M 90 r) 89 1 v) 89 2 fl
theorem sk_0 {M : ms_M} {v fl : Int} {r : Int → Int} : ms_sk M v fl r 89 0 = M 89 0 := by simp only [ms_sk, x_up, x_nw, true_and, and_true, false_and, and_false, and_self, Int.reduceEq, if_true, if_false, reduceIte]
theorem sk_1 {M : ms_M} {v fl : Int} {r : Int → Int} : ms_sk M v fl r 89 1 = v := by simp only [ms_sk, x_up, x_nw, true_and, and_true, false_and, and_false, and_self, Int.reduceEq, if_true, if_false, reduceIte]
theorem sk_2 {M : ms_M} {v fl : Int} {r : Int → Int} : ms_sk M v fl r 89 2 = fl := by simp only [ms_sk, x_up, x_nw, true_and, and_true, false_and, and_false, and_self, Int.reduceEq, if_true, if_false, reduceIte]
theorem sk_3 {M : ms_M} {v fl : Int} {r : Int → Int} : ms_sk M v fl r 89 3 = M 89 3 := by simp only [ms_sk, x_up, x_nw, true_and, and_true, false_and, and_false, and_self, Int.reduceEq, if_true, if_false, reduceIte]
theorem sk_4 {M : ms_M} {v fl : Int} {r : Int → Int} : ms_sk M v fl r 89 4 = M 89 4 := by simp only [ms_sk, x_up, x_nw, true_and, and_true, false_and, and_false, and_self, Int.reduceEq, if_true, if_false, reduceIte]
theorem sk_5 {M : ms_M} {v fl : Int} {r : Int → Int} : ms_sk M v fl r 89 5 = M 89 5 := by simp only [ms_sk, x_up, x_nw, true_and, and_true, false_and, and_false, and_self, Int.reduceEq, if_true, if_false, reduceIte]
theorem sk_r {M : ms_M} {v fl : Int} {r : Int → Int} : ms_sk M v fl r 90 = r := by
  funext j
  simp only [ms_sk, x_up, x_nw, true_and, and_true, false_and, and_false, and_self, Int.reduceEq, if_true, if_false, reduceIte]
theorem sk_rj {M : ms_M} {v fl j : Int} {r : Int → Int} : ms_sk M v fl r 90 j = r j := by rw [sk_r]
theorem sk_ne {M : ms_M} {v fl c : Int} {r : Int → Int} (h1 : c ≠ 89) (h2 : c ≠ 90) : ms_sk M v fl r c = M c := by
  unfold ms_sk
  rw [ms_up_row h1, ms_up_row h1, ms_nw_rne h2]
theorem sk_u1 {M : ms_M} {v fl v' : Int} {r : Int → Int} : ms_up (ms_sk M v fl r) 89 1 v' = ms_sk M v' fl r := by
  funext a j
  unfold ms_sk ms_up ms_nw
  by_cases h1 : a = 89
  · by_cases h2 : j = 1
    · subst h1; subst h2; simp
    · by_cases h3 : j = 2
      · subst h1; subst h3; simp
      · simp [h1, h2, h3]
  · simp [h1]
theorem sk_u2 {M : ms_M} {v fl fl' : Int} {r : Int → Int} : ms_up (ms_sk M v fl r) 89 2 fl' = ms_sk M v fl' r := by
  funext a j
  unfold ms_sk ms_up ms_nw
  by_cases h1 : a = 89
  · by_cases h3 : j = 2
    · subst h1; subst h3; simp
    · simp [h1, h3]
  · simp [h1]
theorem sk_ur {M : ms_M} {v fl i x : Int} {r : Int → Int} : ms_up (ms_sk M v fl r) 90 i x = ms_sk M v fl (fun j => if j = i then x else r j) := by
  funext a j
  unfold ms_sk ms_up ms_nw
  by_cases h1 : a = 90
  · subst h1
    by_cases h2 : j = i
    · simp [h2]
    · simp [h2]
  · simp [h1]
theorem pw_pcf_pos : ∀ (f : Nat) (n : Int), 1 ≤ n → n < 2 ^ f → 1 ≤ pw_pcf f n
  | 0, n, h1, h2 => by
    rw [Int.pow_zero] at h2
    omega
  | f + 1, n, h1, h2 => by
    simp only [pw_pcf]
    have h3 := pw_pc_in (n := n / 2) f (by omega)
    by_cases hn : 1 ≤ n / 2
    · have := pw_pcf_pos f (n / 2) hn (by rw [Int.pow_succ] at h2; omega)
      omega
    · omega
theorem pw_pc_pos {n : Int} (h1 : 1 ≤ n) (h2 : n ≤ 9999) : 1 ≤ pw_pc n := pw_pcf_pos 14 n h1 (by rw [show (2 : Int) ^ 14 = 16384 from rfl]; omega)
section CSK
variable {G : ms_G} {Γ : List ms_Sh} {M : ms_M} {d : Nat} {S B : Int}
set_option maxRecDepth 100000
set_option maxHeartbeats 4000000
theorem c_visit (hG : pw_G Γ) (h0 : M 89 0 = 90) (h3 : M 89 3 = S) (h4 : M 89 4 = B) (hS : 1 ≤ S) (hS2 : S ≤ 2047) (hB : 1 ≤ B) (hB2 : B ≤ 100000) {L : Nat} (h5 : M 89 5 = (L : Int)) (hL : L ≤ 20) : ∀ (f : Nat) (D : Nat) (k v fl : Int) (r : Int → Int) (Q : ms_Q), f + 1 ≤ D → 0 ≤ k → k + f = L → 0 ≤ v → v ≤ B → (∀ j, 0 ≤ j → j ≤ k → 1 ≤ r j ∧ r j ≤ S) → Q (0, (pw_vs S B f k v r).1) Γ (ms_sk M (pw_vs S B f k v r).2.1 (if (pw_vs S B f k v r).1 = 1 then (pw_vs S B f k v r).2.2.2 else fl) (pw_vs S B f k v r).2.2.1) → ms_Call G mX5_visit D 0 0 [(2, 89), (0, k)] Γ (ms_sk M v fl r) Q := by
  intro f
  induction f with
  | zero =>
    intro D k v fl r Q hD k0 hk v0 v1 hr K
    obtain ⟨D', rfl⟩ : ∃ D', D = D' + 1 := ⟨D - 1, by omega⟩
    have hrk := hr k k0 (by omega)
    refine ms_Call.of (ls := [(2, 89), (0, k), (3, 0), (3, 0), (3, 0), (3, 0)]) (by decide +kernel) (Nat.le_of_ble_eq_true rfl) rfl (fun hM hv => ?_)
    refine ms_gq (kX5_visit G Q D') rfl ?_
    simp only [x_run, x_ci, x_cl, x_bin, x_dv, x_lbin, x_ldv, x_un, x_lcmp, x_lshl, x_dup0, x_dup2r, x_dup2, x_pop0, x_go, x_if1, x_if2, x_retf, x_rett, x_lret, x_vret, x_ald, x_bald, x_ast, x_bast, x_aast, x_oi, x_mx, x_acp, x_new, x_newa, x_anew, x_wt0, x_wti, x_wtl, x_wtr, x_lst4, x_lst8, x_ld0, x_st0, x_inc0, x_ld1, x_st1, x_inc1, x_ld2, x_st2, x_inc2, x_ld3, x_st3, x_inc3, x_ld4, x_st4, x_inc4, x_ld5, x_st5, x_inc5, x_ld6, x_st6, x_inc6, x_ld7, x_st7, x_inc7, x_ld8, x_st8, x_inc8, x_ld9, x_st9, x_inc9, x_ld10, x_st10, x_inc10, x_ld11, x_st11, x_inc11, x_ld12, x_st12, x_inc12, x_ld13, x_st13, x_inc13, x_get_0, x_put_0, x_get_1, x_put_1, x_get_2, x_put_2, x_get_3, x_put_3, x_get_4, x_put_4, x_get_5, x_put_5, x_get_6, x_put_6, x_get_7, x_put_7, x_get_8, x_put_8, x_get_9, x_put_9, x_get_10, x_put_10, x_get_11, x_put_11, x_get_12, x_put_12, x_get_13, x_put_13, x_get_14, x_put_14, x_get_15, x_put_15, x_get_16, x_put_16, x_get_17, x_put_17, x_get_18, x_put_18, x_get_19, x_put_19, x_get_20, x_put_20, x_get_21, x_put_21, x_get_22, x_put_22, x_get_23, x_put_23, x_get_24, x_put_24, x_get_25, x_put_25, x_get_26, x_put_26, x_get_27, x_put_27, x_get_28, x_put_28, x_get_29, x_put_29, x_get_30, x_put_30, x_get_31, x_put_31, x_get_32, x_put_32, x_get_33, x_put_33, x_get_34, x_put_34, x_get_35, x_put_35, x_get_36, x_put_36, x_get_37, x_put_37, x_get_38, x_put_38, x_get_39, x_put_39, x_get_40, x_put_40, x_get_41, x_put_41, x_get_42, x_put_42, x_get_43, x_put_43, x_get_44, x_put_44, x_invS0, x_invV0, x_invS1, x_invV1, x_invS2, x_invV2, x_invS3, x_invV3, x_invS4, x_invV4, x_invS5, x_invV5, x_invS6, x_invV6, x_invS7, x_invV7, true_and, and_true, true_or, or_true, false_or, or_false, ne_eq, not_true_eq_false, not_false_eq_true, implies_true, true_implies, false_implies, Nat.zero_le, Nat.le_refl, Nat.sub_self, Nat.sub_zero, if_true, if_false, reduceIte, Nat.reduceAdd, Nat.reduceSub, Nat.reduceLeDiff, Nat.reduceLT, Nat.reduceEqDiff, Int.reduceEq, Int.reduceNeg, Int.reduceLT, Int.reduceLE, pw_k89 hG, sk_1, sk_4, h4]
    unfold pw_vs at K
    refine ⟨fun z => ms_gq (kX5_visit G Q D') rfl ?_, fun z => ?_⟩
    · rw [if_neg (by omega)] at K
      simp only [x_run, x_ci, x_cl, x_bin, x_dv, x_lbin, x_ldv, x_un, x_lcmp, x_lshl, x_dup0, x_dup2r, x_dup2, x_pop0, x_go, x_if1, x_if2, x_retf, x_rett, x_lret, x_vret, x_ald, x_bald, x_ast, x_bast, x_aast, x_oi, x_mx, x_acp, x_new, x_newa, x_anew, x_wt0, x_wti, x_wtl, x_wtr, x_lst4, x_lst8, x_ld0, x_st0, x_inc0, x_ld1, x_st1, x_inc1, x_ld2, x_st2, x_inc2, x_ld3, x_st3, x_inc3, x_ld4, x_st4, x_inc4, x_ld5, x_st5, x_inc5, x_ld6, x_st6, x_inc6, x_ld7, x_st7, x_inc7, x_ld8, x_st8, x_inc8, x_ld9, x_st9, x_inc9, x_ld10, x_st10, x_inc10, x_ld11, x_st11, x_inc11, x_ld12, x_st12, x_inc12, x_ld13, x_st13, x_inc13, x_get_0, x_put_0, x_get_1, x_put_1, x_get_2, x_put_2, x_get_3, x_put_3, x_get_4, x_put_4, x_get_5, x_put_5, x_get_6, x_put_6, x_get_7, x_put_7, x_get_8, x_put_8, x_get_9, x_put_9, x_get_10, x_put_10, x_get_11, x_put_11, x_get_12, x_put_12, x_get_13, x_put_13, x_get_14, x_put_14, x_get_15, x_put_15, x_get_16, x_put_16, x_get_17, x_put_17, x_get_18, x_put_18, x_get_19, x_put_19, x_get_20, x_put_20, x_get_21, x_put_21, x_get_22, x_put_22, x_get_23, x_put_23, x_get_24, x_put_24, x_get_25, x_put_25, x_get_26, x_put_26, x_get_27, x_put_27, x_get_28, x_put_28, x_get_29, x_put_29, x_get_30, x_put_30, x_get_31, x_put_31, x_get_32, x_put_32, x_get_33, x_put_33, x_get_34, x_put_34, x_get_35, x_put_35, x_get_36, x_put_36, x_get_37, x_put_37, x_get_38, x_put_38, x_get_39, x_put_39, x_get_40, x_put_40, x_get_41, x_put_41, x_get_42, x_put_42, x_get_43, x_put_43, x_get_44, x_put_44, x_invS0, x_invV0, x_invS1, x_invV1, x_invS2, x_invV2, x_invS3, x_invV3, x_invS4, x_invV4, x_invS5, x_invV5, x_invS6, x_invV6, x_invS7, x_invV7, true_and, and_true, true_or, or_true, false_or, or_false, ne_eq, not_true_eq_false, not_false_eq_true, implies_true, true_implies, false_implies, Nat.zero_le, Nat.le_refl, Nat.sub_self, Nat.sub_zero, if_true, if_false, reduceIte, Nat.reduceAdd, Nat.reduceSub, Nat.reduceLeDiff, Nat.reduceLT, Nat.reduceEqDiff, Int.reduceEq, Int.reduceNeg, Int.reduceLT, Int.reduceLE, pw_k89 hG, pw_k90 hG, pw_l90 hG, sk_0, sk_1, sk_3, sk_u1, sk_rj, sk_u2, h0, h3]
      rw [w32_id (by omega) (by omega)]
      refine ⟨by omega, by omega, fun z1 => ms_gq (kX5_visit G Q D') rfl ?_, fun z1 => ?_⟩
      · rw [if_neg z1] at K
        simp only [x_run, x_ci, x_cl, x_bin, x_dv, x_lbin, x_ldv, x_un, x_lcmp, x_lshl, x_dup0, x_dup2r, x_dup2, x_pop0, x_go, x_if1, x_if2, x_retf, x_rett, x_lret, x_vret, x_ald, x_bald, x_ast, x_bast, x_aast, x_oi, x_mx, x_acp, x_new, x_newa, x_anew, x_wt0, x_wti, x_wtl, x_wtr, x_lst4, x_lst8, x_ld0, x_st0, x_inc0, x_ld1, x_st1, x_inc1, x_ld2, x_st2, x_inc2, x_ld3, x_st3, x_inc3, x_ld4, x_st4, x_inc4, x_ld5, x_st5, x_inc5, x_ld6, x_st6, x_inc6, x_ld7, x_st7, x_inc7, x_ld8, x_st8, x_inc8, x_ld9, x_st9, x_inc9, x_ld10, x_st10, x_inc10, x_ld11, x_st11, x_inc11, x_ld12, x_st12, x_inc12, x_ld13, x_st13, x_inc13, x_get_0, x_put_0, x_get_1, x_put_1, x_get_2, x_put_2, x_get_3, x_put_3, x_get_4, x_put_4, x_get_5, x_put_5, x_get_6, x_put_6, x_get_7, x_put_7, x_get_8, x_put_8, x_get_9, x_put_9, x_get_10, x_put_10, x_get_11, x_put_11, x_get_12, x_put_12, x_get_13, x_put_13, x_get_14, x_put_14, x_get_15, x_put_15, x_get_16, x_put_16, x_get_17, x_put_17, x_get_18, x_put_18, x_get_19, x_put_19, x_get_20, x_put_20, x_get_21, x_put_21, x_get_22, x_put_22, x_get_23, x_put_23, x_get_24, x_put_24, x_get_25, x_put_25, x_get_26, x_put_26, x_get_27, x_put_27, x_get_28, x_put_28, x_get_29, x_put_29, x_get_30, x_put_30, x_get_31, x_put_31, x_get_32, x_put_32, x_get_33, x_put_33, x_get_34, x_put_34, x_get_35, x_put_35, x_get_36, x_put_36, x_get_37, x_put_37, x_get_38, x_put_38, x_get_39, x_put_39, x_get_40, x_put_40, x_get_41, x_put_41, x_get_42, x_put_42, x_get_43, x_put_43, x_get_44, x_put_44, x_invS0, x_invV0, x_invS1, x_invV1, x_invS2, x_invV2, x_invS3, x_invV3, x_invS4, x_invV4, x_invS5, x_invV5, x_invS6, x_invV6, x_invS7, x_invV7, true_and, and_true, true_or, or_true, false_or, or_false, ne_eq, not_true_eq_false, not_false_eq_true, implies_true, true_implies, false_implies, Nat.zero_le, Nat.le_refl, Nat.sub_self, Nat.sub_zero, if_true, if_false, reduceIte, Nat.reduceAdd, Nat.reduceSub, Nat.reduceLeDiff, Nat.reduceLT, Nat.reduceEqDiff, Int.reduceEq, Int.reduceNeg, Int.reduceLT, Int.reduceLE, pw_k89 hG, sk_5, h5]
        refine ⟨fun _ => ms_gq (kX5_visit G Q D') rfl ?_, fun z2 => absurd (by omega) z2⟩
        simp only [x_run, x_ci, x_cl, x_bin, x_dv, x_lbin, x_ldv, x_un, x_lcmp, x_lshl, x_dup0, x_dup2r, x_dup2, x_pop0, x_go, x_if1, x_if2, x_retf, x_rett, x_lret, x_vret, x_ald, x_bald, x_ast, x_bast, x_aast, x_oi, x_mx, x_acp, x_new, x_newa, x_anew, x_wt0, x_wti, x_wtl, x_wtr, x_lst4, x_lst8, x_ld0, x_st0, x_inc0, x_ld1, x_st1, x_inc1, x_ld2, x_st2, x_inc2, x_ld3, x_st3, x_inc3, x_ld4, x_st4, x_inc4, x_ld5, x_st5, x_inc5, x_ld6, x_st6, x_inc6, x_ld7, x_st7, x_inc7, x_ld8, x_st8, x_inc8, x_ld9, x_st9, x_inc9, x_ld10, x_st10, x_inc10, x_ld11, x_st11, x_inc11, x_ld12, x_st12, x_inc12, x_ld13, x_st13, x_inc13, x_get_0, x_put_0, x_get_1, x_put_1, x_get_2, x_put_2, x_get_3, x_put_3, x_get_4, x_put_4, x_get_5, x_put_5, x_get_6, x_put_6, x_get_7, x_put_7, x_get_8, x_put_8, x_get_9, x_put_9, x_get_10, x_put_10, x_get_11, x_put_11, x_get_12, x_put_12, x_get_13, x_put_13, x_get_14, x_put_14, x_get_15, x_put_15, x_get_16, x_put_16, x_get_17, x_put_17, x_get_18, x_put_18, x_get_19, x_put_19, x_get_20, x_put_20, x_get_21, x_put_21, x_get_22, x_put_22, x_get_23, x_put_23, x_get_24, x_put_24, x_get_25, x_put_25, x_get_26, x_put_26, x_get_27, x_put_27, x_get_28, x_put_28, x_get_29, x_put_29, x_get_30, x_put_30, x_get_31, x_put_31, x_get_32, x_put_32, x_get_33, x_put_33, x_get_34, x_put_34, x_get_35, x_put_35, x_get_36, x_put_36, x_get_37, x_put_37, x_get_38, x_put_38, x_get_39, x_put_39, x_get_40, x_put_40, x_get_41, x_put_41, x_get_42, x_put_42, x_get_43, x_put_43, x_get_44, x_put_44, x_invS0, x_invV0, x_invS1, x_invV1, x_invS2, x_invV2, x_invS3, x_invV3, x_invS4, x_invV4, x_invS5, x_invV5, x_invS6, x_invV6, x_invS7, x_invV7, true_and, and_true, true_or, or_true, false_or, or_false, ne_eq, not_true_eq_false, not_false_eq_true, implies_true, true_implies, false_implies, Nat.zero_le, Nat.le_refl, Nat.sub_self, Nat.sub_zero, if_true, if_false, reduceIte, Nat.reduceAdd, Nat.reduceSub, Nat.reduceLeDiff, Nat.reduceLT, Nat.reduceEqDiff, Int.reduceEq, Int.reduceNeg, Int.reduceLT, Int.reduceLE]
        exact K
      · rw [if_pos (by omega)] at K
        exact K
    · rw [if_pos (by omega)] at K
      exact K
  | succ f ih =>
    intro D k v fl r Q hD k0 hk v0 v1 hr K
    obtain ⟨D', rfl⟩ : ∃ D', D = D' + 1 := ⟨D - 1, by omega⟩
    have hrk := hr k k0 (by omega)
    have hpw : (1 : Int) ≤ 2 ^ (f + 1) ∧ (2 : Int) ^ (f + 1) ≤ 1048576 := by
      have h := pw_p2 (f + 1)
      refine ⟨by omega, ?_⟩
      have : (2 : Nat) ^ (f + 1) ≤ 2 ^ 20 := Nat.pow_le_pow_right (by omega) (by omega)
      have h2 : ((2 ^ (f + 1) : Nat) : Int) ≤ ((2 ^ 20 : Nat) : Int) := Int.ofNat_le.mpr this
      rw [Int.natCast_pow, Int.natCast_pow] at h2
      exact h2
    have hmul : 0 ≤ r k * 2 ^ (f + 1) ∧ r k * 2 ^ (f + 1) ≤ 2047 * 1048576 := ⟨Int.mul_nonneg (by omega) (by omega), Int.mul_le_mul (by omega) hpw.2 (by omega) (by omega)⟩
    refine ms_Call.of (ls := [(2, 89), (0, k), (3, 0), (3, 0), (3, 0), (3, 0)]) (by decide +kernel) (Nat.le_of_ble_eq_true rfl) rfl (fun hM hv => ?_)
    refine ms_gq (kX5_visit G Q D') rfl ?_
    simp only [x_run, x_ci, x_cl, x_bin, x_dv, x_lbin, x_ldv, x_un, x_lcmp, x_lshl, x_dup0, x_dup2r, x_dup2, x_pop0, x_go, x_if1, x_if2, x_retf, x_rett, x_lret, x_vret, x_ald, x_bald, x_ast, x_bast, x_aast, x_oi, x_mx, x_acp, x_new, x_newa, x_anew, x_wt0, x_wti, x_wtl, x_wtr, x_lst4, x_lst8, x_ld0, x_st0, x_inc0, x_ld1, x_st1, x_inc1, x_ld2, x_st2, x_inc2, x_ld3, x_st3, x_inc3, x_ld4, x_st4, x_inc4, x_ld5, x_st5, x_inc5, x_ld6, x_st6, x_inc6, x_ld7, x_st7, x_inc7, x_ld8, x_st8, x_inc8, x_ld9, x_st9, x_inc9, x_ld10, x_st10, x_inc10, x_ld11, x_st11, x_inc11, x_ld12, x_st12, x_inc12, x_ld13, x_st13, x_inc13, x_get_0, x_put_0, x_get_1, x_put_1, x_get_2, x_put_2, x_get_3, x_put_3, x_get_4, x_put_4, x_get_5, x_put_5, x_get_6, x_put_6, x_get_7, x_put_7, x_get_8, x_put_8, x_get_9, x_put_9, x_get_10, x_put_10, x_get_11, x_put_11, x_get_12, x_put_12, x_get_13, x_put_13, x_get_14, x_put_14, x_get_15, x_put_15, x_get_16, x_put_16, x_get_17, x_put_17, x_get_18, x_put_18, x_get_19, x_put_19, x_get_20, x_put_20, x_get_21, x_put_21, x_get_22, x_put_22, x_get_23, x_put_23, x_get_24, x_put_24, x_get_25, x_put_25, x_get_26, x_put_26, x_get_27, x_put_27, x_get_28, x_put_28, x_get_29, x_put_29, x_get_30, x_put_30, x_get_31, x_put_31, x_get_32, x_put_32, x_get_33, x_put_33, x_get_34, x_put_34, x_get_35, x_put_35, x_get_36, x_put_36, x_get_37, x_put_37, x_get_38, x_put_38, x_get_39, x_put_39, x_get_40, x_put_40, x_get_41, x_put_41, x_get_42, x_put_42, x_get_43, x_put_43, x_get_44, x_put_44, x_invS0, x_invV0, x_invS1, x_invV1, x_invS2, x_invV2, x_invS3, x_invV3, x_invS4, x_invV4, x_invS5, x_invV5, x_invS6, x_invV6, x_invS7, x_invV7, true_and, and_true, true_or, or_true, false_or, or_false, ne_eq, not_true_eq_false, not_false_eq_true, implies_true, true_implies, false_implies, Nat.zero_le, Nat.le_refl, Nat.sub_self, Nat.sub_zero, if_true, if_false, reduceIte, Nat.reduceAdd, Nat.reduceSub, Nat.reduceLeDiff, Nat.reduceLT, Nat.reduceEqDiff, Int.reduceEq, Int.reduceNeg, Int.reduceLT, Int.reduceLE, pw_k89 hG, sk_1, sk_4, h4]
    unfold pw_vs at K
    refine ⟨fun z => ms_gq (kX5_visit G Q D') rfl ?_, fun z => ?_⟩
    · rw [if_neg (by omega)] at K
      simp only [x_run, x_ci, x_cl, x_bin, x_dv, x_lbin, x_ldv, x_un, x_lcmp, x_lshl, x_dup0, x_dup2r, x_dup2, x_pop0, x_go, x_if1, x_if2, x_retf, x_rett, x_lret, x_vret, x_ald, x_bald, x_ast, x_bast, x_aast, x_oi, x_mx, x_acp, x_new, x_newa, x_anew, x_wt0, x_wti, x_wtl, x_wtr, x_lst4, x_lst8, x_ld0, x_st0, x_inc0, x_ld1, x_st1, x_inc1, x_ld2, x_st2, x_inc2, x_ld3, x_st3, x_inc3, x_ld4, x_st4, x_inc4, x_ld5, x_st5, x_inc5, x_ld6, x_st6, x_inc6, x_ld7, x_st7, x_inc7, x_ld8, x_st8, x_inc8, x_ld9, x_st9, x_inc9, x_ld10, x_st10, x_inc10, x_ld11, x_st11, x_inc11, x_ld12, x_st12, x_inc12, x_ld13, x_st13, x_inc13, x_get_0, x_put_0, x_get_1, x_put_1, x_get_2, x_put_2, x_get_3, x_put_3, x_get_4, x_put_4, x_get_5, x_put_5, x_get_6, x_put_6, x_get_7, x_put_7, x_get_8, x_put_8, x_get_9, x_put_9, x_get_10, x_put_10, x_get_11, x_put_11, x_get_12, x_put_12, x_get_13, x_put_13, x_get_14, x_put_14, x_get_15, x_put_15, x_get_16, x_put_16, x_get_17, x_put_17, x_get_18, x_put_18, x_get_19, x_put_19, x_get_20, x_put_20, x_get_21, x_put_21, x_get_22, x_put_22, x_get_23, x_put_23, x_get_24, x_put_24, x_get_25, x_put_25, x_get_26, x_put_26, x_get_27, x_put_27, x_get_28, x_put_28, x_get_29, x_put_29, x_get_30, x_put_30, x_get_31, x_put_31, x_get_32, x_put_32, x_get_33, x_put_33, x_get_34, x_put_34, x_get_35, x_put_35, x_get_36, x_put_36, x_get_37, x_put_37, x_get_38, x_put_38, x_get_39, x_put_39, x_get_40, x_put_40, x_get_41, x_put_41, x_get_42, x_put_42, x_get_43, x_put_43, x_get_44, x_put_44, x_invS0, x_invV0, x_invS1, x_invV1, x_invS2, x_invV2, x_invS3, x_invV3, x_invS4, x_invV4, x_invS5, x_invV5, x_invS6, x_invV6, x_invS7, x_invV7, true_and, and_true, true_or, or_true, false_or, or_false, ne_eq, not_true_eq_false, not_false_eq_true, implies_true, true_implies, false_implies, Nat.zero_le, Nat.le_refl, Nat.sub_self, Nat.sub_zero, if_true, if_false, reduceIte, Nat.reduceAdd, Nat.reduceSub, Nat.reduceLeDiff, Nat.reduceLT, Nat.reduceEqDiff, Int.reduceEq, Int.reduceNeg, Int.reduceLT, Int.reduceLE, pw_k89 hG, pw_k90 hG, pw_l90 hG, sk_0, sk_1, sk_3, sk_u1, sk_rj, sk_u2, h0, h3]
      rw [w32_id (by omega) (by omega)]
      refine ⟨by omega, by omega, fun z1 => ms_gq (kX5_visit G Q D') rfl ?_, fun z1 => ?_⟩
      · rw [if_neg z1] at K
        simp only [x_run, x_ci, x_cl, x_bin, x_dv, x_lbin, x_ldv, x_un, x_lcmp, x_lshl, x_dup0, x_dup2r, x_dup2, x_pop0, x_go, x_if1, x_if2, x_retf, x_rett, x_lret, x_vret, x_ald, x_bald, x_ast, x_bast, x_aast, x_oi, x_mx, x_acp, x_new, x_newa, x_anew, x_wt0, x_wti, x_wtl, x_wtr, x_lst4, x_lst8, x_ld0, x_st0, x_inc0, x_ld1, x_st1, x_inc1, x_ld2, x_st2, x_inc2, x_ld3, x_st3, x_inc3, x_ld4, x_st4, x_inc4, x_ld5, x_st5, x_inc5, x_ld6, x_st6, x_inc6, x_ld7, x_st7, x_inc7, x_ld8, x_st8, x_inc8, x_ld9, x_st9, x_inc9, x_ld10, x_st10, x_inc10, x_ld11, x_st11, x_inc11, x_ld12, x_st12, x_inc12, x_ld13, x_st13, x_inc13, x_get_0, x_put_0, x_get_1, x_put_1, x_get_2, x_put_2, x_get_3, x_put_3, x_get_4, x_put_4, x_get_5, x_put_5, x_get_6, x_put_6, x_get_7, x_put_7, x_get_8, x_put_8, x_get_9, x_put_9, x_get_10, x_put_10, x_get_11, x_put_11, x_get_12, x_put_12, x_get_13, x_put_13, x_get_14, x_put_14, x_get_15, x_put_15, x_get_16, x_put_16, x_get_17, x_put_17, x_get_18, x_put_18, x_get_19, x_put_19, x_get_20, x_put_20, x_get_21, x_put_21, x_get_22, x_put_22, x_get_23, x_put_23, x_get_24, x_put_24, x_get_25, x_put_25, x_get_26, x_put_26, x_get_27, x_put_27, x_get_28, x_put_28, x_get_29, x_put_29, x_get_30, x_put_30, x_get_31, x_put_31, x_get_32, x_put_32, x_get_33, x_put_33, x_get_34, x_put_34, x_get_35, x_put_35, x_get_36, x_put_36, x_get_37, x_put_37, x_get_38, x_put_38, x_get_39, x_put_39, x_get_40, x_put_40, x_get_41, x_put_41, x_get_42, x_put_42, x_get_43, x_put_43, x_get_44, x_put_44, x_invS0, x_invV0, x_invS1, x_invV1, x_invS2, x_invV2, x_invS3, x_invV3, x_invS4, x_invV4, x_invS5, x_invV5, x_invS6, x_invV6, x_invS7, x_invV7, true_and, and_true, true_or, or_true, false_or, or_false, ne_eq, not_true_eq_false, not_false_eq_true, implies_true, true_implies, false_implies, Nat.zero_le, Nat.le_refl, Nat.sub_self, Nat.sub_zero, if_true, if_false, reduceIte, Nat.reduceAdd, Nat.reduceSub, Nat.reduceLeDiff, Nat.reduceLT, Nat.reduceEqDiff, Int.reduceEq, Int.reduceNeg, Int.reduceLT, Int.reduceLE, pw_k89 hG, sk_5, sk_3, h5, h3]
        rw [w32_id (by omega) (by omega)]
        have hlk : ((L : Int) - k).toNat = f + 1 := by omega
        rw [wlshl_eq (by omega) (by omega) (by omega) (by rw [hlk]; omega), hlk]
        have hcmp : (0 ≤ wcmp (r k * 2 ^ (f + 1)) S) ↔ ¬ (r k * 2 ^ (f + 1) < S) := by unfold wcmp; split <;> (try split) <;> omega
        rw [hcmp]
        have r73 : Q (0, 0) Γ (ms_sk M (v + 1) fl r) → ms_At G Q mX5_visit (D' + 1) 0 0 73 [(2, 89), (0, k), (2, 90), (0, r k), (3, 0), (3, 0)] [] Γ (ms_sk M (v + 1) fl r) := fun h => ms_gq (kX5_visit G Q D') rfl (by simp only [x_run, x_ci, x_cl, x_bin, x_dv, x_lbin, x_ldv, x_un, x_lcmp, x_lshl, x_dup0, x_dup2r, x_dup2, x_pop0, x_go, x_if1, x_if2, x_retf, x_rett, x_lret, x_vret, x_ald, x_bald, x_ast, x_bast, x_aast, x_oi, x_mx, x_acp, x_new, x_newa, x_anew, x_wt0, x_wti, x_wtl, x_wtr, x_lst4, x_lst8, x_ld0, x_st0, x_inc0, x_ld1, x_st1, x_inc1, x_ld2, x_st2, x_inc2, x_ld3, x_st3, x_inc3, x_ld4, x_st4, x_inc4, x_ld5, x_st5, x_inc5, x_ld6, x_st6, x_inc6, x_ld7, x_st7, x_inc7, x_ld8, x_st8, x_inc8, x_ld9, x_st9, x_inc9, x_ld10, x_st10, x_inc10, x_ld11, x_st11, x_inc11, x_ld12, x_st12, x_inc12, x_ld13, x_st13, x_inc13, x_get_0, x_put_0, x_get_1, x_put_1, x_get_2, x_put_2, x_get_3, x_put_3, x_get_4, x_put_4, x_get_5, x_put_5, x_get_6, x_put_6, x_get_7, x_put_7, x_get_8, x_put_8, x_get_9, x_put_9, x_get_10, x_put_10, x_get_11, x_put_11, x_get_12, x_put_12, x_get_13, x_put_13, x_get_14, x_put_14, x_get_15, x_put_15, x_get_16, x_put_16, x_get_17, x_put_17, x_get_18, x_put_18, x_get_19, x_put_19, x_get_20, x_put_20, x_get_21, x_put_21, x_get_22, x_put_22, x_get_23, x_put_23, x_get_24, x_put_24, x_get_25, x_put_25, x_get_26, x_put_26, x_get_27, x_put_27, x_get_28, x_put_28, x_get_29, x_put_29, x_get_30, x_put_30, x_get_31, x_put_31, x_get_32, x_put_32, x_get_33, x_put_33, x_get_34, x_put_34, x_get_35, x_put_35, x_get_36, x_put_36, x_get_37, x_put_37, x_get_38, x_put_38, x_get_39, x_put_39, x_get_40, x_put_40, x_get_41, x_put_41, x_get_42, x_put_42, x_get_43, x_put_43, x_get_44, x_put_44, x_invS0, x_invV0, x_invS1, x_invV1, x_invS2, x_invV2, x_invS3, x_invV3, x_invS4, x_invV4, x_invS5, x_invV5, x_invS6, x_invV6, x_invS7, x_invV7, true_and, and_true, true_or, or_true, false_or, or_false, ne_eq, not_true_eq_false, not_false_eq_true, implies_true, true_implies, false_implies, Nat.zero_le, Nat.le_refl, Nat.sub_self, Nat.sub_zero, if_true, if_false, reduceIte, Nat.reduceAdd, Nat.reduceSub, Nat.reduceLeDiff, Nat.reduceLT, Nat.reduceEqDiff, Int.reduceEq, Int.reduceNeg, Int.reduceLT, Int.reduceLE]; exact h)
        refine ⟨fun z2 => absurd z2 (by omega), fun _ => ⟨fun z2 => ms_gq (kX5_visit G Q D') rfl ?_, fun z2 => r73 ?_⟩⟩
        · rw [if_neg z2] at K
          simp only [x_run, x_ci, x_cl, x_bin, x_dv, x_lbin, x_ldv, x_un, x_lcmp, x_lshl, x_dup0, x_dup2r, x_dup2, x_pop0, x_go, x_if1, x_if2, x_retf, x_rett, x_lret, x_vret, x_ald, x_bald, x_ast, x_bast, x_aast, x_oi, x_mx, x_acp, x_new, x_newa, x_anew, x_wt0, x_wti, x_wtl, x_wtr, x_lst4, x_lst8, x_ld0, x_st0, x_inc0, x_ld1, x_st1, x_inc1, x_ld2, x_st2, x_inc2, x_ld3, x_st3, x_inc3, x_ld4, x_st4, x_inc4, x_ld5, x_st5, x_inc5, x_ld6, x_st6, x_inc6, x_ld7, x_st7, x_inc7, x_ld8, x_st8, x_inc8, x_ld9, x_st9, x_inc9, x_ld10, x_st10, x_inc10, x_ld11, x_st11, x_inc11, x_ld12, x_st12, x_inc12, x_ld13, x_st13, x_inc13, x_get_0, x_put_0, x_get_1, x_put_1, x_get_2, x_put_2, x_get_3, x_put_3, x_get_4, x_put_4, x_get_5, x_put_5, x_get_6, x_put_6, x_get_7, x_put_7, x_get_8, x_put_8, x_get_9, x_put_9, x_get_10, x_put_10, x_get_11, x_put_11, x_get_12, x_put_12, x_get_13, x_put_13, x_get_14, x_put_14, x_get_15, x_put_15, x_get_16, x_put_16, x_get_17, x_put_17, x_get_18, x_put_18, x_get_19, x_put_19, x_get_20, x_put_20, x_get_21, x_put_21, x_get_22, x_put_22, x_get_23, x_put_23, x_get_24, x_put_24, x_get_25, x_put_25, x_get_26, x_put_26, x_get_27, x_put_27, x_get_28, x_put_28, x_get_29, x_put_29, x_get_30, x_put_30, x_get_31, x_put_31, x_get_32, x_put_32, x_get_33, x_put_33, x_get_34, x_put_34, x_get_35, x_put_35, x_get_36, x_put_36, x_get_37, x_put_37, x_get_38, x_put_38, x_get_39, x_put_39, x_get_40, x_put_40, x_get_41, x_put_41, x_get_42, x_put_42, x_get_43, x_put_43, x_get_44, x_put_44, x_invS0, x_invV0, x_invS1, x_invV1, x_invS2, x_invV2, x_invS3, x_invV3, x_invS4, x_invV4, x_invS5, x_invV5, x_invS6, x_invV6, x_invS7, x_invV7, true_and, and_true, true_or, or_true, false_or, or_false, ne_eq, not_true_eq_false, not_false_eq_true, implies_true, true_implies, false_implies, Nat.zero_le, Nat.le_refl, Nat.sub_self, Nat.sub_zero, if_true, if_false, reduceIte, Nat.reduceAdd, Nat.reduceSub, Nat.reduceLeDiff, Nat.reduceLT, Nat.reduceEqDiff, Int.reduceEq, Int.reduceNeg, Int.reduceLT, Int.reduceLE]
          generalize hW : pw_vl S k (r k) (pw_vs S B f (k + 1)) (k + 1).toNat (v + 1) r = Wr at K
          have loop := pw_dn (lo := -1) (p := fun i => i ≤ k → ∀ (v' fl' e : Int) (r' : Int → Int), 0 ≤ v' → v' ≤ B → (∀ j, j ≤ k → r' j = r j) → (e = 0 → fl' = fl ∧ pw_vl S k (r k) (pw_vs S B f (k + 1)) (i + 1).toNat v' r' = Wr) → (e ≠ 0 → Q (0, e) Γ (ms_sk M v' fl' r')) → ms_At G Q mX5_visit (D' + 1) 0 0 81 [(2, 89), (0, k), (2, 90), (0, r k), (0, e), (0, i)] [] Γ (ms_sk M v' fl' r')) (by
            intro i hi ihi hik v' fl' e r' hv0 hv1 hrr he0 he1
            have r130 : ms_At G Q mX5_visit (D' + 1) 0 0 130 [(2, 89), (0, k), (2, 90), (0, r k), (0, e), (0, i)] [] Γ (ms_sk M v' fl' r') ∨ (0 ≤ i ∧ e = 0) := by
              by_cases hx : 0 ≤ i ∧ e = 0
              · exact Or.inr hx
              · refine Or.inl (ms_gq (kX5_visit G Q D') rfl ?_)
                simp only [x_run, x_ci, x_cl, x_bin, x_dv, x_lbin, x_ldv, x_un, x_lcmp, x_lshl, x_dup0, x_dup2r, x_dup2, x_pop0, x_go, x_if1, x_if2, x_retf, x_rett, x_lret, x_vret, x_ald, x_bald, x_ast, x_bast, x_aast, x_oi, x_mx, x_acp, x_new, x_newa, x_anew, x_wt0, x_wti, x_wtl, x_wtr, x_lst4, x_lst8, x_ld0, x_st0, x_inc0, x_ld1, x_st1, x_inc1, x_ld2, x_st2, x_inc2, x_ld3, x_st3, x_inc3, x_ld4, x_st4, x_inc4, x_ld5, x_st5, x_inc5, x_ld6, x_st6, x_inc6, x_ld7, x_st7, x_inc7, x_ld8, x_st8, x_inc8, x_ld9, x_st9, x_inc9, x_ld10, x_st10, x_inc10, x_ld11, x_st11, x_inc11, x_ld12, x_st12, x_inc12, x_ld13, x_st13, x_inc13, x_get_0, x_put_0, x_get_1, x_put_1, x_get_2, x_put_2, x_get_3, x_put_3, x_get_4, x_put_4, x_get_5, x_put_5, x_get_6, x_put_6, x_get_7, x_put_7, x_get_8, x_put_8, x_get_9, x_put_9, x_get_10, x_put_10, x_get_11, x_put_11, x_get_12, x_put_12, x_get_13, x_put_13, x_get_14, x_put_14, x_get_15, x_put_15, x_get_16, x_put_16, x_get_17, x_put_17, x_get_18, x_put_18, x_get_19, x_put_19, x_get_20, x_put_20, x_get_21, x_put_21, x_get_22, x_put_22, x_get_23, x_put_23, x_get_24, x_put_24, x_get_25, x_put_25, x_get_26, x_put_26, x_get_27, x_put_27, x_get_28, x_put_28, x_get_29, x_put_29, x_get_30, x_put_30, x_get_31, x_put_31, x_get_32, x_put_32, x_get_33, x_put_33, x_get_34, x_put_34, x_get_35, x_put_35, x_get_36, x_put_36, x_get_37, x_put_37, x_get_38, x_put_38, x_get_39, x_put_39, x_get_40, x_put_40, x_get_41, x_put_41, x_get_42, x_put_42, x_get_43, x_put_43, x_get_44, x_put_44, x_invS0, x_invV0, x_invS1, x_invV1, x_invS2, x_invV2, x_invS3, x_invV3, x_invS4, x_invV4, x_invS5, x_invV5, x_invS6, x_invV6, x_invS7, x_invV7, true_and, and_true, true_or, or_true, false_or, or_false, ne_eq, not_true_eq_false, not_false_eq_true, implies_true, true_implies, false_implies, Nat.zero_le, Nat.le_refl, Nat.sub_self, Nat.sub_zero, if_true, if_false, reduceIte, Nat.reduceAdd, Nat.reduceSub, Nat.reduceLeDiff, Nat.reduceLT, Nat.reduceEqDiff, Int.reduceEq, Int.reduceNeg, Int.reduceLT, Int.reduceLE]
                by_cases hee : e = 0
                · obtain ⟨q1, q2⟩ := he0 hee
                  rw [show (i + 1).toNat = 0 by omega] at q2
                  have q3 : Wr = (0, v', r', 0) := q2.symm
                  rw [q3] at K
                  simp only [if_neg (show ¬ ((0 : Int) = 1) by omega)] at K
                  rw [hee, q1]
                  exact K
                · exact he1 hee
            refine ms_gq (kX5_visit G Q D') rfl ?_
            simp only [x_run, x_ci, x_cl, x_bin, x_dv, x_lbin, x_ldv, x_un, x_lcmp, x_lshl, x_dup0, x_dup2r, x_dup2, x_pop0, x_go, x_if1, x_if2, x_retf, x_rett, x_lret, x_vret, x_ald, x_bald, x_ast, x_bast, x_aast, x_oi, x_mx, x_acp, x_new, x_newa, x_anew, x_wt0, x_wti, x_wtl, x_wtr, x_lst4, x_lst8, x_ld0, x_st0, x_inc0, x_ld1, x_st1, x_inc1, x_ld2, x_st2, x_inc2, x_ld3, x_st3, x_inc3, x_ld4, x_st4, x_inc4, x_ld5, x_st5, x_inc5, x_ld6, x_st6, x_inc6, x_ld7, x_st7, x_inc7, x_ld8, x_st8, x_inc8, x_ld9, x_st9, x_inc9, x_ld10, x_st10, x_inc10, x_ld11, x_st11, x_inc11, x_ld12, x_st12, x_inc12, x_ld13, x_st13, x_inc13, x_get_0, x_put_0, x_get_1, x_put_1, x_get_2, x_put_2, x_get_3, x_put_3, x_get_4, x_put_4, x_get_5, x_put_5, x_get_6, x_put_6, x_get_7, x_put_7, x_get_8, x_put_8, x_get_9, x_put_9, x_get_10, x_put_10, x_get_11, x_put_11, x_get_12, x_put_12, x_get_13, x_put_13, x_get_14, x_put_14, x_get_15, x_put_15, x_get_16, x_put_16, x_get_17, x_put_17, x_get_18, x_put_18, x_get_19, x_put_19, x_get_20, x_put_20, x_get_21, x_put_21, x_get_22, x_put_22, x_get_23, x_put_23, x_get_24, x_put_24, x_get_25, x_put_25, x_get_26, x_put_26, x_get_27, x_put_27, x_get_28, x_put_28, x_get_29, x_put_29, x_get_30, x_put_30, x_get_31, x_put_31, x_get_32, x_put_32, x_get_33, x_put_33, x_get_34, x_put_34, x_get_35, x_put_35, x_get_36, x_put_36, x_get_37, x_put_37, x_get_38, x_put_38, x_get_39, x_put_39, x_get_40, x_put_40, x_get_41, x_put_41, x_get_42, x_put_42, x_get_43, x_put_43, x_get_44, x_put_44, x_invS0, x_invV0, x_invS1, x_invV1, x_invS2, x_invV2, x_invS3, x_invV3, x_invS4, x_invV4, x_invS5, x_invV5, x_invS6, x_invV6, x_invS7, x_invV7, true_and, and_true, true_or, or_true, false_or, or_false, ne_eq, not_true_eq_false, not_false_eq_true, implies_true, true_implies, false_implies, Nat.zero_le, Nat.le_refl, Nat.sub_self, Nat.sub_zero, if_true, if_false, reduceIte, Nat.reduceAdd, Nat.reduceSub, Nat.reduceLeDiff, Nat.reduceLT, Nat.reduceEqDiff, Int.reduceEq, Int.reduceNeg, Int.reduceLT, Int.reduceLE, pw_k89 hG, pw_k90 hG, pw_l90 hG, sk_3, sk_rj, h3]
            refine ⟨fun z3 => r130.elim id (fun q => absurd z3 (by omega)), fun z3 => ⟨fun z4 => r130.elim id (fun q => absurd q.2 z4), fun z4 => ?_⟩⟩
            have hee : e = 0 := by omega
            obtain ⟨q1, q2⟩ := he0 hee
            have e1 : (i + 1).toNat = i.toNat + 1 := by omega
            rw [e1] at q2
            unfold pw_vl at q2
            rw [show ((i.toNat : Nat) : Int) = i by omega] at q2
            have hri := hr i (by omega) (by omega)
            have hrri := hrr i (by omega)
            rw [w32_id (x := r k + r' i) (by omega) (by omega)]
            have r124 : ∀ (v2 fl2 e2 : Int) (r2 : Int → Int), 0 ≤ v2 → v2 ≤ B → (∀ j, j ≤ k → r2 j = r j) → (e2 = 0 → fl2 = fl ∧ pw_vl S k (r k) (pw_vs S B f (k + 1)) i.toNat v2 r2 = Wr) → (e2 ≠ 0 → Q (0, e2) Γ (ms_sk M v2 fl2 r2)) → ms_At G Q mX5_visit (D' + 1) 0 0 124 [(2, 89), (0, k), (2, 90), (0, r k), (0, e2), (0, i)] [] Γ (ms_sk M v2 fl2 r2) := by
              intro v2 fl2 e2 r2 g1 g2 g3 g4 g5
              refine ms_gq (kX5_visit G Q D') rfl ?_
              simp only [x_run, x_ci, x_cl, x_bin, x_dv, x_lbin, x_ldv, x_un, x_lcmp, x_lshl, x_dup0, x_dup2r, x_dup2, x_pop0, x_go, x_if1, x_if2, x_retf, x_rett, x_lret, x_vret, x_ald, x_bald, x_ast, x_bast, x_aast, x_oi, x_mx, x_acp, x_new, x_newa, x_anew, x_wt0, x_wti, x_wtl, x_wtr, x_lst4, x_lst8, x_ld0, x_st0, x_inc0, x_ld1, x_st1, x_inc1, x_ld2, x_st2, x_inc2, x_ld3, x_st3, x_inc3, x_ld4, x_st4, x_inc4, x_ld5, x_st5, x_inc5, x_ld6, x_st6, x_inc6, x_ld7, x_st7, x_inc7, x_ld8, x_st8, x_inc8, x_ld9, x_st9, x_inc9, x_ld10, x_st10, x_inc10, x_ld11, x_st11, x_inc11, x_ld12, x_st12, x_inc12, x_ld13, x_st13, x_inc13, x_get_0, x_put_0, x_get_1, x_put_1, x_get_2, x_put_2, x_get_3, x_put_3, x_get_4, x_put_4, x_get_5, x_put_5, x_get_6, x_put_6, x_get_7, x_put_7, x_get_8, x_put_8, x_get_9, x_put_9, x_get_10, x_put_10, x_get_11, x_put_11, x_get_12, x_put_12, x_get_13, x_put_13, x_get_14, x_put_14, x_get_15, x_put_15, x_get_16, x_put_16, x_get_17, x_put_17, x_get_18, x_put_18, x_get_19, x_put_19, x_get_20, x_put_20, x_get_21, x_put_21, x_get_22, x_put_22, x_get_23, x_put_23, x_get_24, x_put_24, x_get_25, x_put_25, x_get_26, x_put_26, x_get_27, x_put_27, x_get_28, x_put_28, x_get_29, x_put_29, x_get_30, x_put_30, x_get_31, x_put_31, x_get_32, x_put_32, x_get_33, x_put_33, x_get_34, x_put_34, x_get_35, x_put_35, x_get_36, x_put_36, x_get_37, x_put_37, x_get_38, x_put_38, x_get_39, x_put_39, x_get_40, x_put_40, x_get_41, x_put_41, x_get_42, x_put_42, x_get_43, x_put_43, x_get_44, x_put_44, x_invS0, x_invV0, x_invS1, x_invV1, x_invS2, x_invV2, x_invS3, x_invV3, x_invS4, x_invV4, x_invS5, x_invV5, x_invS6, x_invV6, x_invS7, x_invV7, true_and, and_true, true_or, or_true, false_or, or_false, ne_eq, not_true_eq_false, not_false_eq_true, implies_true, true_implies, false_implies, Nat.zero_le, Nat.le_refl, Nat.sub_self, Nat.sub_zero, if_true, if_false, reduceIte, Nat.reduceAdd, Nat.reduceSub, Nat.reduceLeDiff, Nat.reduceLT, Nat.reduceEqDiff, Int.reduceEq, Int.reduceNeg, Int.reduceLT, Int.reduceLE]
              rw [w32_id (by omega) (by omega), show i + -1 = i - 1 by omega]
              exact ihi (i - 1) (by omega) (by omega) (by omega) v2 fl2 e2 r2 g1 g2 g3 (fun q => by rw [show (i - 1 + 1).toNat = i.toNat by omega]; exact g4 q) g5
            refine ⟨by omega, by omega, fun z5 => ?_, fun z5 => ?_⟩
            · rw [if_pos z5] at q2
              exact r124 v' fl' e r' hv0 hv1 hrr (fun _ => ⟨q1, q2⟩) he1
            · rw [if_neg z5] at q2
              rw [w32_id (x := k + 1) (by omega) (by omega), sk_ur]
              refine ⟨by omega, by omega, by omega, by omega, ih D' (k + 1) v' fl' _ _ (by omega) (by omega) (by omega) hv0 hv1 (fun j j0 j1 => ?_) ?_⟩
              · by_cases hj : j = k + 1
                · simp only [if_pos hj]; omega
                · simp only [if_neg hj]
                  rw [hrr j (by omega)]
                  exact hr j j0 (by omega)
              · have hvis := pw_vs_vis (S := S) (B := B) f (k + 1) v' (fun j => if j = k + 1 then r k + r' i else r' j) hv1
                simp only [x_run, x_ci, x_cl, x_bin, x_dv, x_lbin, x_ldv, x_un, x_lcmp, x_lshl, x_dup0, x_dup2r, x_dup2, x_pop0, x_go, x_if1, x_if2, x_retf, x_rett, x_lret, x_vret, x_ald, x_bald, x_ast, x_bast, x_aast, x_oi, x_mx, x_acp, x_new, x_newa, x_anew, x_wt0, x_wti, x_wtl, x_wtr, x_lst4, x_lst8, x_ld0, x_st0, x_inc0, x_ld1, x_st1, x_inc1, x_ld2, x_st2, x_inc2, x_ld3, x_st3, x_inc3, x_ld4, x_st4, x_inc4, x_ld5, x_st5, x_inc5, x_ld6, x_st6, x_inc6, x_ld7, x_st7, x_inc7, x_ld8, x_st8, x_inc8, x_ld9, x_st9, x_inc9, x_ld10, x_st10, x_inc10, x_ld11, x_st11, x_inc11, x_ld12, x_st12, x_inc12, x_ld13, x_st13, x_inc13, x_get_0, x_put_0, x_get_1, x_put_1, x_get_2, x_put_2, x_get_3, x_put_3, x_get_4, x_put_4, x_get_5, x_put_5, x_get_6, x_put_6, x_get_7, x_put_7, x_get_8, x_put_8, x_get_9, x_put_9, x_get_10, x_put_10, x_get_11, x_put_11, x_get_12, x_put_12, x_get_13, x_put_13, x_get_14, x_put_14, x_get_15, x_put_15, x_get_16, x_put_16, x_get_17, x_put_17, x_get_18, x_put_18, x_get_19, x_put_19, x_get_20, x_put_20, x_get_21, x_put_21, x_get_22, x_put_22, x_get_23, x_put_23, x_get_24, x_put_24, x_get_25, x_put_25, x_get_26, x_put_26, x_get_27, x_put_27, x_get_28, x_put_28, x_get_29, x_put_29, x_get_30, x_put_30, x_get_31, x_put_31, x_get_32, x_put_32, x_get_33, x_put_33, x_get_34, x_put_34, x_get_35, x_put_35, x_get_36, x_put_36, x_get_37, x_put_37, x_get_38, x_put_38, x_get_39, x_put_39, x_get_40, x_put_40, x_get_41, x_put_41, x_get_42, x_put_42, x_get_43, x_put_43, x_get_44, x_put_44, x_invS0, x_invV0, x_invS1, x_invV1, x_invS2, x_invV2, x_invS3, x_invV3, x_invS4, x_invV4, x_invS5, x_invV5, x_invS6, x_invV6, x_invS7, x_invV7, true_and, and_true, true_or, or_true, false_or, or_false, ne_eq, not_true_eq_false, not_false_eq_true, implies_true, true_implies, false_implies, Nat.zero_le, Nat.le_refl, Nat.sub_self, Nat.sub_zero, if_true, if_false, reduceIte, Nat.reduceAdd, Nat.reduceSub, Nat.reduceLeDiff, Nat.reduceLT, Nat.reduceEqDiff, Int.reduceEq, Int.reduceNeg, Int.reduceLT, Int.reduceLE]
                refine r124 _ _ _ _ (by omega) hvis.2 (fun j hj => ?_) (fun q => ?_) (fun q => ?_)
                · rw [pw_vs_keep f (k + 1) v' _ j (by omega), if_neg (by omega)]
                  exact hrr j hj
                · rw [if_pos q] at q2
                  rw [if_neg (by omega)]
                  exact ⟨q1, q2⟩
                · rw [if_neg q] at q2
                  rw [← q2] at K
                  rw [q1]
                  exact K)
          exact loop k (by omega) (by omega) (v + 1) fl 0 r (by omega) (by omega) (fun _ _ => rfl) (fun _ => ⟨rfl, hW⟩) (fun q => absurd rfl q)
        · rw [if_pos (by omega)] at K
          exact K
      · rw [if_pos (by omega)] at K
        exact K
    · rw [if_pos (by omega)] at K
      exact K
/-- seek: the whole search; r0 is the row as it was -/
def pw_sk (S B : Int) (r : Int → Int) : pw_Vr := pw_sl S B (21 - (pw_low S 1).toNat) (pw_low S 1).toNat 0 (fun j => if j = 0 then 1 else r j)
theorem pw_sl_keep {S B : Int} : ∀ (m len : Nat) (v : Int) (r : Int → Int) (j : Int), j ≤ 0 → (pw_sl S B m len v r).2.2.1 j = r j
  | 0, len, v, r, j, hj => rfl
  | m + 1, len, v, r, j, hj => by
    unfold pw_sl
    split
    · rw [pw_sl_keep m (len + 1) _ _ j hj, pw_vs_keep len 0 v r j hj]
    · exact pw_vs_keep len 0 v r j hj
theorem c_seek {Q : ms_Q} (hG : pw_G Γ) (h0 : M 89 0 = 90) (hS : 1 ≤ S) (hS2 : S ≤ 2047) (hB : 1 ≤ B) (hB2 : B ≤ 100000) (K : ∀ M', (∀ c, c ≠ 89 → c ≠ 90 → M' c = M c) → M' 89 0 = 90 → M' 89 1 = (pw_sk S B (M 90)).2.1 → M' 89 2 = (if (pw_sk S B (M 90)).1 = 1 then (pw_sk S B (M 90)).2.2.2 else -1) → M' 90 = (pw_sk S B (M 90)).2.2.1 → Q (0, if (pw_sk S B (M 90)).1 = 1 then 1 else 0) Γ M') : ms_Call G mX5_seek (d + 25) 0 0 [(2, 89), (0, S), (0, B)] Γ M Q := by
  refine ms_Call.of (ls := [(2, 89), (0, S), (0, B), (3, 0), (3, 0)]) (by decide +kernel) (Nat.le_of_ble_eq_true rfl) rfl (fun hM hv => ?_)
  have hlow : 0 ≤ pw_low S 1 ∧ pw_low S 1 ≤ 20 := by
    have hh := pw_hb_in hS (show S ≤ 9999 by omega)
    have hp := pw_pc_in (n := S) 14 (by omega)
    rw [show pw_pcf 14 S = pw_pc S from rfl] at hp
    have hp1 : 1 ≤ pw_pc S := pw_pc_pos hS (by omega)
    unfold pw_low
    rw [if_neg (by omega), if_pos rfl]
    split
    · omega
    · split <;> omega
  refine ms_gq (kX5_seek G Q (d + 24)) rfl ?_
  simp only [x_run, x_ci, x_cl, x_bin, x_dv, x_lbin, x_ldv, x_un, x_lcmp, x_lshl, x_dup0, x_dup2r, x_dup2, x_pop0, x_go, x_if1, x_if2, x_retf, x_rett, x_lret, x_vret, x_ald, x_bald, x_ast, x_bast, x_aast, x_oi, x_mx, x_acp, x_new, x_newa, x_anew, x_wt0, x_wti, x_wtl, x_wtr, x_lst4, x_lst8, x_ld0, x_st0, x_inc0, x_ld1, x_st1, x_inc1, x_ld2, x_st2, x_inc2, x_ld3, x_st3, x_inc3, x_ld4, x_st4, x_inc4, x_ld5, x_st5, x_inc5, x_ld6, x_st6, x_inc6, x_ld7, x_st7, x_inc7, x_ld8, x_st8, x_inc8, x_ld9, x_st9, x_inc9, x_ld10, x_st10, x_inc10, x_ld11, x_st11, x_inc11, x_ld12, x_st12, x_inc12, x_ld13, x_st13, x_inc13, x_get_0, x_put_0, x_get_1, x_put_1, x_get_2, x_put_2, x_get_3, x_put_3, x_get_4, x_put_4, x_get_5, x_put_5, x_get_6, x_put_6, x_get_7, x_put_7, x_get_8, x_put_8, x_get_9, x_put_9, x_get_10, x_put_10, x_get_11, x_put_11, x_get_12, x_put_12, x_get_13, x_put_13, x_get_14, x_put_14, x_get_15, x_put_15, x_get_16, x_put_16, x_get_17, x_put_17, x_get_18, x_put_18, x_get_19, x_put_19, x_get_20, x_put_20, x_get_21, x_put_21, x_get_22, x_put_22, x_get_23, x_put_23, x_get_24, x_put_24, x_get_25, x_put_25, x_get_26, x_put_26, x_get_27, x_put_27, x_get_28, x_put_28, x_get_29, x_put_29, x_get_30, x_put_30, x_get_31, x_put_31, x_get_32, x_put_32, x_get_33, x_put_33, x_get_34, x_put_34, x_get_35, x_put_35, x_get_36, x_put_36, x_get_37, x_put_37, x_get_38, x_put_38, x_get_39, x_put_39, x_get_40, x_put_40, x_get_41, x_put_41, x_get_42, x_put_42, x_get_43, x_put_43, x_get_44, x_put_44, x_invS0, x_invV0, x_invS1, x_invV1, x_invS2, x_invV2, x_invS3, x_invV3, x_invS4, x_invV4, x_invS5, x_invV5, x_invS6, x_invV6, x_invS7, x_invV7, true_and, and_true, true_or, or_true, false_or, or_false, ne_eq, not_true_eq_false, not_false_eq_true, implies_true, true_implies, false_implies, Nat.zero_le, Nat.le_refl, Nat.sub_self, Nat.sub_zero, if_true, if_false, reduceIte, Nat.reduceAdd, Nat.reduceSub, Nat.reduceLeDiff, Nat.reduceLT, Nat.reduceEqDiff, Int.reduceEq, Int.reduceNeg, Int.reduceLT, Int.reduceLE, x_up, x_nw, true_and, and_true, false_and, and_false, and_self, Int.reduceEq, if_true, if_false, reduceIte, pw_k89 hG, pw_k90 hG, pw_l90 hG, h0]
  refine c_bound hS (by omega) ?_
  simp only [x_run, x_ci, x_cl, x_bin, x_dv, x_lbin, x_ldv, x_un, x_lcmp, x_lshl, x_dup0, x_dup2r, x_dup2, x_pop0, x_go, x_if1, x_if2, x_retf, x_rett, x_lret, x_vret, x_ald, x_bald, x_ast, x_bast, x_aast, x_oi, x_mx, x_acp, x_new, x_newa, x_anew, x_wt0, x_wti, x_wtl, x_wtr, x_lst4, x_lst8, x_ld0, x_st0, x_inc0, x_ld1, x_st1, x_inc1, x_ld2, x_st2, x_inc2, x_ld3, x_st3, x_inc3, x_ld4, x_st4, x_inc4, x_ld5, x_st5, x_inc5, x_ld6, x_st6, x_inc6, x_ld7, x_st7, x_inc7, x_ld8, x_st8, x_inc8, x_ld9, x_st9, x_inc9, x_ld10, x_st10, x_inc10, x_ld11, x_st11, x_inc11, x_ld12, x_st12, x_inc12, x_ld13, x_st13, x_inc13, x_get_0, x_put_0, x_get_1, x_put_1, x_get_2, x_put_2, x_get_3, x_put_3, x_get_4, x_put_4, x_get_5, x_put_5, x_get_6, x_put_6, x_get_7, x_put_7, x_get_8, x_put_8, x_get_9, x_put_9, x_get_10, x_put_10, x_get_11, x_put_11, x_get_12, x_put_12, x_get_13, x_put_13, x_get_14, x_put_14, x_get_15, x_put_15, x_get_16, x_put_16, x_get_17, x_put_17, x_get_18, x_put_18, x_get_19, x_put_19, x_get_20, x_put_20, x_get_21, x_put_21, x_get_22, x_put_22, x_get_23, x_put_23, x_get_24, x_put_24, x_get_25, x_put_25, x_get_26, x_put_26, x_get_27, x_put_27, x_get_28, x_put_28, x_get_29, x_put_29, x_get_30, x_put_30, x_get_31, x_put_31, x_get_32, x_put_32, x_get_33, x_put_33, x_get_34, x_put_34, x_get_35, x_put_35, x_get_36, x_put_36, x_get_37, x_put_37, x_get_38, x_put_38, x_get_39, x_put_39, x_get_40, x_put_40, x_get_41, x_put_41, x_get_42, x_put_42, x_get_43, x_put_43, x_get_44, x_put_44, x_invS0, x_invV0, x_invS1, x_invV1, x_invS2, x_invV2, x_invS3, x_invV3, x_invS4, x_invV4, x_invS5, x_invV5, x_invS6, x_invV6, x_invS7, x_invV7, true_and, and_true, true_or, or_true, false_or, or_false, ne_eq, not_true_eq_false, not_false_eq_true, implies_true, true_implies, false_implies, Nat.zero_le, Nat.le_refl, Nat.sub_self, Nat.sub_zero, if_true, if_false, reduceIte, Nat.reduceAdd, Nat.reduceSub, Nat.reduceLeDiff, Nat.reduceLT, Nat.reduceEqDiff, Int.reduceEq, Int.reduceNeg, Int.reduceLT, Int.reduceLE]
  generalize hW : pw_sk S B (M 90) = Wr at K
  have loop := pw_up (hi := 21) (p := fun len => 0 ≤ len → ∀ (M0 : ms_M) (v fl e : Int) (r : Int → Int), (∀ c, c ≠ 89 → c ≠ 90 → M0 c = M c) → M0 89 0 = 90 → M0 89 3 = S → M0 89 4 = B → 0 ≤ v → v ≤ B → r 0 = 1 → (e = 0 → fl = -1 ∧ pw_sl S B (21 - len.toNat) len.toNat v r = Wr) → (e ≠ 0 → v = Wr.2.1 ∧ r = Wr.2.2.1 ∧ e = Wr.1 ∧ fl = (if Wr.1 = 1 then Wr.2.2.2 else -1)) → ms_At G Q mX5_seek (d + 24 + 1) 0 0 36 [(2, 89), (0, S), (0, B), (0, e), (0, len)] [] Γ (ms_sk M0 v fl r)) (by
    intro len hl ih l0 M0 v fl e r hf g0 g3 g4 v0 v1 hr0 he0 he1
    have fin : v = Wr.2.1 → r = Wr.2.2.1 → e = Wr.1 → fl = (if Wr.1 = 1 then Wr.2.2.2 else -1) → ms_At G Q mX5_seek (d + 24 + 1) 0 0 65 [(2, 89), (0, S), (0, B), (0, e), (0, len)] [] Γ (ms_sk M0 v fl r) := by
      intro f1 f2 f3 f4
      have KK := K (ms_sk M0 v fl r) (fun c c1 c2 => by rw [sk_ne c1 c2, hf c c1 c2]) (by rw [sk_0]; exact g0) (by rw [sk_1]; exact f1) (by rw [sk_2]; exact f4) (by rw [sk_r]; exact f2)
      have r75 : ∀ x : Int, (x = 0 ∨ x = 1) → Q (0, x) Γ (ms_sk M0 v fl r) → ms_At G Q mX5_seek (d + 24 + 1) 0 0 75 [(2, 89), (0, S), (0, B), (0, e), (0, len)] [(0, x)] Γ (ms_sk M0 v fl r) := fun x hx h => ms_gq (kX5_seek G Q (d + 24)) rfl (by simp only [x_run, x_ci, x_cl, x_bin, x_dv, x_lbin, x_ldv, x_un, x_lcmp, x_lshl, x_dup0, x_dup2r, x_dup2, x_pop0, x_go, x_if1, x_if2, x_retf, x_rett, x_lret, x_vret, x_ald, x_bald, x_ast, x_bast, x_aast, x_oi, x_mx, x_acp, x_new, x_newa, x_anew, x_wt0, x_wti, x_wtl, x_wtr, x_lst4, x_lst8, x_ld0, x_st0, x_inc0, x_ld1, x_st1, x_inc1, x_ld2, x_st2, x_inc2, x_ld3, x_st3, x_inc3, x_ld4, x_st4, x_inc4, x_ld5, x_st5, x_inc5, x_ld6, x_st6, x_inc6, x_ld7, x_st7, x_inc7, x_ld8, x_st8, x_inc8, x_ld9, x_st9, x_inc9, x_ld10, x_st10, x_inc10, x_ld11, x_st11, x_inc11, x_ld12, x_st12, x_inc12, x_ld13, x_st13, x_inc13, x_get_0, x_put_0, x_get_1, x_put_1, x_get_2, x_put_2, x_get_3, x_put_3, x_get_4, x_put_4, x_get_5, x_put_5, x_get_6, x_put_6, x_get_7, x_put_7, x_get_8, x_put_8, x_get_9, x_put_9, x_get_10, x_put_10, x_get_11, x_put_11, x_get_12, x_put_12, x_get_13, x_put_13, x_get_14, x_put_14, x_get_15, x_put_15, x_get_16, x_put_16, x_get_17, x_put_17, x_get_18, x_put_18, x_get_19, x_put_19, x_get_20, x_put_20, x_get_21, x_put_21, x_get_22, x_put_22, x_get_23, x_put_23, x_get_24, x_put_24, x_get_25, x_put_25, x_get_26, x_put_26, x_get_27, x_put_27, x_get_28, x_put_28, x_get_29, x_put_29, x_get_30, x_put_30, x_get_31, x_put_31, x_get_32, x_put_32, x_get_33, x_put_33, x_get_34, x_put_34, x_get_35, x_put_35, x_get_36, x_put_36, x_get_37, x_put_37, x_get_38, x_put_38, x_get_39, x_put_39, x_get_40, x_put_40, x_get_41, x_put_41, x_get_42, x_put_42, x_get_43, x_put_43, x_get_44, x_put_44, x_invS0, x_invV0, x_invS1, x_invV1, x_invS2, x_invV2, x_invS3, x_invV3, x_invS4, x_invV4, x_invS5, x_invV5, x_invS6, x_invV6, x_invS7, x_invV7, true_and, and_true, true_or, or_true, false_or, or_false, ne_eq, not_true_eq_false, not_false_eq_true, implies_true, true_implies, false_implies, Nat.zero_le, Nat.le_refl, Nat.sub_self, Nat.sub_zero, if_true, if_false, reduceIte, Nat.reduceAdd, Nat.reduceSub, Nat.reduceLeDiff, Nat.reduceLT, Nat.reduceEqDiff, Int.reduceEq, Int.reduceNeg, Int.reduceLT, Int.reduceLE]; exact ⟨hx, h⟩)
      refine ms_gq (kX5_seek G Q (d + 24)) rfl ?_
      simp only [x_run, x_ci, x_cl, x_bin, x_dv, x_lbin, x_ldv, x_un, x_lcmp, x_lshl, x_dup0, x_dup2r, x_dup2, x_pop0, x_go, x_if1, x_if2, x_retf, x_rett, x_lret, x_vret, x_ald, x_bald, x_ast, x_bast, x_aast, x_oi, x_mx, x_acp, x_new, x_newa, x_anew, x_wt0, x_wti, x_wtl, x_wtr, x_lst4, x_lst8, x_ld0, x_st0, x_inc0, x_ld1, x_st1, x_inc1, x_ld2, x_st2, x_inc2, x_ld3, x_st3, x_inc3, x_ld4, x_st4, x_inc4, x_ld5, x_st5, x_inc5, x_ld6, x_st6, x_inc6, x_ld7, x_st7, x_inc7, x_ld8, x_st8, x_inc8, x_ld9, x_st9, x_inc9, x_ld10, x_st10, x_inc10, x_ld11, x_st11, x_inc11, x_ld12, x_st12, x_inc12, x_ld13, x_st13, x_inc13, x_get_0, x_put_0, x_get_1, x_put_1, x_get_2, x_put_2, x_get_3, x_put_3, x_get_4, x_put_4, x_get_5, x_put_5, x_get_6, x_put_6, x_get_7, x_put_7, x_get_8, x_put_8, x_get_9, x_put_9, x_get_10, x_put_10, x_get_11, x_put_11, x_get_12, x_put_12, x_get_13, x_put_13, x_get_14, x_put_14, x_get_15, x_put_15, x_get_16, x_put_16, x_get_17, x_put_17, x_get_18, x_put_18, x_get_19, x_put_19, x_get_20, x_put_20, x_get_21, x_put_21, x_get_22, x_put_22, x_get_23, x_put_23, x_get_24, x_put_24, x_get_25, x_put_25, x_get_26, x_put_26, x_get_27, x_put_27, x_get_28, x_put_28, x_get_29, x_put_29, x_get_30, x_put_30, x_get_31, x_put_31, x_get_32, x_put_32, x_get_33, x_put_33, x_get_34, x_put_34, x_get_35, x_put_35, x_get_36, x_put_36, x_get_37, x_put_37, x_get_38, x_put_38, x_get_39, x_put_39, x_get_40, x_put_40, x_get_41, x_put_41, x_get_42, x_put_42, x_get_43, x_put_43, x_get_44, x_put_44, x_invS0, x_invV0, x_invS1, x_invV1, x_invS2, x_invV2, x_invS3, x_invV3, x_invS4, x_invV4, x_invS5, x_invV5, x_invS6, x_invV6, x_invS7, x_invV7, true_and, and_true, true_or, or_true, false_or, or_false, ne_eq, not_true_eq_false, not_false_eq_true, implies_true, true_implies, false_implies, Nat.zero_le, Nat.le_refl, Nat.sub_self, Nat.sub_zero, if_true, if_false, reduceIte, Nat.reduceAdd, Nat.reduceSub, Nat.reduceLeDiff, Nat.reduceLT, Nat.reduceEqDiff, Int.reduceEq, Int.reduceNeg, Int.reduceLT, Int.reduceLE]
      refine ⟨fun z => ms_gq (kX5_seek G Q (d + 24)) rfl ?_, fun z => ?_⟩
      · simp only [x_run, x_ci, x_cl, x_bin, x_dv, x_lbin, x_ldv, x_un, x_lcmp, x_lshl, x_dup0, x_dup2r, x_dup2, x_pop0, x_go, x_if1, x_if2, x_retf, x_rett, x_lret, x_vret, x_ald, x_bald, x_ast, x_bast, x_aast, x_oi, x_mx, x_acp, x_new, x_newa, x_anew, x_wt0, x_wti, x_wtl, x_wtr, x_lst4, x_lst8, x_ld0, x_st0, x_inc0, x_ld1, x_st1, x_inc1, x_ld2, x_st2, x_inc2, x_ld3, x_st3, x_inc3, x_ld4, x_st4, x_inc4, x_ld5, x_st5, x_inc5, x_ld6, x_st6, x_inc6, x_ld7, x_st7, x_inc7, x_ld8, x_st8, x_inc8, x_ld9, x_st9, x_inc9, x_ld10, x_st10, x_inc10, x_ld11, x_st11, x_inc11, x_ld12, x_st12, x_inc12, x_ld13, x_st13, x_inc13, x_get_0, x_put_0, x_get_1, x_put_1, x_get_2, x_put_2, x_get_3, x_put_3, x_get_4, x_put_4, x_get_5, x_put_5, x_get_6, x_put_6, x_get_7, x_put_7, x_get_8, x_put_8, x_get_9, x_put_9, x_get_10, x_put_10, x_get_11, x_put_11, x_get_12, x_put_12, x_get_13, x_put_13, x_get_14, x_put_14, x_get_15, x_put_15, x_get_16, x_put_16, x_get_17, x_put_17, x_get_18, x_put_18, x_get_19, x_put_19, x_get_20, x_put_20, x_get_21, x_put_21, x_get_22, x_put_22, x_get_23, x_put_23, x_get_24, x_put_24, x_get_25, x_put_25, x_get_26, x_put_26, x_get_27, x_put_27, x_get_28, x_put_28, x_get_29, x_put_29, x_get_30, x_put_30, x_get_31, x_put_31, x_get_32, x_put_32, x_get_33, x_put_33, x_get_34, x_put_34, x_get_35, x_put_35, x_get_36, x_put_36, x_get_37, x_put_37, x_get_38, x_put_38, x_get_39, x_put_39, x_get_40, x_put_40, x_get_41, x_put_41, x_get_42, x_put_42, x_get_43, x_put_43, x_get_44, x_put_44, x_invS0, x_invV0, x_invS1, x_invV1, x_invS2, x_invV2, x_invS3, x_invV3, x_invS4, x_invV4, x_invS5, x_invV5, x_invS6, x_invV6, x_invS7, x_invV7, true_and, and_true, true_or, or_true, false_or, or_false, ne_eq, not_true_eq_false, not_false_eq_true, implies_true, true_implies, false_implies, Nat.zero_le, Nat.le_refl, Nat.sub_self, Nat.sub_zero, if_true, if_false, reduceIte, Nat.reduceAdd, Nat.reduceSub, Nat.reduceLeDiff, Nat.reduceLT, Nat.reduceEqDiff, Int.reduceEq, Int.reduceNeg, Int.reduceLT, Int.reduceLE]
        rw [if_neg (by omega)] at KK
        exact r75 0 (by omega) KK
      · rw [if_pos (by omega)] at KK
        exact r75 1 (by omega) KK
    refine ms_gq (kX5_seek G Q (d + 24)) rfl ?_
    simp only [x_run, x_ci, x_cl, x_bin, x_dv, x_lbin, x_ldv, x_un, x_lcmp, x_lshl, x_dup0, x_dup2r, x_dup2, x_pop0, x_go, x_if1, x_if2, x_retf, x_rett, x_lret, x_vret, x_ald, x_bald, x_ast, x_bast, x_aast, x_oi, x_mx, x_acp, x_new, x_newa, x_anew, x_wt0, x_wti, x_wtl, x_wtr, x_lst4, x_lst8, x_ld0, x_st0, x_inc0, x_ld1, x_st1, x_inc1, x_ld2, x_st2, x_inc2, x_ld3, x_st3, x_inc3, x_ld4, x_st4, x_inc4, x_ld5, x_st5, x_inc5, x_ld6, x_st6, x_inc6, x_ld7, x_st7, x_inc7, x_ld8, x_st8, x_inc8, x_ld9, x_st9, x_inc9, x_ld10, x_st10, x_inc10, x_ld11, x_st11, x_inc11, x_ld12, x_st12, x_inc12, x_ld13, x_st13, x_inc13, x_get_0, x_put_0, x_get_1, x_put_1, x_get_2, x_put_2, x_get_3, x_put_3, x_get_4, x_put_4, x_get_5, x_put_5, x_get_6, x_put_6, x_get_7, x_put_7, x_get_8, x_put_8, x_get_9, x_put_9, x_get_10, x_put_10, x_get_11, x_put_11, x_get_12, x_put_12, x_get_13, x_put_13, x_get_14, x_put_14, x_get_15, x_put_15, x_get_16, x_put_16, x_get_17, x_put_17, x_get_18, x_put_18, x_get_19, x_put_19, x_get_20, x_put_20, x_get_21, x_put_21, x_get_22, x_put_22, x_get_23, x_put_23, x_get_24, x_put_24, x_get_25, x_put_25, x_get_26, x_put_26, x_get_27, x_put_27, x_get_28, x_put_28, x_get_29, x_put_29, x_get_30, x_put_30, x_get_31, x_put_31, x_get_32, x_put_32, x_get_33, x_put_33, x_get_34, x_put_34, x_get_35, x_put_35, x_get_36, x_put_36, x_get_37, x_put_37, x_get_38, x_put_38, x_get_39, x_put_39, x_get_40, x_put_40, x_get_41, x_put_41, x_get_42, x_put_42, x_get_43, x_put_43, x_get_44, x_put_44, x_invS0, x_invV0, x_invS1, x_invV1, x_invS2, x_invV2, x_invS3, x_invV3, x_invS4, x_invV4, x_invS5, x_invV5, x_invS6, x_invV6, x_invS7, x_invV7, true_and, and_true, true_or, or_true, false_or, or_false, ne_eq, not_true_eq_false, not_false_eq_true, implies_true, true_implies, false_implies, Nat.zero_le, Nat.le_refl, Nat.sub_self, Nat.sub_zero, if_true, if_false, reduceIte, Nat.reduceAdd, Nat.reduceSub, Nat.reduceLeDiff, Nat.reduceLT, Nat.reduceEqDiff, Int.reduceEq, Int.reduceNeg, Int.reduceLT, Int.reduceLE, pw_k89 hG]
    refine ⟨fun z => ?_, fun z => ⟨fun z1 => ?_, fun z1 => ?_⟩⟩
    · by_cases hee : e = 0
      · obtain ⟨q1, q2⟩ := he0 hee
        rw [show 21 - len.toNat = 0 by omega] at q2
        have q3 : Wr = (0, v, r, 0) := q2.symm
        exact fin (by rw [q3]) (by rw [q3]) (by rw [q3, hee]) (by rw [q3, q1]; rfl)
      · obtain ⟨f1, f2, f3, f4⟩ := he1 hee
        exact fin f1 f2 f3 f4
    · obtain ⟨f1, f2, f3, f4⟩ := he1 z1
      exact fin f1 f2 f3 f4
    · have hee : e = 0 := by omega
      obtain ⟨q1, q2⟩ := he0 hee
      have e5 : ms_up (ms_sk M0 v fl r) 89 5 len = ms_sk (ms_up M0 89 5 len) v fl r := by
        funext a j
        unfold ms_sk ms_up ms_nw
        by_cases a1 : a = 89
        · by_cases a2 : j = 5
          · subst a1; subst a2; simp
          · simp [a1, a2]
        · simp [a1]
      rw [e5]
      have l2 : 21 - len.toNat = (21 - (len + 1).toNat) + 1 := by omega
      rw [l2] at q2
      unfold pw_sl at q2
      have hvis := pw_vs_vis (S := S) (B := B) len.toNat 0 v r v1
      refine c_visit (M := ms_up M0 89 5 len) (S := S) (B := B) (L := len.toNat) hG (by rw [ms_up_j (by omega)]; exact g0) (by rw [ms_up_j (by omega)]; exact g3) (by rw [ms_up_j (by omega)]; exact g4) hS hS2 hB hB2 (by rw [ms_up_same]; omega) (by omega) len.toNat (d + 24) 0 v fl r _ (by omega) (by omega) (by omega) v0 v1 (fun j j0 j1 => by rw [show j = 0 by omega, hr0]; omega) ?_
      simp only [x_run, x_ci, x_cl, x_bin, x_dv, x_lbin, x_ldv, x_un, x_lcmp, x_lshl, x_dup0, x_dup2r, x_dup2, x_pop0, x_go, x_if1, x_if2, x_retf, x_rett, x_lret, x_vret, x_ald, x_bald, x_ast, x_bast, x_aast, x_oi, x_mx, x_acp, x_new, x_newa, x_anew, x_wt0, x_wti, x_wtl, x_wtr, x_lst4, x_lst8, x_ld0, x_st0, x_inc0, x_ld1, x_st1, x_inc1, x_ld2, x_st2, x_inc2, x_ld3, x_st3, x_inc3, x_ld4, x_st4, x_inc4, x_ld5, x_st5, x_inc5, x_ld6, x_st6, x_inc6, x_ld7, x_st7, x_inc7, x_ld8, x_st8, x_inc8, x_ld9, x_st9, x_inc9, x_ld10, x_st10, x_inc10, x_ld11, x_st11, x_inc11, x_ld12, x_st12, x_inc12, x_ld13, x_st13, x_inc13, x_get_0, x_put_0, x_get_1, x_put_1, x_get_2, x_put_2, x_get_3, x_put_3, x_get_4, x_put_4, x_get_5, x_put_5, x_get_6, x_put_6, x_get_7, x_put_7, x_get_8, x_put_8, x_get_9, x_put_9, x_get_10, x_put_10, x_get_11, x_put_11, x_get_12, x_put_12, x_get_13, x_put_13, x_get_14, x_put_14, x_get_15, x_put_15, x_get_16, x_put_16, x_get_17, x_put_17, x_get_18, x_put_18, x_get_19, x_put_19, x_get_20, x_put_20, x_get_21, x_put_21, x_get_22, x_put_22, x_get_23, x_put_23, x_get_24, x_put_24, x_get_25, x_put_25, x_get_26, x_put_26, x_get_27, x_put_27, x_get_28, x_put_28, x_get_29, x_put_29, x_get_30, x_put_30, x_get_31, x_put_31, x_get_32, x_put_32, x_get_33, x_put_33, x_get_34, x_put_34, x_get_35, x_put_35, x_get_36, x_put_36, x_get_37, x_put_37, x_get_38, x_put_38, x_get_39, x_put_39, x_get_40, x_put_40, x_get_41, x_put_41, x_get_42, x_put_42, x_get_43, x_put_43, x_get_44, x_put_44, x_invS0, x_invV0, x_invS1, x_invV1, x_invS2, x_invV2, x_invS3, x_invV3, x_invS4, x_invV4, x_invS5, x_invV5, x_invS6, x_invV6, x_invS7, x_invV7, true_and, and_true, true_or, or_true, false_or, or_false, ne_eq, not_true_eq_false, not_false_eq_true, implies_true, true_implies, false_implies, Nat.zero_le, Nat.le_refl, Nat.sub_self, Nat.sub_zero, if_true, if_false, reduceIte, Nat.reduceAdd, Nat.reduceSub, Nat.reduceLeDiff, Nat.reduceLT, Nat.reduceEqDiff, Int.reduceEq, Int.reduceNeg, Int.reduceLT, Int.reduceLE]
      rw [w32_id (by omega) (by omega)]
      refine ih (len + 1) (by omega) (by omega) (by omega) _ _ _ _ _ (fun c c1 c2 => by rw [ms_up_row c1, hf c c1 c2]) (by rw [ms_up_j (by omega)]; exact g0) (by rw [ms_up_j (by omega)]; exact g3) (by rw [ms_up_j (by omega)]; exact g4) (by omega) hvis.2 (by rw [pw_vs_keep len.toNat 0 v r 0 (by omega)]; exact hr0) (fun q => ?_) (fun q => ?_)
      · rw [if_pos q] at q2
        rw [if_neg (by omega)]
        rw [show (len + 1).toNat = len.toNat + 1 by omega] at q2 ⊢
        exact ⟨q1, q2⟩
      · rw [if_neg q] at q2
        rw [← q2, q1]
        exact ⟨rfl, rfl, rfl, rfl⟩)
  have e6 : ms_up (ms_up (ms_up (ms_up (ms_up M 89 3 S) 89 4 B) 89 1 0) 89 2 (-1)) 90 0 1 = ms_sk (ms_up (ms_up M 89 3 S) 89 4 B) 0 (-1) (fun j => if j = 0 then 1 else M 90 j) := by
    funext a j
    unfold ms_sk ms_up ms_nw
    by_cases a1 : a = 89
    · subst a1; simp
    · by_cases a2 : a = 90
      · subst a2; simp
      · simp [a1, a2]
  rw [e6]
  refine loop (pw_low S 1) (by omega) (by omega) _ 0 (-1) 0 _ (fun c c1 c2 => by rw [ms_up_row c1, ms_up_row c1]) ?_ ?_ ?_ (by omega) (by omega) rfl (fun _ => ⟨rfl, hW⟩) (fun q => absurd rfl q)
  · simp only [x_up, x_nw, true_and, and_true, false_and, and_false, and_self, Int.reduceEq, if_true, if_false, reduceIte]; exact h0
  · simp only [x_up, x_nw, true_and, and_true, false_and, and_false, and_self, Int.reduceEq, if_true, if_false, reduceIte]
  · simp only [x_up, x_nw, true_and, and_true, false_and, and_false, and_self, Int.reduceEq, if_true, if_false, reduceIte]
end CSK
