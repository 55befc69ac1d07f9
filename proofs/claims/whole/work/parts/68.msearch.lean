/-! ===== the model's search; the search ends by length 20 ===== -/
theorem pw_vl_rng {S k last : Int} {rec : Int → (Int → Int) → pw_Vr} (hrec : ∀ v r, 0 ≤ (rec v r).1 ∧ (rec v r).1 ≤ 2) : ∀ (m : Nat) (v : Int) (r : Int → Int), 0 ≤ (pw_vl S k last rec m v r).1 ∧ (pw_vl S k last rec m v r).1 ≤ 2
  | 0, v, r => by simp [pw_vl]
  | m + 1, v, r => by
    unfold pw_vl
    split
    · exact pw_vl_rng hrec m v r
    · split
      · exact pw_vl_rng hrec m _ _
      · exact hrec _ _
theorem pw_vs_rng {S B : Int} : ∀ (f : Nat) (k v : Int) (r : Int → Int), 0 ≤ (pw_vs S B f k v r).1 ∧ (pw_vs S B f k v r).1 ≤ 2
  | 0, k, v, r => by
    unfold pw_vs
    split
    · simp
    · split <;> simp
  | f + 1, k, v, r => by
    unfold pw_vs
    split
    · simp
    · split
      · simp
      · split
        · simp
        · exact pw_vl_rng (fun v r => pw_vs_rng f (k + 1) v r) _ _ _
/-! rows alike up to k: alike ends -/
def pw_veq (A A' : pw_Vr) : Prop := A.1 = A'.1 ∧ A.2.1 = A'.2.1 ∧ A.2.2.2 = A'.2.2.2 ∧ (A.1 = 1 → ∀ j, 0 ≤ j → j ≤ A.2.2.2 → A.2.2.1 j = A'.2.2.1 j)
theorem pw_vl_cg {S k last : Int} {rec : Int → (Int → Int) → pw_Vr} (k0 : 0 ≤ k) (hkeep : ∀ v r j, j ≤ k + 1 → (rec v r).2.2.1 j = r j) (hrec : ∀ v r r', (∀ j, 0 ≤ j → j ≤ k + 1 → r j = r' j) → pw_veq (rec v r) (rec v r')) : ∀ (m : Nat) (v : Int) (r r' : Int → Int), m ≤ k + 1 → (∀ j, 0 ≤ j → j ≤ k → r j = r' j) → pw_veq (pw_vl S k last rec m v r) (pw_vl S k last rec m v r')
  | 0, v, r, r', _, h => ⟨rfl, rfl, rfl, fun q => by simp [pw_vl] at q⟩
  | m + 1, v, r, r', hm, h => by
    have e : r (m : Int) = r' (m : Int) := h m (by omega) (by omega)
    unfold pw_vl
    rw [← e]
    by_cases hS : S < last + r (m : Int)
    · rw [if_pos hS, if_pos hS]
      exact pw_vl_cg k0 hkeep hrec m v r r' (by omega) h
    · rw [if_neg hS, if_neg hS]
      have hR := hrec v (fun j => if j = k + 1 then last + r (m : Int) else r j) (fun j => if j = k + 1 then last + r (m : Int) else r' j) (fun j j0 j1 => by
        by_cases hj : j = k + 1
        · simp only [if_pos hj]
        · simp only [if_neg hj]
          exact h j j0 (by omega))
      rw [← hR.1]
      by_cases hz : (rec v (fun j => if j = k + 1 then last + r (m : Int) else r j)).1 = 0
      · rw [if_pos hz, if_pos hz, ← hR.2.1]
        refine pw_vl_cg k0 hkeep hrec m _ _ _ (by omega) (fun j j0 j1 => ?_)
        rw [hkeep _ _ j (by omega), hkeep _ _ j (by omega), if_neg (by omega), if_neg (by omega)]
        exact h j j0 j1
      · rw [if_neg hz, if_neg hz]
        exact hR
theorem pw_vs_cg {S B : Int} : ∀ (f : Nat) (k v : Int) (r r' : Int → Int), 0 ≤ k → (∀ j, 0 ≤ j → j ≤ k → r j = r' j) → pw_veq (pw_vs S B f k v r) (pw_vs S B f k v r')
  | 0, k, v, r, r', k0, h => by
    unfold pw_vs
    rw [← h k k0 (Int.le_refl _)]
    split
    · exact ⟨rfl, rfl, rfl, fun q => by simp at q⟩
    · split
      · exact ⟨rfl, rfl, rfl, fun _ j j0 j1 => h j j0 j1⟩
      · exact ⟨rfl, rfl, rfl, fun q => by simp at q⟩
  | f + 1, k, v, r, r', k0, h => by
    unfold pw_vs
    rw [← h k k0 (Int.le_refl _)]
    split
    · exact ⟨rfl, rfl, rfl, fun q => by simp at q⟩
    · split
      · exact ⟨rfl, rfl, rfl, fun _ j j0 j1 => h j j0 j1⟩
      · split
        · exact ⟨rfl, rfl, rfl, fun q => by simp at q⟩
        · exact pw_vl_cg k0 (fun v r j hj => pw_vs_keep f (k + 1) v r j hj) (fun v r r' hr => pw_vs_cg f (k + 1) v r r' (by omega) hr) _ _ _ _ (by omega) h
theorem pw_sl_cg {S B : Int} : ∀ (m len : Nat) (v : Int) (r r' : Int → Int), r 0 = r' 0 → pw_veq (pw_sl S B m len v r) (pw_sl S B m len v r')
  | 0, len, v, r, r', h => ⟨rfl, rfl, rfl, fun q => by simp [pw_sl] at q⟩
  | m + 1, len, v, r, r', h => by
    have hR := pw_vs_cg (S := S) (B := B) len 0 v r r' (Int.le_refl _) (fun j j0 j1 => by rw [show j = 0 by omega]; exact h)
    unfold pw_sl
    rw [← hR.1]
    split
    · rw [← hR.2.1]
      refine pw_sl_cg m (len + 1) _ _ _ ?_
      rw [pw_vs_keep len 0 v r 0 (Int.le_refl _), pw_vs_keep len 0 v r' 0 (Int.le_refl _)]
      exact h
    · exact hR
theorem pw_sk_cg {S B : Int} {r r' : Int → Int} : pw_veq (pw_sk S B r) (pw_sk S B r') := pw_sl_cg _ _ _ _ _ rfl
/-! by doubling and adding 1, within m steps, from a to S -/
def pw_bx (S : Int) : Nat → Int → Prop
  | 0, a => a = S
  | m + 1, a => a = S ∨ pw_bx S m (2 * a) ∨ pw_bx S m (a + 1)
theorem pw_bx_le {S : Int} : ∀ (m : Nat) (a : Int), 1 ≤ a → pw_bx S m a → a ≤ S ∧ S ≤ a * 2 ^ m
  | 0, a, h0, h => by
    have h' : a = S := h
    rw [Int.pow_zero, Int.mul_one]
    omega
  | m + 1, a, h0, h => by
    have hp : (1 : Int) ≤ 2 ^ m := by
      have : (0 : Int) < 2 ^ m := Int.pow_pos (by omega)
      omega
    have e : a * 2 ^ (m + 1) = 2 * a * 2 ^ m := by
      rw [Int.pow_succ, Int.mul_comm (2 ^ m) 2, ← Int.mul_assoc, Int.mul_comm a 2]
    rw [e]
    rcases h with h | h | h
    · refine ⟨by omega, ?_⟩
      have := Int.mul_le_mul_of_nonneg_left hp (show 0 ≤ 2 * a by omega)
      rw [Int.mul_one] at this
      omega
    · have := pw_bx_le m (2 * a) (by omega) h
      exact ⟨by omega, this.2⟩
    · have h1 := pw_bx_le m (a + 1) (by omega) h
      refine ⟨by omega, Int.le_trans h1.2 ?_⟩
      exact Int.mul_le_mul_of_nonneg_right (by omega) (by omega)
theorem pw_bx_up {S : Int} : ∀ (m : Nat) (a : Int), pw_bx S m a → pw_bx S (m + 1) a
  | 0, a, h => Or.inl h
  | m + 1, a, h => by
    rcases h with h | h | h
    · exact Or.inl h
    · exact Or.inr (Or.inl (pw_bx_up m _ h))
    · exact Or.inr (Or.inr (pw_bx_up m _ h))
theorem pw_bx_ups {S : Int} {m : Nat} {a : Int} : ∀ j : Nat, pw_bx S m a → pw_bx S (m + j) a
  | 0, h => h
  | j + 1, h => pw_bx_up _ _ (pw_bx_ups j h)
theorem pw_bx_bin {S : Int} : ∀ j : Nat, pw_bx S (2 * j) (S / 2 ^ j)
  | 0 => by
    show S / 2 ^ 0 = S
    rw [Int.pow_zero, Int.ediv_one]
  | j + 1 => by
    have ih := pw_bx_bin (S := S) j
    rw [pw_div2, show 2 * (j + 1) = 2 * j + 1 + 1 by omega]
    generalize S / 2 ^ j = a at *
    by_cases h : a % 2 = 0
    · refine Or.inr (Or.inl ?_)
      rw [show 2 * (a / 2) = a by omega]
      exact pw_bx_up _ _ ih
    · refine Or.inr (Or.inl (Or.inr (Or.inr ?_)))
      rw [show 2 * (a / 2) + 1 = a by omega]
      exact ih
theorem pw_vl_no {S k last : Int} {rec : Int → (Int → Int) → pw_Vr} (hkeep : ∀ v r j, j ≤ k + 1 → (rec v r).2.2.1 j = r j) {i : Int} (i0 : 0 ≤ i) (ik : i ≤ k) {a : Int} (hS : last + a ≤ S) (hrec : ∀ v r, (∀ j, j ≤ k → 0 ≤ j → (j = 0 ∨ j = i) → r j = (if j = 0 then 1 else a)) → r (k + 1) = last + a → (rec v r).1 ≠ 0) (hia : i = 0 → a = 1) : ∀ (m : Nat) (v : Int) (r : Int → Int), i < m → r 0 = 1 → r i = a → (pw_vl S k last rec m v r).1 ≠ 0
  | 0, v, r, h, h0, hi => by omega
  | m + 1, v, r, h, h0, hi => by
    unfold pw_vl
    by_cases him : i = m
    · rw [him] at hi
      rw [hi, if_neg (by omega)]
      have hq := hrec v (fun j => if j = k + 1 then last + a else r j) (fun j jk j0 jj => by
        simp only [if_neg (show ¬ j = k + 1 by omega)]
        by_cases hj0 : j = 0
        · rw [if_pos hj0, hj0]; exact h0
        · rw [if_neg hj0]
          rcases jj with jj | jj
          · exact absurd jj hj0
          · rw [jj, him]; exact hi) (by simp only [if_pos])
      rw [if_neg hq]
      exact hq
    · split
      · exact pw_vl_no hkeep i0 ik hS hrec hia m v r (by omega) h0 hi
      · split
        · refine pw_vl_no hkeep i0 ik hS hrec hia m _ _ (by omega) ?_ ?_
          · rw [hkeep _ _ 0 (by omega), if_neg (by omega)]; exact h0
          · rw [hkeep _ _ i (by omega), if_neg (by omega)]; exact hi
        · rename_i hz
          exact hz
theorem pw_vs_no {S B : Int} : ∀ (f : Nat) (k v : Int) (r : Int → Int) (m : Nat), 0 ≤ k → m ≤ f → r 0 = 1 → 1 ≤ r k → pw_bx S m (r k) → (pw_vs S B f k v r).1 ≠ 0
  | 0, k, v, r, m, k0, hm, h0, hk, hb => by
    have hm0 : m = 0 := by omega
    subst hm0
    have hb' : r k = S := hb
    unfold pw_vs
    split
    · simp
    · simp
  | f + 1, k, v, r, m, k0, hm, h0, hk, hb => by
    unfold pw_vs
    split
    · simp
    · by_cases hS : r k = S
      · rw [if_pos hS]; simp
      · rw [if_neg hS]
        have hle := pw_bx_le m (r k) hk hb
        have hpw : r k * 2 ^ m ≤ r k * 2 ^ (f + 1) := by
          refine Int.mul_le_mul_of_nonneg_left ?_ (by omega)
          have : (2 : Nat) ^ m ≤ 2 ^ (f + 1) := Nat.pow_le_pow_right (by omega) hm
          have h2 : ((2 ^ m : Nat) : Int) ≤ ((2 ^ (f + 1) : Nat) : Int) := Int.ofNat_le.mpr this
          rw [Int.natCast_pow, Int.natCast_pow] at h2
          exact h2
        rw [if_neg (by omega)]
        cases m with
        | zero => exact absurd hb hS
        | succ m =>
          rcases hb with hb | hb | hb
          · exact absurd hb hS
          · have hl2 := pw_bx_le m (2 * r k) (by omega) hb
            refine pw_vl_no (S := S) (k := k) (last := r k) (i := k) (a := r k) (rec := pw_vs S B f (k + 1)) (fun v r j hj => pw_vs_keep f (k + 1) v r j hj) k0 (Int.le_refl _) (by omega) (fun v' r' hj hk1 => ?_) (fun q => by rw [q]; exact h0) (k + 1).toNat _ r (by omega) h0 rfl
            refine pw_vs_no f (k + 1) v' r' m (by omega) (by omega) ?_ (by omega) ?_
            · rw [hj 0 k0 (Int.le_refl _) (Or.inl rfl), if_pos rfl]
            · rw [hk1, show r k + r k = 2 * r k by omega]; exact hb
          · have hl2 := pw_bx_le m (r k + 1) (by omega) hb
            refine pw_vl_no (S := S) (k := k) (last := r k) (i := 0) (a := 1) (rec := pw_vs S B f (k + 1)) (fun v r j hj => pw_vs_keep f (k + 1) v r j hj) (Int.le_refl _) k0 (by omega) (fun v' r' hj hk1 => ?_) (fun _ => rfl) (k + 1).toNat _ r (by omega) h0 h0
            refine pw_vs_no f (k + 1) v' r' m (by omega) (by omega) ?_ (by omega) ?_
            · rw [hj 0 k0 (Int.le_refl _) (Or.inl rfl), if_pos rfl]
            · rw [hk1]; exact hb
theorem pw_vs20 {S B v : Int} {r : Int → Int} (h1 : 1 ≤ S) (h2 : S ≤ 2047) (h0 : r 0 = 1) : (pw_vs S B 20 0 v r).1 ≠ 0 := by
  have hb := pw_hb_in h1 (show S ≤ 9999 by omega)
  have hb10 : pw_hb S ≤ 10 := by
    rcases pw_hb_cases h1 (show S ≤ 9999 by omega) with ⟨u, v, w⟩ | ⟨u, v, w⟩ | ⟨u, v, w⟩ | ⟨u, v, w⟩ | ⟨u, v, w⟩ | ⟨u, v, w⟩ | ⟨u, v, w⟩ | ⟨u, v, w⟩ | ⟨u, v, w⟩ | ⟨u, v, w⟩ | ⟨u, v, w⟩ | ⟨u, v, w⟩ | ⟨u, v, w⟩ | ⟨u, v, w⟩ <;> omega
  have hx := pw_bx_bin (S := S) (pw_hb S).toNat
  rw [pw_hb_1 h1 (by omega)] at hx
  refine pw_vs_no 20 0 v r (2 * (pw_hb S).toNat) (Int.le_refl _) (by omega) h0 (by omega) ?_
  rw [h0]; exact hx
def ms_gs (M : ms_M) (v fm : Int) (r : Int → Int) : ms_M := ms_up (ms_up (ms_nw M 128 r) 103 39 v) 103 40 fm
theorem gs_v {M : ms_M} {v fm : Int} {r : Int → Int} : ms_gs M v fm r 103 39 = v := by simp only [ms_gs, x_up, x_nw, true_and, and_true, false_and, and_false, and_self, Int.reduceEq, if_true, if_false, reduceIte]
theorem gs_f {M : ms_M} {v fm : Int} {r : Int → Int} : ms_gs M v fm r 103 40 = fm := by simp only [ms_gs, x_up, x_nw, true_and, and_true, false_and, and_false, and_self, Int.reduceEq, if_true, if_false, reduceIte]
theorem gs_j {M : ms_M} {v fm j : Int} {r : Int → Int} (h1 : j ≠ 39) (h2 : j ≠ 40) : ms_gs M v fm r 103 j = M 103 j := by
  unfold ms_gs
  rw [ms_up_j h2, ms_up_j h1, ms_nw_ne (by omega)]
theorem gs_41 {M : ms_M} {v fm : Int} {r : Int → Int} : ms_gs M v fm r 103 41 = M 103 41 := gs_j (by omega) (by omega)
theorem gs_42 {M : ms_M} {v fm : Int} {r : Int → Int} : ms_gs M v fm r 103 42 = M 103 42 := gs_j (by omega) (by omega)
theorem gs_43 {M : ms_M} {v fm : Int} {r : Int → Int} : ms_gs M v fm r 103 43 = M 103 43 := gs_j (by omega) (by omega)
theorem gs_44 {M : ms_M} {v fm : Int} {r : Int → Int} : ms_gs M v fm r 103 44 = M 103 44 := gs_j (by omega) (by omega)
theorem gs_r {M : ms_M} {v fm : Int} {r : Int → Int} : ms_gs M v fm r 128 = r := by
  unfold ms_gs
  rw [ms_up_row (by omega), ms_up_row (by omega), ms_nw_row]
theorem gs_rj {M : ms_M} {v fm j : Int} {r : Int → Int} : ms_gs M v fm r 128 j = r j := by rw [gs_r]
theorem gs_ne {M : ms_M} {v fm c : Int} {r : Int → Int} (h1 : c ≠ 103) (h2 : c ≠ 128) : ms_gs M v fm r c = M c := by
  unfold ms_gs
  rw [ms_up_row h1, ms_up_row h1, ms_nw_rne h2]
theorem gs_u1 {M : ms_M} {v fm v' : Int} {r : Int → Int} : ms_up (ms_gs M v fm r) 103 39 v' = ms_gs M v' fm r := by
  funext a j
  unfold ms_gs ms_up ms_nw
  by_cases h1 : a = 103
  · by_cases h2 : j = 39
    · subst h1; subst h2; simp
    · by_cases h3 : j = 40
      · subst h1; subst h3; simp
      · simp [h1, h2, h3]
  · simp [h1]
theorem gs_u2 {M : ms_M} {v fm fm' : Int} {r : Int → Int} : ms_up (ms_gs M v fm r) 103 40 fm' = ms_gs M v fm' r := by
  funext a j
  unfold ms_gs ms_up ms_nw
  by_cases h1 : a = 103
  · by_cases h3 : j = 40
    · subst h1; subst h3; simp
    · simp [h1, h3]
  · simp [h1]
theorem gs_ur {M : ms_M} {v fm i x : Int} {r : Int → Int} : ms_up (ms_gs M v fm r) 128 i x = ms_gs M v fm (fun j => if j = i then x else r j) := by
  funext a j
  unfold ms_gs ms_up ms_nw
  by_cases h1 : a = 128
  · subst h1
    by_cases h2 : j = i
    · simp [h2]
    · simp [h2]
  · simp [h1]
section CMS
variable {G : ms_G} {Γ : List ms_Sh} {M : ms_M} {d : Nat} {S B : Int}
set_option maxRecDepth 100000
set_option maxHeartbeats 4000000
theorem c_goes (hG : pw_G Γ) (h0 : M 103 41 = 128) (h3 : M 103 43 = S) (h4 : M 103 42 = B) (hS : 1 ≤ S) (hS2 : S ≤ 2047) (hB : 1 ≤ B) (hB2 : B ≤ 100000) {L : Nat} (h5 : M 103 44 = (L : Int)) (hL : L ≤ 20) : ∀ (f : Nat) (D : Nat) (k v fm : Int) (r : Int → Int) (Q : ms_Q), f + 1 ≤ D → 0 ≤ k → k + f = L → 0 ≤ v → v ≤ B → (∀ j, 0 ≤ j → j ≤ k → 1 ≤ r j ∧ r j ≤ S) → Q (0, (pw_vs S B f k v r).1) Γ (ms_gs M (pw_vs S B f k v r).2.1 (if (pw_vs S B f k v r).1 = 1 then (pw_vs S B f k v r).2.2.2 + 1 else fm) (pw_vs S B f k v r).2.2.1) → ms_Call G mX12_goes D 0 0 [(2, 103), (0, k)] Γ (ms_gs M v fm r) Q := by
  intro f
  induction f with
  | zero =>
    intro D k v fm r Q hD k0 hk v0 v1 hr K
    obtain ⟨D', rfl⟩ : ∃ D', D = D' + 1 := ⟨D - 1, by omega⟩
    have hrk := hr k k0 (by omega)
    refine ms_Call.of (ls := [(2, 103), (0, k), (3, 0), (3, 0), (3, 0)]) (by decide +kernel) (Nat.le_of_ble_eq_true rfl) rfl (fun hM hv => ?_)
    refine ms_gq (kX12_goes G Q D') rfl ?_
    simp only [x_run, x_ci, x_cl, x_bin, x_dv, x_lbin, x_ldv, x_un, x_lcmp, x_lshl, x_dup0, x_dup2r, x_dup2, x_pop0, x_go, x_if1, x_if2, x_retf, x_rett, x_lret, x_vret, x_ald, x_bald, x_ast, x_bast, x_aast, x_oi, x_mx, x_acp, x_new, x_newa, x_anew, x_wt0, x_wti, x_wtl, x_wtr, x_lst4, x_lst8, x_ld0, x_st0, x_inc0, x_ld1, x_st1, x_inc1, x_ld2, x_st2, x_inc2, x_ld3, x_st3, x_inc3, x_ld4, x_st4, x_inc4, x_ld5, x_st5, x_inc5, x_ld6, x_st6, x_inc6, x_ld7, x_st7, x_inc7, x_ld8, x_st8, x_inc8, x_ld9, x_st9, x_inc9, x_ld10, x_st10, x_inc10, x_ld11, x_st11, x_inc11, x_ld12, x_st12, x_inc12, x_ld13, x_st13, x_inc13, x_get_0, x_put_0, x_get_1, x_put_1, x_get_2, x_put_2, x_get_3, x_put_3, x_get_4, x_put_4, x_get_5, x_put_5, x_get_6, x_put_6, x_get_7, x_put_7, x_get_8, x_put_8, x_get_9, x_put_9, x_get_10, x_put_10, x_get_11, x_put_11, x_get_12, x_put_12, x_get_13, x_put_13, x_get_14, x_put_14, x_get_15, x_put_15, x_get_16, x_put_16, x_get_17, x_put_17, x_get_18, x_put_18, x_get_19, x_put_19, x_get_20, x_put_20, x_get_21, x_put_21, x_get_22, x_put_22, x_get_23, x_put_23, x_get_24, x_put_24, x_get_25, x_put_25, x_get_26, x_put_26, x_get_27, x_put_27, x_get_28, x_put_28, x_get_29, x_put_29, x_get_30, x_put_30, x_get_31, x_put_31, x_get_32, x_put_32, x_get_33, x_put_33, x_get_34, x_put_34, x_get_35, x_put_35, x_get_36, x_put_36, x_get_37, x_put_37, x_get_38, x_put_38, x_get_39, x_put_39, x_get_40, x_put_40, x_get_41, x_put_41, x_get_42, x_put_42, x_get_43, x_put_43, x_get_44, x_put_44, x_invS0, x_invV0, x_invS1, x_invV1, x_invS2, x_invV2, x_invS3, x_invV3, x_invS4, x_invV4, x_invS5, x_invV5, x_invS6, x_invV6, x_invS7, x_invV7, true_and, and_true, true_or, or_true, false_or, or_false, ne_eq, not_true_eq_false, not_false_eq_true, implies_true, true_implies, false_implies, Nat.zero_le, Nat.le_refl, Nat.sub_self, Nat.sub_zero, if_true, if_false, reduceIte, Nat.reduceAdd, Nat.reduceSub, Nat.reduceLeDiff, Nat.reduceLT, Nat.reduceEqDiff, Int.reduceEq, Int.reduceNeg, Int.reduceLT, Int.reduceLE, pw_k103 hG, gs_v, gs_42, h4]
    unfold pw_vs at K
    refine ⟨fun z => ms_gq (kX12_goes G Q D') rfl ?_, fun z => ?_⟩
    · rw [if_neg (by omega)] at K
      simp only [x_run, x_ci, x_cl, x_bin, x_dv, x_lbin, x_ldv, x_un, x_lcmp, x_lshl, x_dup0, x_dup2r, x_dup2, x_pop0, x_go, x_if1, x_if2, x_retf, x_rett, x_lret, x_vret, x_ald, x_bald, x_ast, x_bast, x_aast, x_oi, x_mx, x_acp, x_new, x_newa, x_anew, x_wt0, x_wti, x_wtl, x_wtr, x_lst4, x_lst8, x_ld0, x_st0, x_inc0, x_ld1, x_st1, x_inc1, x_ld2, x_st2, x_inc2, x_ld3, x_st3, x_inc3, x_ld4, x_st4, x_inc4, x_ld5, x_st5, x_inc5, x_ld6, x_st6, x_inc6, x_ld7, x_st7, x_inc7, x_ld8, x_st8, x_inc8, x_ld9, x_st9, x_inc9, x_ld10, x_st10, x_inc10, x_ld11, x_st11, x_inc11, x_ld12, x_st12, x_inc12, x_ld13, x_st13, x_inc13, x_get_0, x_put_0, x_get_1, x_put_1, x_get_2, x_put_2, x_get_3, x_put_3, x_get_4, x_put_4, x_get_5, x_put_5, x_get_6, x_put_6, x_get_7, x_put_7, x_get_8, x_put_8, x_get_9, x_put_9, x_get_10, x_put_10, x_get_11, x_put_11, x_get_12, x_put_12, x_get_13, x_put_13, x_get_14, x_put_14, x_get_15, x_put_15, x_get_16, x_put_16, x_get_17, x_put_17, x_get_18, x_put_18, x_get_19, x_put_19, x_get_20, x_put_20, x_get_21, x_put_21, x_get_22, x_put_22, x_get_23, x_put_23, x_get_24, x_put_24, x_get_25, x_put_25, x_get_26, x_put_26, x_get_27, x_put_27, x_get_28, x_put_28, x_get_29, x_put_29, x_get_30, x_put_30, x_get_31, x_put_31, x_get_32, x_put_32, x_get_33, x_put_33, x_get_34, x_put_34, x_get_35, x_put_35, x_get_36, x_put_36, x_get_37, x_put_37, x_get_38, x_put_38, x_get_39, x_put_39, x_get_40, x_put_40, x_get_41, x_put_41, x_get_42, x_put_42, x_get_43, x_put_43, x_get_44, x_put_44, x_invS0, x_invV0, x_invS1, x_invV1, x_invS2, x_invV2, x_invS3, x_invV3, x_invS4, x_invV4, x_invS5, x_invV5, x_invS6, x_invV6, x_invS7, x_invV7, true_and, and_true, true_or, or_true, false_or, or_false, ne_eq, not_true_eq_false, not_false_eq_true, implies_true, true_implies, false_implies, Nat.zero_le, Nat.le_refl, Nat.sub_self, Nat.sub_zero, if_true, if_false, reduceIte, Nat.reduceAdd, Nat.reduceSub, Nat.reduceLeDiff, Nat.reduceLT, Nat.reduceEqDiff, Int.reduceEq, Int.reduceNeg, Int.reduceLT, Int.reduceLE, pw_k103 hG, pw_k128 hG, pw_l128 hG, gs_v, gs_41, gs_43, gs_u1, gs_rj, h0, h3]
      rw [w32_id (by omega) (by omega)]
      refine ⟨by omega, by omega, fun z1 => ms_gq (kX12_goes G Q D') rfl ?_, fun z1 => ?_⟩
      · rw [if_neg z1] at K
        simp only [x_run, x_ci, x_cl, x_bin, x_dv, x_lbin, x_ldv, x_un, x_lcmp, x_lshl, x_dup0, x_dup2r, x_dup2, x_pop0, x_go, x_if1, x_if2, x_retf, x_rett, x_lret, x_vret, x_ald, x_bald, x_ast, x_bast, x_aast, x_oi, x_mx, x_acp, x_new, x_newa, x_anew, x_wt0, x_wti, x_wtl, x_wtr, x_lst4, x_lst8, x_ld0, x_st0, x_inc0, x_ld1, x_st1, x_inc1, x_ld2, x_st2, x_inc2, x_ld3, x_st3, x_inc3, x_ld4, x_st4, x_inc4, x_ld5, x_st5, x_inc5, x_ld6, x_st6, x_inc6, x_ld7, x_st7, x_inc7, x_ld8, x_st8, x_inc8, x_ld9, x_st9, x_inc9, x_ld10, x_st10, x_inc10, x_ld11, x_st11, x_inc11, x_ld12, x_st12, x_inc12, x_ld13, x_st13, x_inc13, x_get_0, x_put_0, x_get_1, x_put_1, x_get_2, x_put_2, x_get_3, x_put_3, x_get_4, x_put_4, x_get_5, x_put_5, x_get_6, x_put_6, x_get_7, x_put_7, x_get_8, x_put_8, x_get_9, x_put_9, x_get_10, x_put_10, x_get_11, x_put_11, x_get_12, x_put_12, x_get_13, x_put_13, x_get_14, x_put_14, x_get_15, x_put_15, x_get_16, x_put_16, x_get_17, x_put_17, x_get_18, x_put_18, x_get_19, x_put_19, x_get_20, x_put_20, x_get_21, x_put_21, x_get_22, x_put_22, x_get_23, x_put_23, x_get_24, x_put_24, x_get_25, x_put_25, x_get_26, x_put_26, x_get_27, x_put_27, x_get_28, x_put_28, x_get_29, x_put_29, x_get_30, x_put_30, x_get_31, x_put_31, x_get_32, x_put_32, x_get_33, x_put_33, x_get_34, x_put_34, x_get_35, x_put_35, x_get_36, x_put_36, x_get_37, x_put_37, x_get_38, x_put_38, x_get_39, x_put_39, x_get_40, x_put_40, x_get_41, x_put_41, x_get_42, x_put_42, x_get_43, x_put_43, x_get_44, x_put_44, x_invS0, x_invV0, x_invS1, x_invV1, x_invS2, x_invV2, x_invS3, x_invV3, x_invS4, x_invV4, x_invS5, x_invV5, x_invS6, x_invV6, x_invS7, x_invV7, true_and, and_true, true_or, or_true, false_or, or_false, ne_eq, not_true_eq_false, not_false_eq_true, implies_true, true_implies, false_implies, Nat.zero_le, Nat.le_refl, Nat.sub_self, Nat.sub_zero, if_true, if_false, reduceIte, Nat.reduceAdd, Nat.reduceSub, Nat.reduceLeDiff, Nat.reduceLT, Nat.reduceEqDiff, Int.reduceEq, Int.reduceNeg, Int.reduceLT, Int.reduceLE, pw_k103 hG, gs_44, h5]
        refine ⟨fun _ => ms_gq (kX12_goes G Q D') rfl ?_, fun z2 => absurd (by omega) z2⟩
        simp only [x_run, x_ci, x_cl, x_bin, x_dv, x_lbin, x_ldv, x_un, x_lcmp, x_lshl, x_dup0, x_dup2r, x_dup2, x_pop0, x_go, x_if1, x_if2, x_retf, x_rett, x_lret, x_vret, x_ald, x_bald, x_ast, x_bast, x_aast, x_oi, x_mx, x_acp, x_new, x_newa, x_anew, x_wt0, x_wti, x_wtl, x_wtr, x_lst4, x_lst8, x_ld0, x_st0, x_inc0, x_ld1, x_st1, x_inc1, x_ld2, x_st2, x_inc2, x_ld3, x_st3, x_inc3, x_ld4, x_st4, x_inc4, x_ld5, x_st5, x_inc5, x_ld6, x_st6, x_inc6, x_ld7, x_st7, x_inc7, x_ld8, x_st8, x_inc8, x_ld9, x_st9, x_inc9, x_ld10, x_st10, x_inc10, x_ld11, x_st11, x_inc11, x_ld12, x_st12, x_inc12, x_ld13, x_st13, x_inc13, x_get_0, x_put_0, x_get_1, x_put_1, x_get_2, x_put_2, x_get_3, x_put_3, x_get_4, x_put_4, x_get_5, x_put_5, x_get_6, x_put_6, x_get_7, x_put_7, x_get_8, x_put_8, x_get_9, x_put_9, x_get_10, x_put_10, x_get_11, x_put_11, x_get_12, x_put_12, x_get_13, x_put_13, x_get_14, x_put_14, x_get_15, x_put_15, x_get_16, x_put_16, x_get_17, x_put_17, x_get_18, x_put_18, x_get_19, x_put_19, x_get_20, x_put_20, x_get_21, x_put_21, x_get_22, x_put_22, x_get_23, x_put_23, x_get_24, x_put_24, x_get_25, x_put_25, x_get_26, x_put_26, x_get_27, x_put_27, x_get_28, x_put_28, x_get_29, x_put_29, x_get_30, x_put_30, x_get_31, x_put_31, x_get_32, x_put_32, x_get_33, x_put_33, x_get_34, x_put_34, x_get_35, x_put_35, x_get_36, x_put_36, x_get_37, x_put_37, x_get_38, x_put_38, x_get_39, x_put_39, x_get_40, x_put_40, x_get_41, x_put_41, x_get_42, x_put_42, x_get_43, x_put_43, x_get_44, x_put_44, x_invS0, x_invV0, x_invS1, x_invV1, x_invS2, x_invV2, x_invS3, x_invV3, x_invS4, x_invV4, x_invS5, x_invV5, x_invS6, x_invV6, x_invS7, x_invV7, true_and, and_true, true_or, or_true, false_or, or_false, ne_eq, not_true_eq_false, not_false_eq_true, implies_true, true_implies, false_implies, Nat.zero_le, Nat.le_refl, Nat.sub_self, Nat.sub_zero, if_true, if_false, reduceIte, Nat.reduceAdd, Nat.reduceSub, Nat.reduceLeDiff, Nat.reduceLT, Nat.reduceEqDiff, Int.reduceEq, Int.reduceNeg, Int.reduceLT, Int.reduceLE]
        exact K
      · rw [if_pos (by omega)] at K
        simp only [gs_u2]
        rw [w32_id (by omega) (by omega)]
        exact K
    · rw [if_pos (by omega)] at K
      exact K
  | succ f ih =>
    intro D k v fm r Q hD k0 hk v0 v1 hr K
    obtain ⟨D', rfl⟩ : ∃ D', D = D' + 1 := ⟨D - 1, by omega⟩
    have hrk := hr k k0 (by omega)
    have hpw : (1 : Int) ≤ 2 ^ (f + 1) ∧ (2 : Int) ^ (f + 1) ≤ 1048576 := by
      have h := pw_p2 (f + 1)
      refine ⟨by omega, ?_⟩
      have : (2 : Nat) ^ (f + 1) ≤ 2 ^ 20 := Nat.pow_le_pow_right (by omega) (by omega)
      have h2 : ((2 ^ (f + 1) : Nat) : Int) ≤ ((2 ^ 20 : Nat) : Int) := Int.ofNat_le.mpr this
      rw [Int.natCast_pow, Int.natCast_pow] at h2
      exact h2
    have hmul : 0 ≤ r k * 2 ^ (f + 1) ∧ r k * 2 ^ (f + 1) ≤ 2047 * 1048576 := ⟨Int.mul_nonneg (by omega) (by omega), Int.mul_le_mul (by omega) hpw.2 (by omega) (by omega)⟩
    refine ms_Call.of (ls := [(2, 103), (0, k), (3, 0), (3, 0), (3, 0)]) (by decide +kernel) (Nat.le_of_ble_eq_true rfl) rfl (fun hM hv => ?_)
    refine ms_gq (kX12_goes G Q D') rfl ?_
    simp only [x_run, x_ci, x_cl, x_bin, x_dv, x_lbin, x_ldv, x_un, x_lcmp, x_lshl, x_dup0, x_dup2r, x_dup2, x_pop0, x_go, x_if1, x_if2, x_retf, x_rett, x_lret, x_vret, x_ald, x_bald, x_ast, x_bast, x_aast, x_oi, x_mx, x_acp, x_new, x_newa, x_anew, x_wt0, x_wti, x_wtl, x_wtr, x_lst4, x_lst8, x_ld0, x_st0, x_inc0, x_ld1, x_st1, x_inc1, x_ld2, x_st2, x_inc2, x_ld3, x_st3, x_inc3, x_ld4, x_st4, x_inc4, x_ld5, x_st5, x_inc5, x_ld6, x_st6, x_inc6, x_ld7, x_st7, x_inc7, x_ld8, x_st8, x_inc8, x_ld9, x_st9, x_inc9, x_ld10, x_st10, x_inc10, x_ld11, x_st11, x_inc11, x_ld12, x_st12, x_inc12, x_ld13, x_st13, x_inc13, x_get_0, x_put_0, x_get_1, x_put_1, x_get_2, x_put_2, x_get_3, x_put_3, x_get_4, x_put_4, x_get_5, x_put_5, x_get_6, x_put_6, x_get_7, x_put_7, x_get_8, x_put_8, x_get_9, x_put_9, x_get_10, x_put_10, x_get_11, x_put_11, x_get_12, x_put_12, x_get_13, x_put_13, x_get_14, x_put_14, x_get_15, x_put_15, x_get_16, x_put_16, x_get_17, x_put_17, x_get_18, x_put_18, x_get_19, x_put_19, x_get_20, x_put_20, x_get_21, x_put_21, x_get_22, x_put_22, x_get_23, x_put_23, x_get_24, x_put_24, x_get_25, x_put_25, x_get_26, x_put_26, x_get_27, x_put_27, x_get_28, x_put_28, x_get_29, x_put_29, x_get_30, x_put_30, x_get_31, x_put_31, x_get_32, x_put_32, x_get_33, x_put_33, x_get_34, x_put_34, x_get_35, x_put_35, x_get_36, x_put_36, x_get_37, x_put_37, x_get_38, x_put_38, x_get_39, x_put_39, x_get_40, x_put_40, x_get_41, x_put_41, x_get_42, x_put_42, x_get_43, x_put_43, x_get_44, x_put_44, x_invS0, x_invV0, x_invS1, x_invV1, x_invS2, x_invV2, x_invS3, x_invV3, x_invS4, x_invV4, x_invS5, x_invV5, x_invS6, x_invV6, x_invS7, x_invV7, true_and, and_true, true_or, or_true, false_or, or_false, ne_eq, not_true_eq_false, not_false_eq_true, implies_true, true_implies, false_implies, Nat.zero_le, Nat.le_refl, Nat.sub_self, Nat.sub_zero, if_true, if_false, reduceIte, Nat.reduceAdd, Nat.reduceSub, Nat.reduceLeDiff, Nat.reduceLT, Nat.reduceEqDiff, Int.reduceEq, Int.reduceNeg, Int.reduceLT, Int.reduceLE, pw_k103 hG, gs_v, gs_42, h4]
    unfold pw_vs at K
    refine ⟨fun z => ms_gq (kX12_goes G Q D') rfl ?_, fun z => ?_⟩
    · rw [if_neg (by omega)] at K
      simp only [x_run, x_ci, x_cl, x_bin, x_dv, x_lbin, x_ldv, x_un, x_lcmp, x_lshl, x_dup0, x_dup2r, x_dup2, x_pop0, x_go, x_if1, x_if2, x_retf, x_rett, x_lret, x_vret, x_ald, x_bald, x_ast, x_bast, x_aast, x_oi, x_mx, x_acp, x_new, x_newa, x_anew, x_wt0, x_wti, x_wtl, x_wtr, x_lst4, x_lst8, x_ld0, x_st0, x_inc0, x_ld1, x_st1, x_inc1, x_ld2, x_st2, x_inc2, x_ld3, x_st3, x_inc3, x_ld4, x_st4, x_inc4, x_ld5, x_st5, x_inc5, x_ld6, x_st6, x_inc6, x_ld7, x_st7, x_inc7, x_ld8, x_st8, x_inc8, x_ld9, x_st9, x_inc9, x_ld10, x_st10, x_inc10, x_ld11, x_st11, x_inc11, x_ld12, x_st12, x_inc12, x_ld13, x_st13, x_inc13, x_get_0, x_put_0, x_get_1, x_put_1, x_get_2, x_put_2, x_get_3, x_put_3, x_get_4, x_put_4, x_get_5, x_put_5, x_get_6, x_put_6, x_get_7, x_put_7, x_get_8, x_put_8, x_get_9, x_put_9, x_get_10, x_put_10, x_get_11, x_put_11, x_get_12, x_put_12, x_get_13, x_put_13, x_get_14, x_put_14, x_get_15, x_put_15, x_get_16, x_put_16, x_get_17, x_put_17, x_get_18, x_put_18, x_get_19, x_put_19, x_get_20, x_put_20, x_get_21, x_put_21, x_get_22, x_put_22, x_get_23, x_put_23, x_get_24, x_put_24, x_get_25, x_put_25, x_get_26, x_put_26, x_get_27, x_put_27, x_get_28, x_put_28, x_get_29, x_put_29, x_get_30, x_put_30, x_get_31, x_put_31, x_get_32, x_put_32, x_get_33, x_put_33, x_get_34, x_put_34, x_get_35, x_put_35, x_get_36, x_put_36, x_get_37, x_put_37, x_get_38, x_put_38, x_get_39, x_put_39, x_get_40, x_put_40, x_get_41, x_put_41, x_get_42, x_put_42, x_get_43, x_put_43, x_get_44, x_put_44, x_invS0, x_invV0, x_invS1, x_invV1, x_invS2, x_invV2, x_invS3, x_invV3, x_invS4, x_invV4, x_invS5, x_invV5, x_invS6, x_invV6, x_invS7, x_invV7, true_and, and_true, true_or, or_true, false_or, or_false, ne_eq, not_true_eq_false, not_false_eq_true, implies_true, true_implies, false_implies, Nat.zero_le, Nat.le_refl, Nat.sub_self, Nat.sub_zero, if_true, if_false, reduceIte, Nat.reduceAdd, Nat.reduceSub, Nat.reduceLeDiff, Nat.reduceLT, Nat.reduceEqDiff, Int.reduceEq, Int.reduceNeg, Int.reduceLT, Int.reduceLE, pw_k103 hG, pw_k128 hG, pw_l128 hG, gs_v, gs_41, gs_43, gs_u1, gs_rj, h0, h3]
      rw [w32_id (by omega) (by omega)]
      refine ⟨by omega, by omega, fun z1 => ms_gq (kX12_goes G Q D') rfl ?_, fun z1 => ?_⟩
      · rw [if_neg z1] at K
        simp only [x_run, x_ci, x_cl, x_bin, x_dv, x_lbin, x_ldv, x_un, x_lcmp, x_lshl, x_dup0, x_dup2r, x_dup2, x_pop0, x_go, x_if1, x_if2, x_retf, x_rett, x_lret, x_vret, x_ald, x_bald, x_ast, x_bast, x_aast, x_oi, x_mx, x_acp, x_new, x_newa, x_anew, x_wt0, x_wti, x_wtl, x_wtr, x_lst4, x_lst8, x_ld0, x_st0, x_inc0, x_ld1, x_st1, x_inc1, x_ld2, x_st2, x_inc2, x_ld3, x_st3, x_inc3, x_ld4, x_st4, x_inc4, x_ld5, x_st5, x_inc5, x_ld6, x_st6, x_inc6, x_ld7, x_st7, x_inc7, x_ld8, x_st8, x_inc8, x_ld9, x_st9, x_inc9, x_ld10, x_st10, x_inc10, x_ld11, x_st11, x_inc11, x_ld12, x_st12, x_inc12, x_ld13, x_st13, x_inc13, x_get_0, x_put_0, x_get_1, x_put_1, x_get_2, x_put_2, x_get_3, x_put_3, x_get_4, x_put_4, x_get_5, x_put_5, x_get_6, x_put_6, x_get_7, x_put_7, x_get_8, x_put_8, x_get_9, x_put_9, x_get_10, x_put_10, x_get_11, x_put_11, x_get_12, x_put_12, x_get_13, x_put_13, x_get_14, x_put_14, x_get_15, x_put_15, x_get_16, x_put_16, x_get_17, x_put_17, x_get_18, x_put_18, x_get_19, x_put_19, x_get_20, x_put_20, x_get_21, x_put_21, x_get_22, x_put_22, x_get_23, x_put_23, x_get_24, x_put_24, x_get_25, x_put_25, x_get_26, x_put_26, x_get_27, x_put_27, x_get_28, x_put_28, x_get_29, x_put_29, x_get_30, x_put_30, x_get_31, x_put_31, x_get_32, x_put_32, x_get_33, x_put_33, x_get_34, x_put_34, x_get_35, x_put_35, x_get_36, x_put_36, x_get_37, x_put_37, x_get_38, x_put_38, x_get_39, x_put_39, x_get_40, x_put_40, x_get_41, x_put_41, x_get_42, x_put_42, x_get_43, x_put_43, x_get_44, x_put_44, x_invS0, x_invV0, x_invS1, x_invV1, x_invS2, x_invV2, x_invS3, x_invV3, x_invS4, x_invV4, x_invS5, x_invV5, x_invS6, x_invV6, x_invS7, x_invV7, true_and, and_true, true_or, or_true, false_or, or_false, ne_eq, not_true_eq_false, not_false_eq_true, implies_true, true_implies, false_implies, Nat.zero_le, Nat.le_refl, Nat.sub_self, Nat.sub_zero, if_true, if_false, reduceIte, Nat.reduceAdd, Nat.reduceSub, Nat.reduceLeDiff, Nat.reduceLT, Nat.reduceEqDiff, Int.reduceEq, Int.reduceNeg, Int.reduceLT, Int.reduceLE, pw_k103 hG, gs_44, gs_43, h5, h3]
        rw [w32_id (by omega) (by omega)]
        have hlk : ((L : Int) - k).toNat = f + 1 := by omega
        rw [wshl_eq (by omega) (by omega) (by omega) (by rw [hlk]; omega), hlk]
        have r70 : Q (0, 0) Γ (ms_gs M (v + 1) fm r) → ms_At G Q mX12_goes (D' + 1) 0 0 70 [(2, 103), (0, k), (0, r k), (3, 0), (3, 0)] [] Γ (ms_gs M (v + 1) fm r) := fun h => ms_gq (kX12_goes G Q D') rfl (by simp only [x_run, x_ci, x_cl, x_bin, x_dv, x_lbin, x_ldv, x_un, x_lcmp, x_lshl, x_dup0, x_dup2r, x_dup2, x_pop0, x_go, x_if1, x_if2, x_retf, x_rett, x_lret, x_vret, x_ald, x_bald, x_ast, x_bast, x_aast, x_oi, x_mx, x_acp, x_new, x_newa, x_anew, x_wt0, x_wti, x_wtl, x_wtr, x_lst4, x_lst8, x_ld0, x_st0, x_inc0, x_ld1, x_st1, x_inc1, x_ld2, x_st2, x_inc2, x_ld3, x_st3, x_inc3, x_ld4, x_st4, x_inc4, x_ld5, x_st5, x_inc5, x_ld6, x_st6, x_inc6, x_ld7, x_st7, x_inc7, x_ld8, x_st8, x_inc8, x_ld9, x_st9, x_inc9, x_ld10, x_st10, x_inc10, x_ld11, x_st11, x_inc11, x_ld12, x_st12, x_inc12, x_ld13, x_st13, x_inc13, x_get_0, x_put_0, x_get_1, x_put_1, x_get_2, x_put_2, x_get_3, x_put_3, x_get_4, x_put_4, x_get_5, x_put_5, x_get_6, x_put_6, x_get_7, x_put_7, x_get_8, x_put_8, x_get_9, x_put_9, x_get_10, x_put_10, x_get_11, x_put_11, x_get_12, x_put_12, x_get_13, x_put_13, x_get_14, x_put_14, x_get_15, x_put_15, x_get_16, x_put_16, x_get_17, x_put_17, x_get_18, x_put_18, x_get_19, x_put_19, x_get_20, x_put_20, x_get_21, x_put_21, x_get_22, x_put_22, x_get_23, x_put_23, x_get_24, x_put_24, x_get_25, x_put_25, x_get_26, x_put_26, x_get_27, x_put_27, x_get_28, x_put_28, x_get_29, x_put_29, x_get_30, x_put_30, x_get_31, x_put_31, x_get_32, x_put_32, x_get_33, x_put_33, x_get_34, x_put_34, x_get_35, x_put_35, x_get_36, x_put_36, x_get_37, x_put_37, x_get_38, x_put_38, x_get_39, x_put_39, x_get_40, x_put_40, x_get_41, x_put_41, x_get_42, x_put_42, x_get_43, x_put_43, x_get_44, x_put_44, x_invS0, x_invV0, x_invS1, x_invV1, x_invS2, x_invV2, x_invS3, x_invV3, x_invS4, x_invV4, x_invS5, x_invV5, x_invS6, x_invV6, x_invS7, x_invV7, true_and, and_true, true_or, or_true, false_or, or_false, ne_eq, not_true_eq_false, not_false_eq_true, implies_true, true_implies, false_implies, Nat.zero_le, Nat.le_refl, Nat.sub_self, Nat.sub_zero, if_true, if_false, reduceIte, Nat.reduceAdd, Nat.reduceSub, Nat.reduceLeDiff, Nat.reduceLT, Nat.reduceEqDiff, Int.reduceEq, Int.reduceNeg, Int.reduceLT, Int.reduceLE]; exact h)
        refine ⟨fun z2 => absurd z2 (by omega), fun _ => ⟨fun z2 => ms_gq (kX12_goes G Q D') rfl ?_, fun z2 => r70 ?_⟩⟩
        · rw [if_neg (by omega)] at K
          simp only [x_run, x_ci, x_cl, x_bin, x_dv, x_lbin, x_ldv, x_un, x_lcmp, x_lshl, x_dup0, x_dup2r, x_dup2, x_pop0, x_go, x_if1, x_if2, x_retf, x_rett, x_lret, x_vret, x_ald, x_bald, x_ast, x_bast, x_aast, x_oi, x_mx, x_acp, x_new, x_newa, x_anew, x_wt0, x_wti, x_wtl, x_wtr, x_lst4, x_lst8, x_ld0, x_st0, x_inc0, x_ld1, x_st1, x_inc1, x_ld2, x_st2, x_inc2, x_ld3, x_st3, x_inc3, x_ld4, x_st4, x_inc4, x_ld5, x_st5, x_inc5, x_ld6, x_st6, x_inc6, x_ld7, x_st7, x_inc7, x_ld8, x_st8, x_inc8, x_ld9, x_st9, x_inc9, x_ld10, x_st10, x_inc10, x_ld11, x_st11, x_inc11, x_ld12, x_st12, x_inc12, x_ld13, x_st13, x_inc13, x_get_0, x_put_0, x_get_1, x_put_1, x_get_2, x_put_2, x_get_3, x_put_3, x_get_4, x_put_4, x_get_5, x_put_5, x_get_6, x_put_6, x_get_7, x_put_7, x_get_8, x_put_8, x_get_9, x_put_9, x_get_10, x_put_10, x_get_11, x_put_11, x_get_12, x_put_12, x_get_13, x_put_13, x_get_14, x_put_14, x_get_15, x_put_15, x_get_16, x_put_16, x_get_17, x_put_17, x_get_18, x_put_18, x_get_19, x_put_19, x_get_20, x_put_20, x_get_21, x_put_21, x_get_22, x_put_22, x_get_23, x_put_23, x_get_24, x_put_24, x_get_25, x_put_25, x_get_26, x_put_26, x_get_27, x_put_27, x_get_28, x_put_28, x_get_29, x_put_29, x_get_30, x_put_30, x_get_31, x_put_31, x_get_32, x_put_32, x_get_33, x_put_33, x_get_34, x_put_34, x_get_35, x_put_35, x_get_36, x_put_36, x_get_37, x_put_37, x_get_38, x_put_38, x_get_39, x_put_39, x_get_40, x_put_40, x_get_41, x_put_41, x_get_42, x_put_42, x_get_43, x_put_43, x_get_44, x_put_44, x_invS0, x_invV0, x_invS1, x_invV1, x_invS2, x_invV2, x_invS3, x_invV3, x_invS4, x_invV4, x_invS5, x_invV5, x_invS6, x_invV6, x_invS7, x_invV7, true_and, and_true, true_or, or_true, false_or, or_false, ne_eq, not_true_eq_false, not_false_eq_true, implies_true, true_implies, false_implies, Nat.zero_le, Nat.le_refl, Nat.sub_self, Nat.sub_zero, if_true, if_false, reduceIte, Nat.reduceAdd, Nat.reduceSub, Nat.reduceLeDiff, Nat.reduceLT, Nat.reduceEqDiff, Int.reduceEq, Int.reduceNeg, Int.reduceLT, Int.reduceLE]
          generalize hW : pw_vl S k (r k) (pw_vs S B f (k + 1)) (k + 1).toNat (v + 1) r = Wr at K
          have loop := pw_dn (lo := -1) (p := fun i => i ≤ k → ∀ (v' : Int) (r' : Int → Int) (z4 : ms_V), 0 ≤ v' → v' ≤ B → (∀ j, j ≤ k → r' j = r j) → pw_vl S k (r k) (pw_vs S B f (k + 1)) (i + 1).toNat v' r' = Wr → ms_At G Q mX12_goes (D' + 1) 0 0 74 [(2, 103), (0, k), (0, r k), (0, i), z4] [] Γ (ms_gs M v' fm r')) (by
            intro i hi ihi hik v' r' z4 hv0 hv1 hrr q2
            refine ms_gq (kX12_goes G Q D') rfl ?_
            simp only [x_run, x_ci, x_cl, x_bin, x_dv, x_lbin, x_ldv, x_un, x_lcmp, x_lshl, x_dup0, x_dup2r, x_dup2, x_pop0, x_go, x_if1, x_if2, x_retf, x_rett, x_lret, x_vret, x_ald, x_bald, x_ast, x_bast, x_aast, x_oi, x_mx, x_acp, x_new, x_newa, x_anew, x_wt0, x_wti, x_wtl, x_wtr, x_lst4, x_lst8, x_ld0, x_st0, x_inc0, x_ld1, x_st1, x_inc1, x_ld2, x_st2, x_inc2, x_ld3, x_st3, x_inc3, x_ld4, x_st4, x_inc4, x_ld5, x_st5, x_inc5, x_ld6, x_st6, x_inc6, x_ld7, x_st7, x_inc7, x_ld8, x_st8, x_inc8, x_ld9, x_st9, x_inc9, x_ld10, x_st10, x_inc10, x_ld11, x_st11, x_inc11, x_ld12, x_st12, x_inc12, x_ld13, x_st13, x_inc13, x_get_0, x_put_0, x_get_1, x_put_1, x_get_2, x_put_2, x_get_3, x_put_3, x_get_4, x_put_4, x_get_5, x_put_5, x_get_6, x_put_6, x_get_7, x_put_7, x_get_8, x_put_8, x_get_9, x_put_9, x_get_10, x_put_10, x_get_11, x_put_11, x_get_12, x_put_12, x_get_13, x_put_13, x_get_14, x_put_14, x_get_15, x_put_15, x_get_16, x_put_16, x_get_17, x_put_17, x_get_18, x_put_18, x_get_19, x_put_19, x_get_20, x_put_20, x_get_21, x_put_21, x_get_22, x_put_22, x_get_23, x_put_23, x_get_24, x_put_24, x_get_25, x_put_25, x_get_26, x_put_26, x_get_27, x_put_27, x_get_28, x_put_28, x_get_29, x_put_29, x_get_30, x_put_30, x_get_31, x_put_31, x_get_32, x_put_32, x_get_33, x_put_33, x_get_34, x_put_34, x_get_35, x_put_35, x_get_36, x_put_36, x_get_37, x_put_37, x_get_38, x_put_38, x_get_39, x_put_39, x_get_40, x_put_40, x_get_41, x_put_41, x_get_42, x_put_42, x_get_43, x_put_43, x_get_44, x_put_44, x_invS0, x_invV0, x_invS1, x_invV1, x_invS2, x_invV2, x_invS3, x_invV3, x_invS4, x_invV4, x_invS5, x_invV5, x_invS6, x_invV6, x_invS7, x_invV7, true_and, and_true, true_or, or_true, false_or, or_false, ne_eq, not_true_eq_false, not_false_eq_true, implies_true, true_implies, false_implies, Nat.zero_le, Nat.le_refl, Nat.sub_self, Nat.sub_zero, if_true, if_false, reduceIte, Nat.reduceAdd, Nat.reduceSub, Nat.reduceLeDiff, Nat.reduceLT, Nat.reduceEqDiff, Int.reduceEq, Int.reduceNeg, Int.reduceLT, Int.reduceLE, pw_k103 hG, pw_k128 hG, pw_l128 hG, gs_41, gs_43, gs_rj, h0, h3]
            refine ⟨fun z3 => ms_gq (kX12_goes G Q D') rfl ?_, fun z3 => ?_⟩
            · rw [show (i + 1).toNat = 0 by omega] at q2
              have q3 : Wr = (0, v', r', 0) := q2.symm
              rw [q3] at K
              simp only [if_neg (show ¬ ((0 : Int) = 1) by omega)] at K
              simp only [x_run, x_ci, x_cl, x_bin, x_dv, x_lbin, x_ldv, x_un, x_lcmp, x_lshl, x_dup0, x_dup2r, x_dup2, x_pop0, x_go, x_if1, x_if2, x_retf, x_rett, x_lret, x_vret, x_ald, x_bald, x_ast, x_bast, x_aast, x_oi, x_mx, x_acp, x_new, x_newa, x_anew, x_wt0, x_wti, x_wtl, x_wtr, x_lst4, x_lst8, x_ld0, x_st0, x_inc0, x_ld1, x_st1, x_inc1, x_ld2, x_st2, x_inc2, x_ld3, x_st3, x_inc3, x_ld4, x_st4, x_inc4, x_ld5, x_st5, x_inc5, x_ld6, x_st6, x_inc6, x_ld7, x_st7, x_inc7, x_ld8, x_st8, x_inc8, x_ld9, x_st9, x_inc9, x_ld10, x_st10, x_inc10, x_ld11, x_st11, x_inc11, x_ld12, x_st12, x_inc12, x_ld13, x_st13, x_inc13, x_get_0, x_put_0, x_get_1, x_put_1, x_get_2, x_put_2, x_get_3, x_put_3, x_get_4, x_put_4, x_get_5, x_put_5, x_get_6, x_put_6, x_get_7, x_put_7, x_get_8, x_put_8, x_get_9, x_put_9, x_get_10, x_put_10, x_get_11, x_put_11, x_get_12, x_put_12, x_get_13, x_put_13, x_get_14, x_put_14, x_get_15, x_put_15, x_get_16, x_put_16, x_get_17, x_put_17, x_get_18, x_put_18, x_get_19, x_put_19, x_get_20, x_put_20, x_get_21, x_put_21, x_get_22, x_put_22, x_get_23, x_put_23, x_get_24, x_put_24, x_get_25, x_put_25, x_get_26, x_put_26, x_get_27, x_put_27, x_get_28, x_put_28, x_get_29, x_put_29, x_get_30, x_put_30, x_get_31, x_put_31, x_get_32, x_put_32, x_get_33, x_put_33, x_get_34, x_put_34, x_get_35, x_put_35, x_get_36, x_put_36, x_get_37, x_put_37, x_get_38, x_put_38, x_get_39, x_put_39, x_get_40, x_put_40, x_get_41, x_put_41, x_get_42, x_put_42, x_get_43, x_put_43, x_get_44, x_put_44, x_invS0, x_invV0, x_invS1, x_invV1, x_invS2, x_invV2, x_invS3, x_invV3, x_invS4, x_invV4, x_invS5, x_invV5, x_invS6, x_invV6, x_invS7, x_invV7, true_and, and_true, true_or, or_true, false_or, or_false, ne_eq, not_true_eq_false, not_false_eq_true, implies_true, true_implies, false_implies, Nat.zero_le, Nat.le_refl, Nat.sub_self, Nat.sub_zero, if_true, if_false, reduceIte, Nat.reduceAdd, Nat.reduceSub, Nat.reduceLeDiff, Nat.reduceLT, Nat.reduceEqDiff, Int.reduceEq, Int.reduceNeg, Int.reduceLT, Int.reduceLE]
              exact K
            · have e1 : (i + 1).toNat = i.toNat + 1 := by omega
              rw [e1] at q2
              unfold pw_vl at q2
              rw [show ((i.toNat : Nat) : Int) = i by omega] at q2
              have hri := hr i (by omega) (by omega)
              have hrri := hrr i (by omega)
              rw [w32_id (x := r k + r' i) (by omega) (by omega)]
              have r129 : ∀ (v2 : Int) (r2 : Int → Int) (z4 : ms_V), 0 ≤ v2 → v2 ≤ B → (∀ j, j ≤ k → r2 j = r j) → pw_vl S k (r k) (pw_vs S B f (k + 1)) i.toNat v2 r2 = Wr → ms_At G Q mX12_goes (D' + 1) 0 0 129 [(2, 103), (0, k), (0, r k), (0, i), z4] [] Γ (ms_gs M v2 fm r2) := by
                intro v2 r2 z4 g1 g2 g3 g4
                refine ms_gq (kX12_goes G Q D') rfl ?_
                simp only [x_run, x_ci, x_cl, x_bin, x_dv, x_lbin, x_ldv, x_un, x_lcmp, x_lshl, x_dup0, x_dup2r, x_dup2, x_pop0, x_go, x_if1, x_if2, x_retf, x_rett, x_lret, x_vret, x_ald, x_bald, x_ast, x_bast, x_aast, x_oi, x_mx, x_acp, x_new, x_newa, x_anew, x_wt0, x_wti, x_wtl, x_wtr, x_lst4, x_lst8, x_ld0, x_st0, x_inc0, x_ld1, x_st1, x_inc1, x_ld2, x_st2, x_inc2, x_ld3, x_st3, x_inc3, x_ld4, x_st4, x_inc4, x_ld5, x_st5, x_inc5, x_ld6, x_st6, x_inc6, x_ld7, x_st7, x_inc7, x_ld8, x_st8, x_inc8, x_ld9, x_st9, x_inc9, x_ld10, x_st10, x_inc10, x_ld11, x_st11, x_inc11, x_ld12, x_st12, x_inc12, x_ld13, x_st13, x_inc13, x_get_0, x_put_0, x_get_1, x_put_1, x_get_2, x_put_2, x_get_3, x_put_3, x_get_4, x_put_4, x_get_5, x_put_5, x_get_6, x_put_6, x_get_7, x_put_7, x_get_8, x_put_8, x_get_9, x_put_9, x_get_10, x_put_10, x_get_11, x_put_11, x_get_12, x_put_12, x_get_13, x_put_13, x_get_14, x_put_14, x_get_15, x_put_15, x_get_16, x_put_16, x_get_17, x_put_17, x_get_18, x_put_18, x_get_19, x_put_19, x_get_20, x_put_20, x_get_21, x_put_21, x_get_22, x_put_22, x_get_23, x_put_23, x_get_24, x_put_24, x_get_25, x_put_25, x_get_26, x_put_26, x_get_27, x_put_27, x_get_28, x_put_28, x_get_29, x_put_29, x_get_30, x_put_30, x_get_31, x_put_31, x_get_32, x_put_32, x_get_33, x_put_33, x_get_34, x_put_34, x_get_35, x_put_35, x_get_36, x_put_36, x_get_37, x_put_37, x_get_38, x_put_38, x_get_39, x_put_39, x_get_40, x_put_40, x_get_41, x_put_41, x_get_42, x_put_42, x_get_43, x_put_43, x_get_44, x_put_44, x_invS0, x_invV0, x_invS1, x_invV1, x_invS2, x_invV2, x_invS3, x_invV3, x_invS4, x_invV4, x_invS5, x_invV5, x_invS6, x_invV6, x_invS7, x_invV7, true_and, and_true, true_or, or_true, false_or, or_false, ne_eq, not_true_eq_false, not_false_eq_true, implies_true, true_implies, false_implies, Nat.zero_le, Nat.le_refl, Nat.sub_self, Nat.sub_zero, if_true, if_false, reduceIte, Nat.reduceAdd, Nat.reduceSub, Nat.reduceLeDiff, Nat.reduceLT, Nat.reduceEqDiff, Int.reduceEq, Int.reduceNeg, Int.reduceLT, Int.reduceLE]
                rw [w32_id (by omega) (by omega), show i + -1 = i - 1 by omega]
                exact ihi (i - 1) (by omega) (by omega) (by omega) v2 r2 z4 g1 g2 g3 (by rw [show (i - 1 + 1).toNat = i.toNat by omega]; exact g4)
              refine ⟨by omega, by omega, fun z5 => ms_gq (kX12_goes G Q D') rfl ?_, fun z5 => r129 v' r' z4 hv0 hv1 hrr (by rw [if_pos (by omega)] at q2; exact q2)⟩
              rw [if_neg (by omega)] at q2
              simp only [x_run, x_ci, x_cl, x_bin, x_dv, x_lbin, x_ldv, x_un, x_lcmp, x_lshl, x_dup0, x_dup2r, x_dup2, x_pop0, x_go, x_if1, x_if2, x_retf, x_rett, x_lret, x_vret, x_ald, x_bald, x_ast, x_bast, x_aast, x_oi, x_mx, x_acp, x_new, x_newa, x_anew, x_wt0, x_wti, x_wtl, x_wtr, x_lst4, x_lst8, x_ld0, x_st0, x_inc0, x_ld1, x_st1, x_inc1, x_ld2, x_st2, x_inc2, x_ld3, x_st3, x_inc3, x_ld4, x_st4, x_inc4, x_ld5, x_st5, x_inc5, x_ld6, x_st6, x_inc6, x_ld7, x_st7, x_inc7, x_ld8, x_st8, x_inc8, x_ld9, x_st9, x_inc9, x_ld10, x_st10, x_inc10, x_ld11, x_st11, x_inc11, x_ld12, x_st12, x_inc12, x_ld13, x_st13, x_inc13, x_get_0, x_put_0, x_get_1, x_put_1, x_get_2, x_put_2, x_get_3, x_put_3, x_get_4, x_put_4, x_get_5, x_put_5, x_get_6, x_put_6, x_get_7, x_put_7, x_get_8, x_put_8, x_get_9, x_put_9, x_get_10, x_put_10, x_get_11, x_put_11, x_get_12, x_put_12, x_get_13, x_put_13, x_get_14, x_put_14, x_get_15, x_put_15, x_get_16, x_put_16, x_get_17, x_put_17, x_get_18, x_put_18, x_get_19, x_put_19, x_get_20, x_put_20, x_get_21, x_put_21, x_get_22, x_put_22, x_get_23, x_put_23, x_get_24, x_put_24, x_get_25, x_put_25, x_get_26, x_put_26, x_get_27, x_put_27, x_get_28, x_put_28, x_get_29, x_put_29, x_get_30, x_put_30, x_get_31, x_put_31, x_get_32, x_put_32, x_get_33, x_put_33, x_get_34, x_put_34, x_get_35, x_put_35, x_get_36, x_put_36, x_get_37, x_put_37, x_get_38, x_put_38, x_get_39, x_put_39, x_get_40, x_put_40, x_get_41, x_put_41, x_get_42, x_put_42, x_get_43, x_put_43, x_get_44, x_put_44, x_invS0, x_invV0, x_invS1, x_invV1, x_invS2, x_invV2, x_invS3, x_invV3, x_invS4, x_invV4, x_invS5, x_invV5, x_invS6, x_invV6, x_invS7, x_invV7, true_and, and_true, true_or, or_true, false_or, or_false, ne_eq, not_true_eq_false, not_false_eq_true, implies_true, true_implies, false_implies, Nat.zero_le, Nat.le_refl, Nat.sub_self, Nat.sub_zero, if_true, if_false, reduceIte, Nat.reduceAdd, Nat.reduceSub, Nat.reduceLeDiff, Nat.reduceLT, Nat.reduceEqDiff, Int.reduceEq, Int.reduceNeg, Int.reduceLT, Int.reduceLE, pw_k103 hG, pw_k128 hG, pw_l128 hG, gs_41, gs_rj, h0]
              rw [w32_id (x := r k + r' i) (by omega) (by omega), w32_id (x := k + 1) (by omega) (by omega), gs_ur]
              refine ⟨by omega, by omega, by omega, by omega, ih D' (k + 1) v' fm _ _ (by omega) (by omega) (by omega) hv0 hv1 (fun j j0 j1 => ?_) ?_⟩
              · by_cases hj : j = k + 1
                · simp only [if_pos hj]; omega
                · simp only [if_neg hj]
                  rw [hrr j (by omega)]
                  exact hr j j0 (by omega)
              · have hvis := pw_vs_vis (S := S) (B := B) f (k + 1) v' (fun j => if j = k + 1 then r k + r' i else r' j) hv1
                have hrng := pw_vs_rng (S := S) (B := B) f (k + 1) v' (fun j => if j = k + 1 then r k + r' i else r' j)
                simp only [x_run, x_ci, x_cl, x_bin, x_dv, x_lbin, x_ldv, x_un, x_lcmp, x_lshl, x_dup0, x_dup2r, x_dup2, x_pop0, x_go, x_if1, x_if2, x_retf, x_rett, x_lret, x_vret, x_ald, x_bald, x_ast, x_bast, x_aast, x_oi, x_mx, x_acp, x_new, x_newa, x_anew, x_wt0, x_wti, x_wtl, x_wtr, x_lst4, x_lst8, x_ld0, x_st0, x_inc0, x_ld1, x_st1, x_inc1, x_ld2, x_st2, x_inc2, x_ld3, x_st3, x_inc3, x_ld4, x_st4, x_inc4, x_ld5, x_st5, x_inc5, x_ld6, x_st6, x_inc6, x_ld7, x_st7, x_inc7, x_ld8, x_st8, x_inc8, x_ld9, x_st9, x_inc9, x_ld10, x_st10, x_inc10, x_ld11, x_st11, x_inc11, x_ld12, x_st12, x_inc12, x_ld13, x_st13, x_inc13, x_get_0, x_put_0, x_get_1, x_put_1, x_get_2, x_put_2, x_get_3, x_put_3, x_get_4, x_put_4, x_get_5, x_put_5, x_get_6, x_put_6, x_get_7, x_put_7, x_get_8, x_put_8, x_get_9, x_put_9, x_get_10, x_put_10, x_get_11, x_put_11, x_get_12, x_put_12, x_get_13, x_put_13, x_get_14, x_put_14, x_get_15, x_put_15, x_get_16, x_put_16, x_get_17, x_put_17, x_get_18, x_put_18, x_get_19, x_put_19, x_get_20, x_put_20, x_get_21, x_put_21, x_get_22, x_put_22, x_get_23, x_put_23, x_get_24, x_put_24, x_get_25, x_put_25, x_get_26, x_put_26, x_get_27, x_put_27, x_get_28, x_put_28, x_get_29, x_put_29, x_get_30, x_put_30, x_get_31, x_put_31, x_get_32, x_put_32, x_get_33, x_put_33, x_get_34, x_put_34, x_get_35, x_put_35, x_get_36, x_put_36, x_get_37, x_put_37, x_get_38, x_put_38, x_get_39, x_put_39, x_get_40, x_put_40, x_get_41, x_put_41, x_get_42, x_put_42, x_get_43, x_put_43, x_get_44, x_put_44, x_invS0, x_invV0, x_invS1, x_invV1, x_invS2, x_invV2, x_invS3, x_invV3, x_invS4, x_invV4, x_invS5, x_invV5, x_invS6, x_invV6, x_invS7, x_invV7, true_and, and_true, true_or, or_true, false_or, or_false, ne_eq, not_true_eq_false, not_false_eq_true, implies_true, true_implies, false_implies, Nat.zero_le, Nat.le_refl, Nat.sub_self, Nat.sub_zero, if_true, if_false, reduceIte, Nat.reduceAdd, Nat.reduceSub, Nat.reduceLeDiff, Nat.reduceLT, Nat.reduceEqDiff, Int.reduceEq, Int.reduceNeg, Int.reduceLT, Int.reduceLE]
                refine ⟨fun q => ?_, fun q => ?_⟩
                · have q0 : (pw_vs S B f (k + 1) v' (fun j => if j = k + 1 then r k + r' i else r' j)).1 = 0 := by omega
                  rw [if_pos q0] at q2
                  rw [if_neg (by omega)]
                  refine r129 _ _ _ (by omega) hvis.2 (fun j hj => ?_) q2
                  rw [pw_vs_keep f (k + 1) v' _ j (by omega), if_neg (by omega)]
                  exact hrr j hj
                · rw [if_neg (by omega)] at q2
                  rw [← q2] at K
                  exact K)
          exact loop k (by omega) (by omega) (v + 1) r _ (by omega) (by omega) (fun _ _ => rfl) hW
        · rw [if_pos (by omega)] at K
          exact K
      · rw [if_pos (by omega)] at K
        simp only [gs_u2]
        rw [w32_id (by omega) (by omega)]
        exact K
    · rw [if_pos (by omega)] at K
      exact K
end CMS
