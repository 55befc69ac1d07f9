/-! ===== texts: the class's powers, statements, whole texts ===== -/
theorem tx_fin_ok {b nm : Int → Int} {n p name cnt : Int} {D D' : pw_P} (ho : pw_ok D) (p0 : 0 ≤ p) (pn : p ≤ n) (h1 : D'.1 = D.1) (h2 : D'.2.1 = D.2.1 + cnt) (h3 : D'.2.2.1 = D.2.2.1) (hl : pw_lnk D') (hc : 0 ≤ cnt) (h : (tx_fin b n p name cnt D D' nm).1 = 0) : pw_ok D' ∧ tx_fin b n p name cnt D D' nm = (0, (tk b n p).2.2.2, D', tx_ns nm (D.1 + D.2.1) (D'.1 + D'.2.1) name) := by
  obtain ⟨b0, b1, e0, e1, w0, w1⟩ := id ho.1
  have hti := tk_in (b := b) p0 pn
  unfold tx_fin at h ⊢
  by_cases h59 : (tk b n p).1 = 59
  · rw [if_pos h59] at h ⊢
    by_cases h60 : 60 < D.2.1 + cnt
    · rw [if_pos h60] at h
      simp only at h
      omega
    · rw [if_neg h60] at h ⊢
      by_cases hh : tx_hg D' = true
      · rw [if_pos hh]
        exact ⟨⟨⟨by omega, by omega, by omega, by omega, by omega, by omega⟩, hl, tx_hg_iff.mp hh⟩, rfl⟩
      · rw [if_neg hh] at h
        simp only at h
        omega
  · rw [if_neg h59] at h
    simp only at h
    omega
theorem tx_prod_ok {b nm : Int → Int} {n p name node : Int} {D : pw_P} (ho : pw_ok D) (hn : pw_has D node) (p0 : 0 ≤ p) (pn : p ≤ n) (h : (tx_prod b n p name node D nm).1 = 0) : pw_ok (tx_prod b n p name node D nm).2.2.1 ∧ (tx_prod b n p name node D nm).2.2.1.2.2.1 = D.2.2.1 ∧ p < (tx_prod b n p name node D nm).2.1 ∧ (tx_prod b n p name node D nm).2.1 ≤ n := by
  obtain ⟨b0, b1, e0, e1, w0, w1⟩ := id ho.1
  have hti := tk_in (b := b) p0 pn
  unfold tx_prod at h ⊢
  by_cases hk : tx_kf (tk b n p) (D.1 + D.2.1) nm = 0
  · rw [if_pos hk] at h ⊢
    have hlk := tx_kf_0 (by omega) (by omega) hk
    have hti2 := tk_in (b := b) (p := (tk b n p).2.2.2) (n := n) (by omega) (by omega)
    have h59 : (tk b n (tk b n p).2.2.2).1 = 59 := by
      unfold tx_fin at h
      by_cases h59 : (tk b n (tk b n p).2.2.2).1 = 59
      · exact h59
      · rw [if_neg h59] at h
        simp only at h
        omega
    obtain ⟨a, e⟩ := tx_fin_ok (name := name) (cnt := 1) (D' := pw_app D node (tx_lk nm (D.1 + D.2.1) (tk b n p).2.2.1)) ho (by omega) (by omega) rfl rfl rfl (pw_app_lnk ho.2.1 hn hlk) (by omega) h
    rw [e]
    exact ⟨a, rfl, by simp only; omega, by simp only; omega⟩
  · rw [if_neg hk] at h
    exact absurd h hk
theorem tx_pow_ok {b nm : Int → Int} {n p name node : Int} {D : pw_P} (ho : pw_ok D) (hn : pw_has D node) (p0 : 0 ≤ p) (pn : p ≤ n) (h : (tx_pow b n p name node D nm).1 = 0) : pw_ok (tx_pow b n p name node D nm).2.2.1 ∧ (tx_pow b n p name node D nm).2.2.1.2.2.1 = D.2.2.1 ∧ p < (tx_pow b n p name node D nm).2.1 ∧ (tx_pow b n p name node D nm).2.1 ≤ n := by
  obtain ⟨b0, b1, e0, e1, w0, w1⟩ := id ho.1
  have hti := tk_in (b := b) p0 pn
  unfold tx_pow at h ⊢
  by_cases hk : (tk b n p).1 = 2
  · rw [if_pos hk] at h ⊢
    have hnum := tk_num pn hk
    by_cases h2 : (tk b n p).2.2.1 < 2
    · rw [if_pos h2] at h
      simp only at h
      omega
    rw [if_neg h2] at h ⊢
    have hti2 := tk_in (b := b) (p := (tk b n p).2.2.2) (n := n) (by omega) (by omega)
    have h59 : (tk b n (tk b n p).2.2.2).1 = 59 := by
      unfold tx_fin at h
      by_cases h59 : (tk b n (tk b n p).2.2.2).1 = 59
      · exact h59
      · rw [if_neg h59] at h
        simp only at h
        omega
    have hcn := tx_cn_hb (w := (tk b n p).2.2.1) (by omega) (by omega)
    have hnn := tx_cn_nn (w := (tk b n p).2.2.1) (pw_hb (tk b n p).2.2.1).toNat
    have hpd := tx_pwD_cn (w := (tk b n p).2.2.1) (node := node) (pw_hb (tk b n p).2.2.1).toNat node D
    have hpl := tx_pwD_lnk (w := (tk b n p).2.2.1) (node := node) (pw_hb (tk b n p).2.2.1).toNat node D (by omega) ho.2.1 hn hn
    obtain ⟨a, e⟩ := tx_fin_ok (name := name) (cnt := pw_hb (tk b n p).2.2.1 + pw_pc (tk b n p).2.2.1 - 1) ho (by omega) (by omega) hpd.2.1 (by rw [hpd.1, hcn]) hpd.2.2 hpl.1 (by omega) h
    rw [e]
    exact ⟨a, hpd.2.2, by simp only; omega, by simp only; omega⟩
  · rw [if_neg hk] at h
    simp only at h
    omega
theorem tx_nf_0 {T : tk_T} {z : Int} {nm : Int → Int} (h0 : 0 ≤ T.2.1) (h : tx_nf T z nm = 0) : tx_nm T ∧ tx_lk nm z T.2.2.1 = -1 := by
  unfold tx_nf at h
  by_cases h1 : tx_nm T
  · rw [if_pos h1] at h
    by_cases h2 : tx_lk nm z T.2.2.1 = -1
    · exact ⟨h1, h2⟩
    · rw [if_neg h2] at h; omega
  · rw [if_neg h1] at h; omega
theorem tx_st_ok {b nm : Int → Int} {n : Int} {T : tk_T} {D : pw_P} (ho : pw_ok D) (h0 : 0 ≤ T.2.1) (p0 : 0 ≤ T.2.2.2) (pn : T.2.2.2 ≤ n) (h : (tx_st b n T D nm).1 = 0) : pw_ok (tx_st b n T D nm).2.2.1 ∧ (tx_st b n T D nm).2.2.1.2.2.1 = D.2.2.1 ∧ T.2.2.2 < (tx_st b n T D nm).2.1 ∧ (tx_st b n T D nm).2.1 ≤ n := by
  obtain ⟨b0, b1, e0, e1, w0, w1⟩ := id ho.1
  unfold tx_st at h ⊢
  have hti := tk_in (b := b) p0 pn
  generalize tk b n T.2.2.2 = T1 at *
  have hti2 := tk_in (b := b) (p := T1.2.2.2) (n := n) (by omega) (by omega)
  generalize tk b n T1.2.2.2 = T2 at *
  have hti3 := tk_in (b := b) (p := T2.2.2.2) (n := n) (by omega) (by omega)
  generalize tk b n T2.2.2.2 = T3 at *
  by_cases hf : tx_nf T (D.1 + D.2.1) nm = 0
  rotate_left
  · rw [if_neg hf] at h
    exact absurd h hf
  rw [if_pos hf] at h ⊢
  by_cases h61 : T1.1 = 61
  rotate_left
  · rw [if_neg h61] at h
    simp only at h
    omega
  rw [if_pos h61] at h ⊢
  by_cases hk : tx_kf T2 (D.1 + D.2.1) nm = 0
  rotate_left
  · rw [if_neg hk] at h
    exact absurd h hk
  rw [if_pos hk] at h ⊢
  have hlk := tx_kf_0 (by omega) (by omega) hk
  by_cases h42 : T3.1 = 42
  · rw [if_pos h42] at h ⊢
    have := tx_prod_ok ho hlk (by omega) (by omega) h
    refine ⟨this.1, this.2.1, by omega, by omega⟩
  rw [if_neg h42] at h ⊢
  by_cases h94 : T3.1 = 94
  · rw [if_pos h94] at h ⊢
    have := tx_pow_ok ho hlk (by omega) (by omega) h
    refine ⟨this.1, this.2.1, by omega, by omega⟩
  · rw [if_neg h94] at h
    simp only at h
    omega
theorem tx_wt_ok {b nm : Int → Int} {n : Int} : ∀ (m : Nat) (p : Int) (D : pw_P), pw_ok D → 0 ≤ p → p ≤ n → (m : Int) + D.2.2.1 = 5 → (tx_wt b n nm m p D).1 = 0 → pw_ok (tx_wt b n nm m p D).2
  | 0, p, D, ho, p0, pn, hm, h => by
    have := ho.1.2.2.2.2.2
    omega
  | m + 1, p, D, ho, p0, pn, hm, h => by
    obtain ⟨b0, b1, e0, e1, w0, w1⟩ := id ho.1
    have hti := tk_in (b := b) p0 pn
    unfold tx_wt at h ⊢
    by_cases h59 : (tk b n p).1 = 59 ∧ 0 < D.2.2.1
    · rw [if_pos h59]; exact ho
    · rw [if_neg h59] at h ⊢
      by_cases hk : tx_kf (tk b n p) (D.1 + D.2.1) nm = 0
      · rw [if_pos hk] at h ⊢
        by_cases h4 : D.2.2.1 = 4
        · rw [if_pos h4] at h
          simp only at h
          omega
        · rw [if_neg h4] at h ⊢
          have hlk := tx_kf_0 (by omega) (by omega) hk
          refine tx_wt_ok m _ _ (pw_wnt_ok ho w0 (Int.le_refl _) (by omega) hlk) (by omega) (by omega) ?_ h
          show (m : Int) + pw_max D.2.2.1 (D.2.2.1 + 1) = 5
          unfold pw_max
          rw [if_pos (by omega)]
          omega
      · rw [if_neg hk] at h
        exact absurd h hk
theorem tx_bs_ok {b : Int → Int} {n : Int} : ∀ (m : Nat) (p k : Int) (nm : Int → Int), 0 ≤ p → p ≤ n → 0 ≤ k → (m : Int) + k = 5 → k ≤ 4 → (tx_bs b n m p k nm).1 = 0 → (∃ k', 1 ≤ k' ∧ k' ≤ 4 ∧ (tx_bs b n m p k nm).2.2.1 = pw_bare k') ∧ p < (tx_bs b n m p k nm).2.1 ∧ (tx_bs b n m p k nm).2.1 ≤ n
  | 0, p, k, nm, p0, pn, k0, hm, h4, h => by omega
  | m + 1, p, k, nm, p0, pn, k0, hm, h4, h => by
    have hti := tk_in (b := b) p0 pn
    unfold tx_bs at h ⊢
    by_cases h59 : (tk b n p).1 = 59 ∧ 0 < k
    · rw [if_pos h59]
      exact ⟨⟨k, by omega, h4, rfl⟩, by simp only; omega, by simp only; omega⟩
    · rw [if_neg h59] at h ⊢
      by_cases hk : tx_nf (tk b n p) k nm = 0
      · rw [if_pos hk] at h ⊢
        by_cases h4' : k = 4
        · rw [if_pos h4'] at h
          simp only at h
          omega
        · rw [if_neg h4'] at h ⊢
          have hn := (tx_nf_0 (by omega) hk).1.1
          have := tx_bs_ok m _ _ _ (by omega) (by omega) (by omega) (by omega) (by omega) h
          exact ⟨this.1, by omega, this.2.2⟩
      · rw [if_neg hk] at h
        exact absurd h hk
theorem tx_lp_ok {b : Int → Int} {n : Int} : ∀ (f : Nat) (p : Int) (D : pw_P) (nm : Int → Int), pw_ok D → D.2.2.1 = 0 → 0 ≤ p → p ≤ n → (tx_lp b n f p D nm).1 = 0 → pw_ok (tx_lp b n f p D nm).2
  | 0, p, D, nm, ho, hw, p0, pn, h => ho
  | f + 1, p, D, nm, ho, hw, p0, pn, h => by
    have hti := tk_in (b := b) p0 pn
    unfold tx_lp at h ⊢
    by_cases hc : (tk b n p).1 = 1 ∧ (tk b n p).2.2.1 = 2002873972
    · rw [if_pos hc] at h ⊢
      exact tx_wt_ok 5 _ _ ho (by omega) (by omega) (by omega) h
    · rw [if_neg hc] at h ⊢
      by_cases hs : (tx_st b n (tk b n p) D nm).1 = 0
      · rw [if_pos hs] at h ⊢
        have := tx_st_ok ho (by omega) (by omega) (by omega) hs
        exact tx_lp_ok f _ _ _ this.1 (by omega) (by omega) (by omega) h
      · rw [if_neg hs] at h
        exact absurd h hs
theorem tx_all_ok {b : Int → Int} {n : Int} (n0 : 0 ≤ n) (h : (tx_all b n).1 = 0) : pw_ok (tx_all b n).2 := by
  have hti := tk_in (b := b) (p := 0) (n := n) (by omega) n0
  unfold tx_all at h ⊢
  by_cases hc : (tk b n 0).1 = 1 ∧ (tk b n 0).2.2.1 = 1650553701
  · rw [if_pos hc] at h ⊢
    by_cases hs : (tx_bs b n 5 (tk b n 0).2.2.2 0 (fun _ => 0)).1 = 0
    · rw [if_pos hs] at h ⊢
      obtain ⟨⟨k, k1, k4, e⟩, h2, h3⟩ := tx_bs_ok (b := b) (n := n) 5 (tk b n 0).2.2.2 0 (fun _ => 0) (by omega) (by omega) (by omega) (by omega) (by omega) hs
      refine tx_lp_ok _ _ _ _ (by rw [e]; exact pw_bare_ok (by omega) k4) (by rw [e]; rfl) (by omega) h3 h
    · rw [if_neg hs] at h
      exact absurd h hs
  · rw [if_neg hc] at h
    simp only at h
    omega
