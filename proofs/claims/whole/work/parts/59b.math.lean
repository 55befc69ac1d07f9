/-! ===== pruned and folded programs stay as they should ===== -/
def pw_bok (P : pw_P) (b : Int → Int) : Prop := (∀ n, 0 ≤ n → n < P.1 → b n = n) ∧ (∀ n, P.1 ≤ n → n < P.1 + P.2.1 → b n = -1 ∨ b n = n ∨ (0 ≤ b n ∧ b n < n ∧ b (b n) ≠ -1 ∧ ∀ c, 0 ≤ c → c < 4 → pw_ex P (b n) c = pw_ex P n c)) ∧ (∀ n, P.1 ≤ n → n < P.1 + P.2.1 → b n = n → b (P.2.2.2.1 n) ≠ -1 ∧ b (P.2.2.2.2.1 n) ≠ -1) ∧ ∀ k, 0 ≤ k → k < P.2.2.1 → b (P.2.2.2.2.2 k) ≠ -1
def pw_cD (P : pw_P) (s : pw_Cs) : pw_P := (P.1, s.1 - P.1, 0, s.2.2.1, s.2.2.2, fun _ => 0)
theorem pw_cD_app {P : pw_P} {s : pw_Cs} {x z : Int} {f : Int → Int} : pw_cD P (s.1 + 1, f, pw_set s.2.2.1 s.1 x, pw_set s.2.2.2 s.1 z) = pw_app (pw_cD P s) x z := by
  unfold pw_cD pw_app pw_set
  have e : P.1 + (s.1 - P.1) = s.1 := by omega
  have e2 : s.1 + 1 - P.1 = s.1 - P.1 + 1 := by omega
  simp only [e, e2]
def pw_cI (P : pw_P) (b : Int → Int) (i : Nat) (s : pw_Cs) : Prop := P.1 ≤ s.1 ∧ s.1 ≤ P.1 + i ∧ pw_lnk (pw_cD P s) ∧ (∀ m, 0 ≤ m → m < P.1 + i → b m ≠ -1 → 0 ≤ s.2.1 m ∧ s.2.1 m < s.1 ∧ ∀ c, 0 ≤ c → c < 4 → pw_ex (pw_cD P s) (s.2.1 m) c = pw_ex P m c) ∧ (∀ n c, 0 ≤ n → n < s.1 → 0 ≤ c → c < 4 → 0 ≤ pw_ex (pw_cD P s) n c ∧ pw_ex (pw_cD P s) n c ≤ 1000000000000000)
theorem pw_cps_I {P : pw_P} {b : Int → Int} (ho : pw_ok P) (hb : pw_bok P b) : ∀ i : Nat, (i : Int) ≤ P.2.1 → pw_cI P b i (pw_cps P b i)
  | 0, _ => by
    obtain ⟨⟨p0, p1, -⟩, hl, hbig⟩ := ho
    have hE : ∀ n c, 0 ≤ n → n < P.1 → pw_ex (pw_cD P (pw_cps P b 0)) n c = pw_ex P n c := fun n c n0 n1 => by
      rw [pw_ex_b (P := P) n1, pw_ex_b (P := pw_cD P (pw_cps P b 0)) (n := n) n1]
    refine ⟨Int.le_refl _, by show P.1 ≤ P.1 + ((0 : Nat) : Int); omega, ⟨fun n n0 n1 => ?_, fun k k0 k1 => ?_⟩, fun m m0 m1 hm => ?_, fun n c n0 n1 c0 c1 => ?_⟩
    · have n0' : P.1 ≤ n := n0
      have n1' : n < P.1 + (P.1 - P.1) := n1
      omega
    · have k1' : k < 0 := k1
      omega
    · have m1' : m < P.1 := by omega
      have e : (pw_cps P b 0).2.1 m = m := hb.1 m m0 m1'
      rw [e]
      exact ⟨m0, m1', fun c _ _ => hE m c m0 m1'⟩
    · have n1' : n < P.1 := n1
      rw [hE n c n0 n1', pw_ex_b n1']
      split <;> omega
  | i + 1, hi => by
    obtain ⟨h1, h2, h3, h4, h5⟩ := pw_cps_I ho hb i (by omega)
    have hin := pw_cps_in P b i
    obtain ⟨⟨p0, p1, -⟩, hl, hbig⟩ := id ho
    have hbn : (pw_cps P b i).2.1 (P.1 + i) = b (P.1 + i) := hin.2.2 _ (Int.le_refl _)
    show pw_cI P b (i + 1) (pw_cp1 P (P.1 + i) (pw_cps P b i))
    generalize hs : pw_cps P b i = s at *
    unfold pw_cp1
    rw [hbn]
    by_cases hst : b (P.1 + i) = P.1 + i
    · rw [if_pos hst]
      obtain ⟨l0, l1, r0, r1⟩ := hl.1 (P.1 + i) (by omega) (by omega)
      obtain ⟨bl, br⟩ := hb.2.2.1 (P.1 + i) (by omega) (by omega) hst
      obtain ⟨x0, x1, x2⟩ := h4 _ l0 (by omega) bl
      obtain ⟨z0, z1, z2⟩ := h4 _ r0 (by omega) br
      have hx : pw_has (pw_cD P s) (s.2.1 (P.2.2.2.1 (P.1 + i))) := ⟨x0, by show _ < P.1 + (s.1 - P.1); omega⟩
      have hz : pw_has (pw_cD P s) (s.2.1 (P.2.2.2.2.1 (P.1 + i))) := ⟨z0, by show _ < P.1 + (s.1 - P.1); omega⟩
      have hsz : (pw_cD P s).1 + (pw_cD P s).2.1 = s.1 := by show P.1 + (s.1 - P.1) = s.1; omega
      have eD := pw_cD_app (P := P) (s := s) (x := s.2.1 (P.2.2.2.1 (P.1 + i))) (z := s.2.1 (P.2.2.2.2.1 (P.1 + i))) (f := pw_set s.2.1 (P.1 + i) s.1)
      have hnew : ∀ c, 0 ≤ c → c < 4 → pw_ex (pw_app (pw_cD P s) (s.2.1 (P.2.2.2.1 (P.1 + i))) (s.2.1 (P.2.2.2.2.1 (P.1 + i)))) s.1 c = pw_ex P (P.1 + i) c := by
        intro c c0 c1
        have hsl := pw_ex_s (P := pw_app (pw_cD P s) (s.2.1 (P.2.2.2.1 (P.1 + i))) (s.2.1 (P.2.2.2.2.1 (P.1 + i)))) (n := s.1) (c := c) (pw_app_lnk h3 hx hz) h1 (by omega) (by show s.1 < P.1 + (s.1 - P.1 + 1); omega)
        have el : (pw_app (pw_cD P s) (s.2.1 (P.2.2.2.1 (P.1 + i))) (s.2.1 (P.2.2.2.2.1 (P.1 + i)))).2.2.2.1 s.1 = s.2.1 (P.2.2.2.1 (P.1 + i)) := if_pos hsz.symm
        have er : (pw_app (pw_cD P s) (s.2.1 (P.2.2.2.1 (P.1 + i))) (s.2.1 (P.2.2.2.2.1 (P.1 + i)))).2.2.2.2.1 s.1 = s.2.1 (P.2.2.2.2.1 (P.1 + i)) := if_pos hsz.symm
        rw [hsl, el, er, pw_app_ex h3 hx.1 hx.2, pw_app_ex h3 hz.1 hz.2, x2 c c0 c1, z2 c c0 c1]
        exact (pw_ex_s hl (by omega) (by omega) (by omega)).symm
      have hold : ∀ n c, 0 ≤ n → n < s.1 → pw_ex (pw_app (pw_cD P s) (s.2.1 (P.2.2.2.1 (P.1 + i))) (s.2.1 (P.2.2.2.2.1 (P.1 + i)))) n c = pw_ex (pw_cD P s) n c := fun n c n0 n1 => pw_app_ex h3 n0 (by rw [hsz]; exact n1)
      refine ⟨by simp only; omega, by simp only; omega, by rw [eD]; exact pw_app_lnk h3 hx hz, fun m m0 m1 hm => ?_, fun n c n0 n1 c0 c1 => ?_⟩
      · rw [eD]
        simp only
        by_cases hmn : m = P.1 + i
        · rw [hmn, pw_set_same]
          exact ⟨by omega, by omega, hnew⟩
        · rw [pw_set_ne hmn]
          obtain ⟨y0, y1, y2⟩ := h4 m m0 (by omega) hm
          exact ⟨y0, by omega, fun c c0 c1 => by rw [hold _ c y0 y1]; exact y2 c c0 c1⟩
      · rw [eD]
        have n1' : n < s.1 + 1 := n1
        by_cases hns : n = s.1
        · rw [hns, hnew c c0 c1]
          exact hbig _ c (by omega) (by omega) c0 c1
        · rw [hold n c n0 (by omega)]
          exact h5 n c n0 (by omega) c0 c1
    · rw [if_neg hst]
      by_cases hno : b (P.1 + i) = -1
      · rw [if_pos hno]
        refine ⟨h1, by omega, h3, fun m m0 m1 hm => h4 m m0 ?_ hm, h5⟩
        have : m ≠ P.1 + i := fun q => hm (by rw [q]; exact hno)
        omega
      · rw [if_neg hno]
        have hD : pw_cD P (s.1, pw_set s.2.1 (P.1 + i) (s.2.1 (b (P.1 + i))), s.2.2.1, s.2.2.2) = pw_cD P s := rfl
        refine ⟨h1, by simp only; omega, by rw [hD]; exact h3, fun m m0 m1 hm => ?_, fun n c n0 n1 c0 c1 => by rw [hD]; exact h5 n c n0 n1 c0 c1⟩
        rw [hD]
        simp only
        by_cases hmn : m = P.1 + i
        · rw [hmn, pw_set_same]
          rcases hb.2.1 (P.1 + i) (by omega) (by omega) with q | q | ⟨q1, q2, q3, q4⟩
          · exact absurd q hno
          · exact absurd q hst
          · obtain ⟨y0, y1, y2⟩ := h4 _ q1 q2 q3
            exact ⟨y0, y1, fun c c0 c1 => by rw [y2 c c0 c1]; exact q4 c c0 c1⟩
        · rw [pw_set_ne hmn]
          exact h4 m m0 (by omega) hm
theorem pw_cpt_ok {P : pw_P} {b : Int → Int} (ho : pw_ok P) (hb : pw_bok P b) : pw_ok (pw_cpt P b) := by
  obtain ⟨b0, b1, s0, s1, w0, w1⟩ := id ho.1
  obtain ⟨h1, h2, h3, h4, h5⟩ := pw_cps_I ho hb P.2.1.toNat (by omega)
  generalize hs : pw_cps P b P.2.1.toNat = s at *
  have hD : ∀ n c, 0 ≤ n → n < s.1 → pw_ex (pw_cpt P b) n c = pw_ex (pw_cD P s) n c := fun n c n0 n1 => by
    refine pw_ex_cg (P := pw_cD P s) (P' := pw_cpt P b) h3 rfl (fun m m0 m1 => ?_) n c n0 (by show n < P.1 + (s.1 - P.1); omega)
    unfold pw_cpt
    rw [hs]
    exact ⟨rfl, rfl⟩
  have e1 : (pw_cpt P b).2.1 = s.1 - P.1 := by unfold pw_cpt; rw [hs]
  refine ⟨⟨b0, b1, by rw [e1]; omega, by rw [e1]; omega, w0, w1⟩, ⟨fun n n0 n1 => ?_, fun k k0 k1 => ?_⟩, fun n c n0 n1 c0 c1 => ?_⟩
  · have := h3.1 n n0 (by rw [e1] at n1; exact n1)
    unfold pw_cpt
    rw [hs]
    exact this
  · obtain ⟨q1, q2⟩ := ho.2.1.2 k k0 k1
    obtain ⟨y0, y1, -⟩ := h4 _ q1 (by omega) (hb.2.2.2 k k0 k1)
    rw [e1]
    show 0 ≤ (pw_cps P b P.2.1.toNat).2.1 (P.2.2.2.2.2 k) ∧ (pw_cps P b P.2.1.toNat).2.1 (P.2.2.2.2.2 k) < P.1 + (s.1 - P.1)
    rw [hs]
    omega
  · rw [e1] at n1
    have n1' : n < P.1 + (s.1 - P.1) := n1
    rw [hD n c n0 (by omega)]
    exact h5 n c n0 (by omega) c0 c1
theorem pw_fa_b {P : pw_P} (ho : pw_ok P) {n : Int} (n0 : 0 ≤ n) (n1 : n < P.1) : pw_fa P n = n := by
  have hin := pw_fa_in (P := P) n0
  have hal := pw_alb_iff.mp (pw_fa_alk (P := P) n0)
  have hd := ho.1
  by_cases h : pw_fa P n = n
  · exact h
  · have := hal n n0 (by have := hd.2.1; omega)
    rw [pw_ex_b n1, pw_ex_b (show pw_fa P n < P.1 by omega), if_pos rfl, if_neg (fun q => h q.symm)] at this
    omega
theorem pw_fold_b {P : pw_P} (ho : pw_ok P) : pw_bok P (pw_fa P) := by
  have hr : ∀ n, 0 ≤ n → pw_fa P n ≠ -1 := fun n n0 => by have := pw_fa_in (P := P) n0; omega
  have hp := ho.1.1
  refine ⟨fun n n0 n1 => pw_fa_b ho n0 n1, fun n n0 n1 => ?_, fun n n0 n1 _ => ?_, fun k k0 k1 => hr _ (ho.2.1.2 k k0 k1).1⟩
  · have hin := pw_fa_in (P := P) (n := n) (by omega)
    by_cases h : pw_fa P n = n
    · exact Or.inr (Or.inl h)
    · exact Or.inr (Or.inr ⟨hin.1, by omega, hr _ hin.1, fun c c0 c1 => pw_alb_iff.mp (pw_fa_alk (P := P) (show 0 ≤ n by omega)) c c0 c1⟩)
  · obtain ⟨l0, l1, r0, r1⟩ := ho.2.1.1 n n0 n1
    exact ⟨hr _ l0, hr _ r0⟩
theorem pw_ndf_mono {P : pw_P} {i : Nat} {m : Int} (h : pw_ndf P i m ≠ 0) : ∀ j : Nat, pw_ndf P (i + j) m ≠ 0
  | 0 => h
  | j + 1 => by
    have ih := pw_ndf_mono h j
    show pw_ndf P (i + j + 1) m ≠ 0
    unfold pw_ndf
    split
    · exact ih
    · simp only
      split
      · omega
      · split
        · omega
        · exact ih
theorem pw_ndf_keep {P : pw_P} (hl : pw_lnk P) {i : Nat} {m : Int} (hm : P.1 + P.2.1 - 1 - i ≤ m) : ∀ j : Nat, (i : Int) + j ≤ P.2.1 → pw_ndf P (i + j) m = pw_ndf P i m
  | 0, _ => rfl
  | j + 1, hj => by
    have ih := pw_ndf_keep hl hm j (by omega)
    rw [← ih]
    show pw_ndf P (i + j + 1) m = _
    obtain ⟨l0, l1, r0, r1⟩ := hl.1 (P.1 + P.2.1 - 1 - ((i + j : Nat) : Int)) (by omega) (by omega)
    rw [pw_ndf]
    split
    · rfl
    · simp only
      rw [if_neg (by omega), if_neg (by omega)]
theorem pw_nd0_w {P : pw_P} : ∀ (n : Nat) (k : Int), 0 ≤ k → k < n → pw_nd0 P n (P.2.2.2.2.2 k) ≠ 0
  | 0, k, h0, h1 => by omega
  | n + 1, k, h0, h1 => by
    simp only [pw_nd0]
    split
    · omega
    · rename_i hne
      refine pw_nd0_w n k h0 ?_
      by_cases hk : k = n
      · exact absurd (by rw [hk]) hne
      · omega
theorem pw_nd_w {P : pw_P} (hd : pw_dim P) {k : Int} (k0 : 0 ≤ k) (k1 : k < P.2.2.1) : pw_nd P (P.2.2.2.2.2 k) ≠ 0 := by
  have h : pw_ndf P 0 (P.2.2.2.2.2 k) ≠ 0 := pw_nd0_w _ k k0 (by omega)
  have := pw_ndf_mono h P.2.1.toNat
  rw [Nat.zero_add] at this
  exact this
theorem pw_nd_s {P : pw_P} (hd : pw_dim P) (hl : pw_lnk P) {n : Int} (n0 : P.1 ≤ n) (n1 : n < P.1 + P.2.1) (h : pw_nd P n ≠ 0) : pw_nd P (P.2.2.2.1 n) ≠ 0 ∧ pw_nd P (P.2.2.2.2.1 n) ≠ 0 := by
  have hp := hd.1
  have e : ((P.1 + P.2.1 - 1 - n).toNat : Int) = P.1 + P.2.1 - 1 - n := by omega
  have hk := pw_ndf_keep hl (i := (P.1 + P.2.1 - 1 - n).toNat) (m := n) (by omega) (P.2.1.toNat - (P.1 + P.2.1 - 1 - n).toNat) (by omega)
  rw [show (P.1 + P.2.1 - 1 - n).toNat + (P.2.1.toNat - (P.1 + P.2.1 - 1 - n).toNat) = P.2.1.toNat by omega] at hk
  have hi : pw_ndf P (P.1 + P.2.1 - 1 - n).toNat n ≠ 0 := by
    rw [← hk]; exact h
  have hstep : ∀ m, (m = P.2.2.2.1 n ∨ m = P.2.2.2.2.1 n) → pw_ndf P ((P.1 + P.2.1 - 1 - n).toNat + 1) m ≠ 0 := by
    intro m hm
    rw [pw_ndf, e, show P.1 + P.2.1 - 1 - (P.1 + P.2.1 - 1 - n) = n by omega, if_neg hi]
    split
    · omega
    · split
      · omega
      · rcases hm with hm | hm
        · rename_i q; exact absurd hm q
        · rename_i q _; exact absurd hm q
  have fin : ∀ m, pw_ndf P ((P.1 + P.2.1 - 1 - n).toNat + 1) m ≠ 0 → pw_nd P m ≠ 0 := fun m hm => by
    have := pw_ndf_mono hm (P.2.1.toNat - ((P.1 + P.2.1 - 1 - n).toNat + 1))
    rw [show (P.1 + P.2.1 - 1 - n).toNat + 1 + (P.2.1.toNat - ((P.1 + P.2.1 - 1 - n).toNat + 1)) = P.2.1.toNat by omega] at this
    exact this
  exact ⟨fin _ (hstep _ (Or.inl rfl)), fin _ (hstep _ (Or.inr rfl))⟩
theorem pw_prune_b {P : pw_P} (ho : pw_ok P) : pw_bok P (pw_prb P) := by
  obtain ⟨hd, hl, hbig⟩ := id ho
  have hr : ∀ n, 0 ≤ n → pw_nd P n ≠ 0 → pw_prb P n ≠ -1 := fun n n0 hn => by
    unfold pw_prb
    split
    · omega
    · omega
  refine ⟨fun n n0 n1 => if_pos n1, fun n n0 n1 => ?_, fun n n0 n1 hn => ?_, fun k k0 k1 => hr _ (hl.2 k k0 k1).1 (pw_nd_w hd k0 k1)⟩
  · unfold pw_prb
    rw [if_neg (by omega)]
    by_cases h : pw_nd P n = 0
    · rw [if_pos h]; exact Or.inl rfl
    · rw [if_neg h]; exact Or.inr (Or.inl rfl)
  · obtain ⟨l0, l1, r0, r1⟩ := hl.1 n n0 n1
    have hn' : pw_nd P n ≠ 0 := by
      unfold pw_prb at hn
      rw [if_neg (by omega)] at hn
      intro q
      rw [if_pos q] at hn
      have := hd.1
      omega
    have := pw_nd_s hd hl n0 n1 hn'
    exact ⟨hr _ l0 this.1, hr _ r0 this.2⟩
theorem pw_drop_ok {S : pw_S} {b : Int → Int} (hO : pw_SO S) (hb : pw_bok S.P b) : pw_SO (pw_drop S b).1 := by
  unfold pw_drop
  simp only
  split
  · exact pw_adopt_ok hO (pw_cpt_ok hO.1 hb)
  · exact hO
