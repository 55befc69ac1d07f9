/-! ===== duals stay as they should ===== -/
theorem pw_sum_cg {f g : Int → Int} {lo : Int} : ∀ n : Nat, (∀ i, lo ≤ i → i < lo + n → f i = g i) → pw_sum f lo n = pw_sum g lo n
  | 0, _ => rfl
  | n + 1, h => by
    simp only [pw_sum]
    rw [pw_sum_cg n (fun i i0 i1 => h i i0 (by omega)), h (lo + n) (by omega) (by omega)]
theorem pw_sum_add {f g : Int → Int} {lo : Int} : ∀ n : Nat, pw_sum (fun i => f i + g i) lo n = pw_sum f lo n + pw_sum g lo n
  | 0 => rfl
  | n + 1 => by
    simp only [pw_sum]
    rw [pw_sum_add n]
    omega
theorem pw_sum_mul {f : Int → Int} {a lo : Int} : ∀ n : Nat, pw_sum (fun i => a * f i) lo n = a * pw_sum f lo n
  | 0 => by simp [pw_sum]
  | n + 1 => by
    simp only [pw_sum]
    rw [pw_sum_mul n, Int.mul_add]
theorem pw_sum_nn {f : Int → Int} {lo : Int} : ∀ n : Nat, (∀ i, lo ≤ i → i < lo + n → 0 ≤ f i) → 0 ≤ pw_sum f lo n
  | 0, _ => Int.le_refl _
  | n + 1, h => by
    simp only [pw_sum]
    have := pw_sum_nn (f := f) (lo := lo) n (fun i i0 i1 => h i i0 (by omega))
    have := h (lo + n) (by omega) (by omega)
    omega
/-- one of them -/
theorem pw_sum_one {f : Int → Int} {lo a : Int} : ∀ n : Nat, pw_sum (fun i => (if a = i then 1 else 0) * f i) lo n = if lo ≤ a ∧ a < lo + n then f a else 0
  | 0 => by
    simp only [pw_sum]
    rw [if_neg (by omega)]
  | n + 1 => by
    simp only [pw_sum]
    rw [pw_sum_one n]
    by_cases h : a = lo + n
    · rw [if_neg (by omega), if_pos h, if_pos (by omega), h]
      omega
    · rw [if_neg h, Int.zero_mul, Int.add_zero]
      by_cases h2 : lo ≤ a ∧ a < lo + n
      · rw [if_pos h2, if_pos (by omega)]
      · rw [if_neg h2, if_neg (by omega)]
theorem pw_sum_head {f : Int → Int} {lo : Int} : ∀ n : Nat, pw_sum f lo (n + 1) = f lo + pw_sum f (lo + 1) n
  | 0 => by simp [pw_sum]
  | n + 1 => by
    have ih := pw_sum_head (f := f) (lo := lo) n
    have e1 : pw_sum f lo (n + 1 + 1) = pw_sum f lo (n + 1) + f (lo + ((n + 1 : Nat) : Int)) := rfl
    have e2 : pw_sum f (lo + 1) (n + 1) = pw_sum f (lo + 1) n + f (lo + 1 + (n : Int)) := rfl
    rw [e1, e2, ih, show lo + 1 + (n : Int) = lo + ((n + 1 : Nat) : Int) by omega]
    omega
theorem pw_ex_pos {P : pw_P} (ho : pw_ok P) : ∀ n, 0 ≤ n → n < P.1 + P.2.1 → ∃ c, 0 ≤ c ∧ c < 4 ∧ 1 ≤ pw_ex P n c := by
  obtain ⟨⟨b0, b1, -⟩, hl, hb⟩ := ho
  have key : ∀ (k : Nat) (n : Int), n.toNat < k → 0 ≤ n → n < P.1 + P.2.1 → ∃ c, 0 ≤ c ∧ c < 4 ∧ 1 ≤ pw_ex P n c := by
    intro k
    induction k with
    | zero => intro n h; omega
    | succ k ih =>
      intro n hk n0 n1
      by_cases hbn : n < P.1
      · exact ⟨n, n0, by omega, by rw [pw_ex_b hbn, if_pos rfl]; omega⟩
      · obtain ⟨l0, l1, r0, r1⟩ := hl.1 n (by omega) n1
        obtain ⟨c, c0, c1, hc⟩ := ih _ (by omega) l0 (by omega)
        refine ⟨c, c0, c1, ?_⟩
        rw [pw_ex_s hl (by omega) n0 n1]
        have := (hb _ c r0 (by omega) c0 c1).1
        omega
  exact fun n n0 n1 => key (n.toNat + 1) n (by omega) n0 n1
/-- what is used of node i from m on, by the weights U -/
def pw_aw (P : pw_P) (U : Int → Int) (w i m : Int) : Int := (if w = i then 1 else 0) + pw_sum (fun s => U s * pw_use P i s) (pw_max m P.1) (P.1 + P.2.1 - pw_max m P.1).toNat
theorem pw_use_nn {P : pw_P} {i s : Int} : 0 ≤ pw_use P i s ∧ pw_use P i s ≤ 2 := by unfold pw_use; split <;> split <;> omega
theorem pw_wt {P : pw_P} (ho : pw_ok P) {U : Int → Int} {w c : Int} (hw0 : 0 ≤ w) (hw1 : w < P.1 + P.2.1) (c0 : 0 ≤ c) (c1 : c < 4) (hU : ∀ n, 0 ≤ U n) {lo : Int} (hr : ∀ n, lo ≤ n → n < P.1 + P.2.1 → U n = pw_aw P U w n (n + 1)) : ∀ m : Int, m ≤ P.1 + P.2.1 → 0 ≤ m → lo ≤ m → pw_sum (fun i => pw_aw P U w i m * pw_ex P i c) 0 m.toNat ≤ pw_ex P w c := by
  obtain ⟨⟨b0, b1, s0, -⟩, hl, hb⟩ := ho
  refine pw_up (fun m hm ih m0 hlo => ?_)
  by_cases hms : m = P.1 + P.2.1
  · have e : pw_sum (fun i => pw_aw P U w i m * pw_ex P i c) 0 m.toNat = pw_sum (fun i => (if w = i then 1 else 0) * pw_ex P i c) 0 m.toNat := pw_sum_cg _ (fun i _ _ => by
      unfold pw_aw
      have : (P.1 + P.2.1 - pw_max m P.1).toNat = 0 := by
        unfold pw_max
        split <;> omega
      rw [this]
      simp only [pw_sum, Int.add_zero])
    rw [e, pw_sum_one, if_pos (by omega)]
    omega
  · have hIH := ih (m + 1) (by omega) (by omega) (by omega) (by omega)
    rw [show (m + 1).toNat = m.toNat + 1 by omega] at hIH
    simp only [pw_sum, Int.zero_add] at hIH
    rw [show ((m.toNat : Nat) : Int) = m by omega, ← hr m hlo (by omega)] at hIH
    have hbm := hb m c m0 (by omega) c0 c1
    have hUm := hU m
    have hUx : 0 ≤ U m * pw_ex P m c := Int.mul_nonneg hUm hbm.1
    by_cases hmb : m < P.1
    · have e : pw_sum (fun i => pw_aw P U w i m * pw_ex P i c) 0 m.toNat = pw_sum (fun i => pw_aw P U w i (m + 1) * pw_ex P i c) 0 m.toNat := pw_sum_cg _ (fun i _ _ => by
        have : pw_max m P.1 = pw_max (m + 1) P.1 := by
          unfold pw_max
          split <;> split <;> omega
        unfold pw_aw
        rw [this])
      rw [e]
      omega
    · obtain ⟨l0, l1, r0, r1⟩ := hl.1 m (by omega) (by omega)
      have hstep : ∀ i, pw_aw P U w i m = pw_aw P U w i (m + 1) + U m * pw_use P i m := fun i => by
        have e1 : pw_max m P.1 = m := by unfold pw_max; split <;> omega
        have e2 : pw_max (m + 1) P.1 = m + 1 := by unfold pw_max; split <;> omega
        unfold pw_aw
        rw [e1, e2, show (P.1 + P.2.1 - m).toNat = (P.1 + P.2.1 - (m + 1)).toNat + 1 by omega, pw_sum_head]
        omega
      have hone : ∀ i, pw_use P i m = (if P.2.2.2.1 m = i then 1 else 0) + (if P.2.2.2.2.1 m = i then 1 else 0) := fun i => rfl
      have e : pw_sum (fun i => pw_aw P U w i m * pw_ex P i c) 0 m.toNat = pw_sum (fun i => pw_aw P U w i (m + 1) * pw_ex P i c) 0 m.toNat + U m * pw_ex P m c := by
        have e1 : pw_sum (fun i => pw_aw P U w i m * pw_ex P i c) 0 m.toNat = pw_sum (fun i => pw_aw P U w i (m + 1) * pw_ex P i c + U m * ((if P.2.2.2.1 m = i then 1 else 0) * pw_ex P i c + (if P.2.2.2.2.1 m = i then 1 else 0) * pw_ex P i c)) 0 m.toNat := pw_sum_cg _ (fun i _ _ => by
          rw [hstep i, hone i, Int.add_mul, Int.mul_assoc, Int.add_mul])
        rw [e1, pw_sum_add, pw_sum_mul, pw_sum_add, pw_sum_one, pw_sum_one, if_pos (by omega), if_pos (by omega), ← pw_ex_s hl (by omega) m0 (by omega)]
      rw [e]
      exact hIH
theorem pw_wt1 {P : pw_P} (ho : pw_ok P) {U : Int → Int} {w n : Int} (hw0 : 0 ≤ w) (hw1 : w < P.1 + P.2.1) (hU : ∀ n, 0 ≤ U n) (n0 : 0 ≤ n) (n1 : n < P.1 + P.2.1) (hr : ∀ j, n ≤ j → j < P.1 + P.2.1 → U j = pw_aw P U w j (j + 1)) : U n ≤ 1000000000000000 := by
  obtain ⟨c, c0, c1, hc⟩ := pw_ex_pos ho n n0 n1
  have h := pw_wt ho hw0 hw1 c0 c1 hU hr (n + 1) (by omega) (by omega) (by omega)
  rw [show (n + 1).toNat = n.toNat + 1 by omega] at h
  simp only [pw_sum, Int.zero_add] at h
  rw [show ((n.toNat : Nat) : Int) = n by omega, ← hr n (Int.le_refl _) n1] at h
  have hnn : 0 ≤ pw_sum (fun i => pw_aw P U w i (n + 1) * pw_ex P i c) 0 n.toNat := pw_sum_nn _ (fun i i0 i1 => by
    refine Int.mul_nonneg ?_ (ho.2.2 i c i0 (by omega) c0 c1).1
    unfold pw_aw
    have : 0 ≤ pw_sum (fun s => U s * pw_use P i s) (pw_max (n + 1) P.1) (P.1 + P.2.1 - pw_max (n + 1) P.1).toNat := pw_sum_nn _ (fun s _ _ => Int.mul_nonneg (hU s) pw_use_nn.1)
    split <;> omega)
  have hw := (ho.2.2 w c hw0 hw1 c0 c1).2
  have hm : U n * 1 ≤ U n * pw_ex P n c := Int.mul_le_mul_of_nonneg_left hc (hU n)
  omega
/-- the weight of what a node came to -/
def pw_cw (c : Int) (D : pw_P) (k : Int) : Int := if c = -1 then 0 else pw_ex D c k
def pw_ext (D D' : pw_P) : Prop := D'.1 = D.1 ∧ D'.2.2.1 = D.2.2.1 ∧ ∀ j, pw_has D j → pw_has D' j ∧ ∀ k, pw_ex D' j k = pw_ex D j k
theorem pw_ext_rf {D : pw_P} : pw_ext D D := ⟨rfl, rfl, fun j h => ⟨h, fun _ => rfl⟩⟩
theorem pw_ext_tr {D D' D'' : pw_P} (h : pw_ext D D') (h' : pw_ext D' D'') : pw_ext D D'' := ⟨h'.1.trans h.1, h'.2.1.trans h.2.1, fun j hj => ⟨(h'.2.2 j (h.2.2 j hj).1).1, fun k => by rw [(h'.2.2 j (h.2.2 j hj).1).2 k, (h.2.2 j hj).2 k]⟩⟩
theorem pw_cw_ext {D D' : pw_P} (h : pw_ext D D') {c k : Int} (hc : c = -1 ∨ pw_has D c) : pw_cw c D' k = pw_cw c D k := by
  unfold pw_cw
  split
  · rfl
  · rename_i hn
    exact (h.2.2 c (hc.resolve_left hn)).2 k
theorem pw_cw_nn {D : pw_P} (ho : pw_ok D) {c k : Int} (hc : c = -1 ∨ pw_has D c) (k0 : 0 ≤ k) (k1 : k < 4) : 0 ≤ pw_cw c D k := by
  unfold pw_cw
  split
  · omega
  · rename_i hn
    have := hc.resolve_left hn
    exact (ho.2.2 c k this.1 this.2 k0 k1).1
theorem pw_jn_ok {D : pw_P} (ho : pw_ok D) {c t : Int} (hc : c = -1 ∨ pw_has D c) (ht : pw_has D t) (hb : ∀ k, 0 ≤ k → k < 4 → pw_cw c D k + pw_ex D t k ≤ 1000000000000000) {q : Int × pw_P} (h : pw_jn c D t = some q) : pw_ok q.2 ∧ pw_ext D q.2 ∧ pw_has q.2 q.1 ∧ ∀ k, pw_cw q.1 q.2 k = pw_cw c D k + pw_ex D t k := by
  unfold pw_jn at h
  obtain ⟨b0, b1, s0, s1, w0, w1⟩ := id ho.1
  by_cases h1 : c = -1
  · rw [if_pos h1] at h
    cases h
    refine ⟨ho, pw_ext_rf, ht, fun k => ?_⟩
    unfold pw_cw
    rw [if_pos h1, if_neg (by have := ht.1; omega)]
    show pw_ex D t k = 0 + pw_ex D t k
    omega
  · rw [if_neg h1] at h
    by_cases h2 : 60 ≤ D.2.1
    · rw [if_pos h2] at h; cases h
    · rw [if_neg h2] at h
      cases h
      have hc' := hc.resolve_left h1
      have ec : ∀ k, pw_cw c D k = pw_ex D c k := fun k => if_neg h1
      refine ⟨pw_app_ok ho hc' ht (by omega) (pw_fitb_all.mpr (fun k k0 k1 => by rw [← ec]; exact hb k k0 k1)), ⟨rfl, rfl, fun j hj => ⟨⟨hj.1, by have := hj.2; show j < D.1 + (D.2.1 + 1); omega⟩, fun k => pw_app_ex ho.2.1 hj.1 hj.2⟩⟩, ⟨by show 0 ≤ D.1 + D.2.1; omega, by show D.1 + D.2.1 < D.1 + (D.2.1 + 1); omega⟩, fun k => ?_⟩
      rw [ec]
      unfold pw_cw
      rw [if_neg (by show ¬ D.1 + D.2.1 = -1; omega)]
      exact pw_app_exl ho.1 ho.2.1 hc' ht
def pw_gR (D : pw_P) (q : Int × pw_P) (T : Int → Int) : Prop := pw_ok q.2 ∧ pw_ext D q.2 ∧ (q.1 = -1 ∨ pw_has q.2 q.1) ∧ ∀ k, 0 ≤ k → k < 4 → pw_cw q.1 q.2 k = T k
theorem pw_gw_ok {P : pw_P} {n : Int} : ∀ (m : Nat) (k0 c : Int) (D : pw_P) (q : Int × pw_P) (T : Int → Int), pw_ok D → 0 ≤ k0 → k0 + m ≤ D.1 → (c = -1 ∨ pw_has D c) → (∀ k, 0 ≤ k → k < 4 → T k ≤ 1000000000000000) → (∀ k, 0 ≤ k → k < 4 → pw_cw c D k + (if k0 ≤ k ∧ k < k0 + m ∧ P.2.2.2.2.2 k = n then 1 else 0) = T k) → pw_gw P n m k0 c D = some q → pw_gR D q T
  | 0, k0, c, D, q, T, ho, hk0, hkm, hc, hT, hS, h => by
    simp only [pw_gw] at h
    cases h
    refine ⟨ho, pw_ext_rf, hc, fun k g0 g1 => ?_⟩
    rw [← hS k g0 g1, if_neg (by omega)]
    simp
  | m + 1, k0, c, D, q, T, ho, hk0, hkm, hc, hT, hS, h => by
    simp only [pw_gw] at h
    have hbase : pw_has D k0 := ⟨hk0, by have := ho.1.2.2.1; omega⟩
    have hex : ∀ k, pw_ex D k0 k = if k = k0 then 1 else 0 := fun k => pw_ex_b (by omega)
    by_cases hw : P.2.2.2.2.2 k0 = n
    · rw [if_pos hw] at h
      have hb : ∀ k, 0 ≤ k → k < 4 → pw_cw c D k + pw_ex D k0 k ≤ 1000000000000000 := fun k g0 g1 => by
        have e1 := hS k g0 g1
        have e2 := hT k g0 g1
        rw [hex k]
        by_cases hk : k = k0
        · rw [if_pos hk]
          rw [if_pos ⟨by omega, by omega, by rw [hk]; exact hw⟩] at e1
          omega
        · rw [if_neg hk]
          split at e1 <;> omega
      cases hj : pw_jn c D k0 with
      | none => rw [hj] at h; cases h
      | some p =>
        rw [hj] at h
        obtain ⟨a1, a2, a3, a4⟩ := pw_jn_ok ho hc hbase hb hj
        have := pw_gw_ok m (k0 + 1) p.1 p.2 q T a1 (by omega) (by rw [a2.1]; omega) (Or.inr a3) hT (fun k g0 g1 => by
          rw [a4, hex k, ← hS k g0 g1]
          by_cases hk : k = k0
          · rw [if_pos hk, if_neg (by omega), if_pos ⟨by omega, by omega, by rw [hk]; exact hw⟩]
            omega
          · rw [if_neg hk]
            by_cases hq : k0 + 1 ≤ k ∧ k < k0 + 1 + m ∧ P.2.2.2.2.2 k = n
            · rw [if_pos hq, if_pos ⟨by omega, by omega, hq.2.2⟩]; omega
            · rw [if_neg hq, if_neg (fun z => hq ⟨by omega, by omega, z.2.2⟩)]; omega) h
        exact ⟨this.1, pw_ext_tr a2 this.2.1, this.2.2⟩
    · rw [if_neg hw] at h
      exact pw_gw_ok m (k0 + 1) c D q T ho (by omega) (by omega) hc hT (fun k g0 g1 => by
        rw [← hS k g0 g1]
        by_cases hq : k0 + 1 ≤ k ∧ k < k0 + 1 + m ∧ P.2.2.2.2.2 k = n
        · rw [if_pos hq, if_pos ⟨by omega, by omega, hq.2.2⟩]
        · rw [if_neg hq, if_neg (fun z => hq ⟨by
            by_cases hk : k = k0
            · exact absurd (by rw [← hk]; exact z.2.2) hw
            · omega, by omega, z.2.2⟩)]) h
theorem pw_jo_ok {D : pw_P} {b : Prop} [Decidable b] (ho : pw_ok D) {c t : Int} (hc : c = -1 ∨ pw_has D c) (ht : pw_has D t) (hb : ∀ k, 0 ≤ k → k < 4 → pw_cw c D k + pw_ex D t k * (if b then 1 else 0) ≤ 1000000000000000) {q : Int × pw_P} (h : pw_jo b c D t = some q) : pw_ok q.2 ∧ pw_ext D q.2 ∧ (q.1 = -1 ∨ pw_has q.2 q.1) ∧ ∀ k, pw_cw q.1 q.2 k = pw_cw c D k + pw_ex D t k * (if b then 1 else 0) := by
  unfold pw_jo at h
  by_cases hbb : b
  · rw [if_pos hbb] at h
    obtain ⟨a1, a2, a3, a4⟩ := pw_jn_ok ho hc ht (fun k k0 k1 => by have := hb k k0 k1; rw [if_pos hbb] at this; omega) h
    exact ⟨a1, a2, Or.inr a3, fun k => by rw [a4, if_pos hbb]; omega⟩
  · rw [if_neg hbb] at h
    cases h
    exact ⟨ho, pw_ext_rf, hc, fun k => by
      rw [if_neg hbb, Int.mul_zero, Int.add_zero]⟩
theorem pw_gs_ok {P : pw_P} {cm : Int → Int} {n : Int} : ∀ (m : Nat) (s c : Int) (D : pw_P) (q : Int × pw_P) (T : Int → Int), pw_ok D → (c = -1 ∨ pw_has D c) → (∀ j, s ≤ j → j < s + m → cm j = -1 ∨ pw_has D (cm j)) → (∀ k, 0 ≤ k → k < 4 → T k ≤ 1000000000000000) → (∀ k, 0 ≤ k → k < 4 → pw_cw c D k + pw_sum (fun j => pw_cw (cm j) D k * pw_use P n j) s m = T k) → pw_gs P cm n m s c D = some q → pw_gR D q T
  | 0, s, c, D, q, T, ho, hc, hcm, hT, hS, h => by
    simp only [pw_gs] at h
    cases h
    refine ⟨ho, pw_ext_rf, hc, fun k g0 g1 => ?_⟩
    rw [← hS k g0 g1]
    simp [pw_sum]
  | m + 1, s, c, D, q, T, ho, hc, hcm, hT, hS, h => by
    simp only [pw_gs] at h
    have hS' : ∀ k, 0 ≤ k → k < 4 → pw_cw c D k + (pw_cw (cm s) D k * pw_use P n s + pw_sum (fun j => pw_cw (cm j) D k * pw_use P n j) (s + 1) m) = T k := fun k g0 g1 => by
      have := hS k g0 g1
      rw [pw_sum_head] at this
      exact this
    have hrest : ∀ k, 0 ≤ k → k < 4 → 0 ≤ pw_sum (fun j => pw_cw (cm j) D k * pw_use P n j) (s + 1) m := fun k g0 g1 => pw_sum_nn _ (fun j j0 j1 => Int.mul_nonneg (pw_cw_nn ho (hcm j (by omega) (by omega)) g0 g1) pw_use_nn.1)
    by_cases hz : cm s = -1
    · rw [if_pos hz] at h
      exact pw_gs_ok m (s + 1) c D q T ho hc (fun j j0 j1 => hcm j (by omega) (by omega)) hT (fun k g0 g1 => by
        have := hS' k g0 g1
        have e : pw_cw (cm s) D k = 0 := if_pos hz
        rw [e, Int.zero_mul] at this
        omega) h
    · rw [if_neg hz] at h
      have ht : pw_has D (cm s) := (hcm s (Int.le_refl _) (by omega)).resolve_left hz
      have ecw : ∀ k, pw_cw (cm s) D k = pw_ex D (cm s) k := fun k => if_neg hz
      have huse : pw_use P n s = (if P.2.2.2.1 s = n then 1 else 0) + (if P.2.2.2.2.1 s = n then 1 else 0) := rfl
      have hexn : ∀ k, 0 ≤ k → k < 4 → 0 ≤ pw_ex D (cm s) k := fun k g0 g1 => (ho.2.2 _ k ht.1 ht.2 g0 g1).1
      have hr0 : ∀ k, 0 ≤ k → k < 4 → 0 ≤ pw_ex D (cm s) k * (if P.2.2.2.2.1 s = n then 1 else 0) := fun k g0 g1 => Int.mul_nonneg (hexn k g0 g1) (by split <;> omega)
      have hsum : ∀ k, 0 ≤ k → k < 4 → pw_cw c D k + pw_ex D (cm s) k * (if P.2.2.2.1 s = n then 1 else 0) + pw_ex D (cm s) k * (if P.2.2.2.2.1 s = n then 1 else 0) + pw_sum (fun j => pw_cw (cm j) D k * pw_use P n j) (s + 1) m = T k := fun k g0 g1 => by
        have := hS' k g0 g1
        rw [huse, ecw, Int.mul_add] at this
        omega
      cases hj : pw_jo (P.2.2.2.1 s = n) c D (cm s) with
      | none => rw [hj] at h; cases h
      | some p =>
        rw [hj] at h
        obtain ⟨a1, a2, a3, a4⟩ := pw_jo_ok ho hc ht (fun k g0 g1 => by
          have := hsum k g0 g1; have := hr0 k g0 g1; have := hrest k g0 g1; have := hT k g0 g1
          omega) hj
        have ht2 := (a2.2.2 _ ht)
        simp only at h
        cases hj2 : pw_jo (P.2.2.2.2.1 s = n) p.1 p.2 (cm s) with
        | none => rw [hj2] at h; cases h
        | some p2 =>
          rw [hj2] at h
          obtain ⟨c1, c2, c3, c4⟩ := pw_jo_ok a1 a3 ht2.1 (fun k g0 g1 => by
            rw [a4, ht2.2]
            have := hsum k g0 g1; have := hrest k g0 g1; have := hT k g0 g1
            omega) hj2
          simp only at h
          have hext := pw_ext_tr a2 c2
          have := pw_gs_ok m (s + 1) p2.1 p2.2 q T c1 c3 (fun j j0 j1 => (hcm j (by omega) (by omega)).imp id (fun z => (hext.2.2 _ z).1)) hT (fun k g0 g1 => by
            rw [c4, a4, ht2.2, pw_sum_cg (g := fun j => pw_cw (cm j) D k * pw_use P n j) m (fun j j0 j1 => by rw [pw_cw_ext hext (hcm j (by omega) (by omega))])]
            exact hsum k g0 g1) h
          exact ⟨this.1, pw_ext_tr hext this.2.1, this.2.2⟩
def pw_uw (P : pw_P) (cm : Int → Int) (D : pw_P) (k m s : Int) : Int := if m ≤ s ∧ s < P.1 + P.2.1 then pw_cw (cm s) D k else 0
theorem pw_uw_in {P : pw_P} {cm : Int → Int} {D : pw_P} {k m s : Int} (h0 : m ≤ s) (h1 : s < P.1 + P.2.1) : pw_uw P cm D k m s = pw_cw (cm s) D k := if_pos ⟨h0, h1⟩
theorem pw_aw_nn {P : pw_P} {U : Int → Int} {w i m : Int} (hU : ∀ s, 0 ≤ U s) : 0 ≤ pw_aw P U w i m := by
  have : 0 ≤ pw_sum (fun s => U s * pw_use P i s) (pw_max m P.1) (P.1 + P.2.1 - pw_max m P.1).toNat := pw_sum_nn _ (fun s _ _ => Int.mul_nonneg (hU s) pw_use_nn.1)
  unfold pw_aw
  split <;> omega
def pw_dI (P : pw_P) (m : Int) (cm : Int → Int) (D : pw_P) : Prop := pw_ok D ∧ D.1 = P.2.2.1 ∧ D.2.2.1 = 0 ∧ (∀ j, m ≤ j → j < P.1 + P.2.1 → cm j = -1 ∨ pw_has D (cm j)) ∧ ∀ j k, m ≤ j → j < P.1 + P.2.1 → 0 ≤ k → k < P.2.2.1 → pw_cw (cm j) D k = pw_aw P (pw_uw P cm D k m) (P.2.2.2.2.2 k) j (j + 1)
theorem pw_aw_cg {P : pw_P} {U U' : Int → Int} {w i m : Int} (h : ∀ s, m ≤ s → s < P.1 + P.2.1 → U s = U' s) : pw_aw P U w i m = pw_aw P U' w i m := by
  unfold pw_aw
  rw [pw_sum_cg (g := fun s => U' s * pw_use P i s) _ (fun s s0 s1 => ?_)]
  have : m ≤ s ∧ s < P.1 + P.2.1 := by
    unfold pw_max at s0 s1
    split at s0 <;> omega
  rw [h s this.1 this.2]
/-- weights set at m too -/
def pw_um (U : Int → Int) (m a : Int) (s : Int) : Int := if s = m then a else U s
theorem pw_uw_bnd {P : pw_P} (ho : pw_ok P) {m : Int} {cm : Int → Int} {D : pw_P} (hI : pw_dI P (m + 1) cm D) (m0 : 0 ≤ m) (m1 : m < P.1 + P.2.1) {k : Int} (k0 : 0 ≤ k) (k1 : k < P.2.2.1) : pw_aw P (pw_uw P cm D k (m + 1)) (P.2.2.2.2.2 k) m (m + 1) ≤ 1000000000000000 := by
  obtain ⟨i1, i2, i3, i4, i5⟩ := hI
  have hw4 := ho.1.2.2.2.2.2
  have hUn : ∀ s, 0 ≤ pw_uw P cm D k (m + 1) s := fun s => by
    unfold pw_uw
    split
    · rename_i hs
      exact pw_cw_nn i1 (i4 s hs.1 hs.2) k0 (by omega)
    · omega
  have hA := pw_aw_nn (P := P) (w := P.2.2.2.2.2 k) (i := m) (m := m + 1) hUn
  obtain ⟨v0, v1⟩ := ho.2.1.2 k k0 k1
  have := pw_wt1 ho (U := pw_um (pw_uw P cm D k (m + 1)) m (pw_aw P (pw_uw P cm D k (m + 1)) (P.2.2.2.2.2 k) m (m + 1))) (w := P.2.2.2.2.2 k) (n := m) v0 v1 (fun s => by
    unfold pw_um
    split
    · exact hA
    · exact hUn s) m0 m1 (fun j j0 j1 => by
    have hcg : ∀ s, j + 1 ≤ s → s < P.1 + P.2.1 → pw_uw P cm D k (m + 1) s = pw_um (pw_uw P cm D k (m + 1)) m (pw_aw P (pw_uw P cm D k (m + 1)) (P.2.2.2.2.2 k) m (m + 1)) s := fun s g0 g1 => by
      unfold pw_um
      rw [if_neg (by omega)]
    by_cases hj : j = m
    · rw [← pw_aw_cg hcg, hj]
      exact if_pos rfl
    · rw [← pw_aw_cg hcg, ← i5 j k (by omega) j1 k0 k1]
      unfold pw_um
      rw [if_neg hj]
      exact pw_uw_in (by omega) j1)
  have e : pw_um (pw_uw P cm D k (m + 1)) m (pw_aw P (pw_uw P cm D k (m + 1)) (P.2.2.2.2.2 k) m (m + 1)) m = pw_aw P (pw_uw P cm D k (m + 1)) (P.2.2.2.2.2 k) m (m + 1) := if_pos rfl
  rw [e] at this
  exact this
theorem pw_node_ok {P : pw_P} (ho : pw_ok P) {m : Int} {cm : Int → Int} {D : pw_P} {p : Int × pw_P} (hI : pw_dI P (m + 1) cm D) (m0 : 0 ≤ m) (m1 : m < P.1 + P.2.1) (hn : pw_node P cm m D = some p) : pw_ok p.2 ∧ pw_ext D p.2 ∧ (p.1 = -1 ∨ pw_has p.2 p.1) ∧ ∀ k, 0 ≤ k → k < P.2.2.1 → pw_cw p.1 p.2 k = pw_aw P (pw_uw P cm D k (m + 1)) (P.2.2.2.2.2 k) m (m + 1) := by
  obtain ⟨i1, i2, i3, i4, i5⟩ := id hI
  obtain ⟨b0, b1, s0, s1, w0, w1⟩ := id ho.1
  unfold pw_node at hn
  cases hg : pw_gw P m P.2.2.1.toNat 0 (-1) D with
  | none => rw [hg] at hn; cases hn
  | some g =>
    rw [hg] at hn
    simp only at hn
    have hk4 : ∀ k, P.2.2.1 ≤ k → ∀ j, pw_has D j → pw_ex D j k = 0 := fun k hk j hj => pw_ex_0 i1.2.1 i1.1.1 (by rw [i2]; exact hk) j hj.1 hj.2
    have hcw1 : ∀ k, pw_cw (-1) D k = 0 := fun k => if_pos rfl
    obtain ⟨a1, a2, a3, a4⟩ := pw_gw_ok P.2.2.1.toNat 0 (-1) D g (fun k => if k < P.2.2.1 ∧ P.2.2.2.2.2 k = m then 1 else 0) i1 (Int.le_refl _) (by omega) (Or.inl rfl) (fun k _ _ => by
      by_cases hq : k < P.2.2.1 ∧ P.2.2.2.2.2 k = m
      · rw [if_pos hq]; omega
      · rw [if_neg hq]; omega) (fun k g0 g1 => by
      rw [hcw1]
      by_cases hq : k < P.2.2.1 ∧ P.2.2.2.2.2 k = m
      · rw [if_pos hq, if_pos ⟨g0, by omega, hq.2⟩]; rfl
      · rw [if_neg hq, if_neg (fun z => hq ⟨by omega, z.2.2⟩)]; rfl) hg
    have a4' : ∀ k, 0 ≤ k → k < 4 → pw_cw g.1 g.2 k = if k < P.2.2.1 ∧ P.2.2.2.2.2 k = m then 1 else 0 := a4
    have hin : ∀ s, pw_max (m + 1) P.1 ≤ s → s < pw_max (m + 1) P.1 + ((P.1 + P.2.1 - pw_max (m + 1) P.1).toNat : Int) → m + 1 ≤ s ∧ s < P.1 + P.2.1 := fun s s0 s1 => by
      unfold pw_max at s0 s1
      split at s0 <;> omega
    obtain ⟨c1, c2, c3, c4⟩ := pw_gs_ok (P := P) (cm := cm) (n := m) (P.1 + P.2.1 - pw_max (m + 1) P.1).toNat (pw_max (m + 1) P.1) g.1 g.2 p (fun k => if k < P.2.2.1 then pw_aw P (pw_uw P cm D k (m + 1)) (P.2.2.2.2.2 k) m (m + 1) else 0) a1 a3 (fun j j0 j1 => by
      have hj := hin j j0 j1
      exact (i4 j hj.1 hj.2).imp id (fun z => (a2.2.2 _ z).1)) (fun k g0 g1 => by
      by_cases hk : k < P.2.2.1
      · rw [if_pos hk]; exact pw_uw_bnd ho hI m0 m1 g0 hk
      · rw [if_neg hk]; omega) (fun k g0 g1 => by
      rw [a4' k g0 g1]
      by_cases hk : k < P.2.2.1
      · rw [if_pos hk]
        unfold pw_aw
        rw [pw_sum_cg (g := fun s => pw_uw P cm D k (m + 1) s * pw_use P m s) _ (fun s s0 s1 => by
          have hs := hin s s0 s1
          rw [pw_uw_in hs.1 hs.2, pw_cw_ext a2 (i4 s hs.1 hs.2)])]
        by_cases hq : P.2.2.2.2.2 k = m
        · rw [if_pos ⟨hk, hq⟩, if_pos hq]
        · rw [if_neg (fun z => hq z.2), if_neg hq]
      · rw [if_neg hk, if_neg (fun z => hk z.1), pw_sum_cg (g := fun s => 0 * pw_use P m s) _ (fun s s0 s1 => by
          have hs := hin s s0 s1
          have : pw_cw (cm s) g.2 k = 0 := by
            rw [pw_cw_ext a2 (i4 s hs.1 hs.2)]
            unfold pw_cw
            by_cases hz : cm s = -1
            · rw [if_pos hz]
            · rw [if_neg hz]
              exact hk4 k (by omega) _ ((i4 s hs.1 hs.2).resolve_left hz)
          rw [this]), pw_sum_mul, Int.zero_mul]
        rfl) hn
    refine ⟨c1, pw_ext_tr a2 c2, c3, fun k k0 k1 => ?_⟩
    have c4' : ∀ k, 0 ≤ k → k < 4 → pw_cw p.1 p.2 k = if k < P.2.2.1 then pw_aw P (pw_uw P cm D k (m + 1)) (P.2.2.2.2.2 k) m (m + 1) else 0 := c4
    rw [c4' k k0 (by omega), if_pos k1]
theorem pw_du_ok {P : pw_P} (ho : pw_ok P) : ∀ (m : Nat) (cm : Int → Int) (D : pw_P) (q : (Int → Int) × pw_P), (m : Int) ≤ P.1 + P.2.1 → pw_dI P m cm D → pw_du P m cm D = some q → pw_dI P 0 q.1 q.2
  | 0, cm, D, q, hm, hI, h => by
    simp only [pw_du] at h
    cases h
    exact hI
  | m + 1, cm, D, q, hm, hI, h => by
    have hI' : pw_dI P ((m : Int) + 1) cm D := by
      rw [show (m : Int) + 1 = ((m + 1 : Nat) : Int) by omega]; exact hI
    obtain ⟨i1, i2, i3, i4, i5⟩ := id hI'
    simp only [pw_du] at h
    cases hn : pw_node P cm m D with
    | none => rw [hn] at h; cases h
    | some p =>
      rw [hn] at h
      simp only at h
      obtain ⟨c1, hext, c3, c4⟩ := pw_node_ok ho hI' (by omega) (by omega) hn
      refine pw_du_ok ho m _ p.2 q (by omega) ⟨c1, by rw [hext.1]; exact i2, by rw [hext.2.1]; exact i3, fun j j0 j1 => ?_, fun j k j0 j1 k0 k1 => ?_⟩ h
      · by_cases hj : j = m
        · rw [if_pos hj]; exact c3
        · rw [if_neg hj]
          exact (i4 j (by omega) j1).imp id (fun z => (hext.2.2 _ z).1)
      · have hUcg : ∀ s, (m : Int) + 1 ≤ s → s < P.1 + P.2.1 → pw_uw P cm D k (m + 1) s = pw_uw P (fun j => if j = (m : Int) then p.1 else cm j) p.2 k m s := fun s g0 g1 => by
          rw [pw_uw_in g0 g1, pw_uw_in (by omega) g1, if_neg (by omega), pw_cw_ext hext (i4 s (by omega) g1)]
        by_cases hj : j = m
        · rw [if_pos hj, c4 k k0 k1, hj]
          exact pw_aw_cg hUcg
        · rw [if_neg hj, pw_cw_ext hext (i4 j (by omega) j1), i5 j k (by omega) j1 k0 k1]
          exact pw_aw_cg (fun s g0 g1 => hUcg s (by omega) g1)
theorem pw_dual_ok {P E : pw_P} (ho : pw_ok P) (h : pw_dual P = some E) : pw_ok E := by
  obtain ⟨b0, b1, s0, s1, w0, w1⟩ := id ho.1
  unfold pw_dual at h
  by_cases hz : P.2.2.1 = 0
  · rw [if_pos hz] at h; cases h
  · rw [if_neg hz] at h
    have hbare : pw_ok (pw_bare P.2.2.1) := by
      refine ⟨⟨w0, w1, by show (0 : Int) ≤ 0; omega, by show (0 : Int) ≤ 60; omega, by show (0 : Int) ≤ 0; omega, by show (0 : Int) ≤ 4; omega⟩, ⟨fun n n0 n1 => ?_, fun k k0 k1 => ?_⟩, fun n c n0 n1 c0 c1 => ?_⟩
      · have n0' : P.2.2.1 ≤ n := n0
        have n1' : n < P.2.2.1 + 0 := n1
        omega
      · have k1' : k < 0 := k1
        omega
      · have n1' : n < P.2.2.1 + 0 := n1
        rw [pw_ex_b (P := pw_bare P.2.2.1) (show n < P.2.2.1 by omega)]
        split <;> omega
    cases hd : pw_du P (P.1 + P.2.1).toNat (fun _ => -1) (pw_bare P.2.2.1) with
    | none => rw [hd] at h; cases h
    | some q =>
      rw [hd] at h
      simp only at h
      have hI := pw_du_ok ho (P.1 + P.2.1).toNat (fun _ => -1) (pw_bare P.2.2.1) q (by omega) ⟨hbare, rfl, rfl, fun j _ _ => Or.inl rfl, fun j k j0 j1 => by omega⟩ hd
      obtain ⟨i1, i2, i3, i4, i5⟩ := hI
      by_cases hw : pw_wb q.1 P.1.toNat = true
      · rw [if_pos hw] at h
        cases h
        obtain ⟨d0, d1, d2, d3, d4, d5⟩ := id i1.1
        refine ⟨⟨d0, d1, d2, d3, b0, b1⟩, ⟨i1.2.1.1, fun k k0 k1 => ?_⟩, fun n c n0 n1 c0 c1 => ?_⟩
        · have k1' : k < P.1 := k1
          exact (i4 k k0 (by omega)).resolve_left (pw_wb_iff.mp hw k k0 (by omega))
        · rw [pw_ex_cg (P := q.2) (P' := (q.2.1, q.2.2.1, P.1, q.2.2.2.2.1, q.2.2.2.2.2.1, q.1)) i1.2.1 rfl (fun _ _ _ => ⟨rfl, rfl⟩) n c n0 n1]
          exact i1.2.2 n c n0 n1 c0 c1
      · rw [if_neg hw] at h; cases h
theorem pw_adual_ok {S : pw_S} (hO : pw_SO S) : pw_SO (pw_adual S).1 := by
  unfold pw_adual
  cases h : pw_dual S.P with
  | none => exact hO
  | some E => exact pw_adopt_ok hO (pw_dual_ok hO.1 h)
