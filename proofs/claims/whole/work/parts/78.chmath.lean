/-! ===== marks of the four methods, and the rows that are put down ===== -/
def pw_bm (n : Int) : Nat → Int → (Int → Int) → (Int → Int)
  | 0, _, s => s
  | m + 1, v, s => if n / 2 ^ m % 2 = 1 then pw_bm n m (2 * v + 1) (pw_set (pw_set s (2 * v) 1) (2 * v + 1) 1) else pw_bm n m (2 * v) (pw_set s (2 * v) 1)
def pw_rm (n : Int) : Nat → Nat → Int → (Int → Int) → (Int → Int)
  | 0, _, _, s => s
  | m + 1, i, t, s => if n / 2 ^ i % 2 = 1 then pw_rm n m (i + 1) (t + 2 ^ i) (pw_set (pw_set s (2 ^ i) 1) (t + 2 ^ i) 1) else pw_rm n m (i + 1) t (pw_set s (2 ^ i) 1)
def pw_tm (n : Int) : Nat → Int → (Int → Int) → (Int → Int)
  | 0, _, s => s
  | m + 1, v, s => pw_tm n m (n / 2 ^ (2 * m)) (pw_set (pw_set (pw_set s (2 * v) 1) (4 * v) 1) (n / 2 ^ (2 * m)) 1)
def pw_fm : Nat → Int → Int → (Int → Int) → (Int → Int)
  | 0, _, _, s => s
  | f + 1, n, t, s => if n ≤ 1 then s else if pw_lp n = n then pw_set (pw_fm f (n - 1) t s) (t * n) 1 else pw_fm f (n / pw_lp n) (t * pw_lp n) (pw_fm f (pw_lp n) t s)
/-- put down, greater or there already -/
theorem pw_pe_put {q : pw_C} {s : Int → Int} {l x : Int} (h : pw_pe q s l) (hm : q.1 < 64) (hx : l < x ∨ x = l) : pw_pe (pw_pt q x) (pw_set s x 1) x ∧ (pw_pt q x).1 ≤ q.1 + 1 := by
  rcases hx with hx | hx
  · have := pw_pe_up h hm hx
    exact ⟨this.1, by omega⟩
  · have := pw_pe_same h (x := x) (by rw [hx]; exact pw_pe_last h)
    rw [this.1, this.2, hx]
    exact ⟨h, by omega⟩
theorem pw_bm_pe {n : Int} : ∀ (m : Nat) (v : Int) (q : pw_C) (s : Int → Int), v = n / 2 ^ m → 1 ≤ v → pw_pe q s v → q.1 + 2 * m ≤ 60 → pw_pe (pw_bnf n m v q) (pw_bm n m v s) n
  | 0, v, q, s, hv, h1, h, hm => by
    rw [Int.pow_zero, Int.ediv_one] at hv
    rw [hv] at h
    exact h
  | m + 1, v, q, s, hv, h1, h, hm => by
    rw [pw_div2] at hv
    unfold pw_bnf pw_bm
    obtain ⟨a1, a2⟩ := pw_pe_put h (x := 2 * v) (by omega) (by omega)
    by_cases hb : n / 2 ^ m % 2 = 1
    · rw [if_pos hb, if_pos hb]
      obtain ⟨b1, b2⟩ := pw_pe_put a1 (x := 2 * v + 1) (by omega) (by omega)
      exact pw_bm_pe m _ _ _ (by omega) (by omega) b1 (by omega)
    · rw [if_neg hb, if_neg hb]
      exact pw_bm_pe m _ _ _ (by omega) (by omega) a1 (by omega)
theorem pw_rm_pe {n : Int} (hn : 0 ≤ n) : ∀ (m i : Nat) (t : Int) (q : pw_C) (s : Int → Int) (l : Int), pw_pe q s l → ((i = 0 ∧ l = 1) ∨ l < 2 ^ i) → t = n % 2 ^ i → l ≤ n → q.1 + 2 * m ≤ 60 → (∀ j : Nat, j < i + m → (2 : Int) ^ j ≤ n) → ∃ l', l' ≤ n ∧ pw_pe (pw_rtf n m i t q) (pw_rm n m i t s) l'
  | 0, i, t, q, s, l, h, hl, ht, hln, hm, hj => ⟨l, hln, h⟩
  | m + 1, i, t, q, s, l, h, hl, ht, hln, hm, hj => by
    have hp := pw_p2 i
    have hpn := hj i (by omega)
    have ht1 := Int.emod_lt_of_pos n hp
    have ht0 := Int.emod_nonneg n (show (2 : Int) ^ i ≠ 0 by omega)
    have hsp : n % 2 ^ (i + 1) = n % 2 ^ i + 2 ^ i * (n / 2 ^ i % 2) := by
      have e1 := Int.mul_ediv_add_emod n (2 ^ i)
      have e2 : n / 2 ^ i % 2 = n / 2 ^ i - 2 * (n / 2 ^ i / 2) := by omega
      rw [Int.emod_def n (2 ^ (i + 1)), pw_div2, Int.pow_succ, e2, Int.mul_sub, Int.mul_assoc]
      omega
    have hle : n % 2 ^ (i + 1) ≤ n := by
      have := Int.mul_nonneg (Int.le_of_lt (pw_p2 (i + 1))) (Int.ediv_nonneg hn (Int.le_of_lt (pw_p2 (i + 1))))
      rw [Int.emod_def]
      omega
    have hp1 : (2 : Int) ^ (i + 1) = 2 * 2 ^ i := by rw [Int.pow_succ]; omega
    unfold pw_rtf pw_rm
    obtain ⟨a1, a2⟩ := pw_pe_put h (x := 2 ^ i) (by omega) (by
      rcases hl with ⟨h0, h1⟩ | h1
      · rw [h0, h1]; right; rfl
      · left; exact h1)
    by_cases hb : n / 2 ^ i % 2 = 1
    · rw [if_pos hb, if_pos hb]
      rw [hb, Int.mul_one] at hsp
      obtain ⟨b1, b2⟩ := pw_pe_put a1 (x := t + 2 ^ i) (by omega) (by omega)
      exact pw_rm_pe hn m (i + 1) _ _ _ _ b1 (Or.inr (by omega)) (by omega) (by omega) (by omega) (fun j hjj => hj j (by omega))
    · rw [if_neg hb, if_neg hb]
      have hb0 : n / 2 ^ i % 2 = 0 := by omega
      rw [hb0, Int.mul_zero] at hsp
      exact pw_rm_pe hn m (i + 1) _ _ _ _ a1 (Or.inr (by omega)) (by omega) hpn (by omega) (fun j hjj => hj j (by omega))
theorem pw_tm_pe {n : Int} : ∀ (m : Nat) (v : Int) (q : pw_C) (s : Int → Int) (l : Int), v = n / 2 ^ (2 * m) → 1 ≤ v → pw_pe q s l → (l = v ∨ (l = 3 ∧ v ≤ 3 ∧ s 2 = 1 ∧ 1 ≤ m)) → q.1 + 3 * m ≤ 60 → pw_pe (pw_thf n m v q) (pw_tm n m v s) n
  | 0, v, q, s, l, hv, h1, h, hl, hm => by
    rw [Nat.mul_zero, Int.pow_zero, Int.ediv_one] at hv
    have hlv : l = v := by
      rcases hl with hl | hl
      · exact hl
      · omega
    rw [hlv, hv] at h
    exact h
  | m + 1, v, q, s, l, hv, h1, h, hl, hm => by
    rw [show 2 * (m + 1) = 2 * m + 1 + 1 by omega, pw_div2, pw_div2] at hv
    unfold pw_thf pw_tm
    have hA : ∃ l2, l2 < 4 * v ∧ pw_pe (pw_pt q (2 * v)) (pw_set s (2 * v) 1) l2 ∧ (pw_pt q (2 * v)).1 ≤ q.1 + 1 := by
      rcases hl with hl | ⟨h3, hv3, h2, -⟩
      · obtain ⟨a1, a2⟩ := pw_pe_put h (x := 2 * v) (by omega) (by omega)
        exact ⟨2 * v, by omega, a1, a2⟩
      · by_cases hv1 : v = 1
        · have := pw_pe_same h (x := 2 * v) (by rw [hv1]; exact h2)
          rw [this.1, this.2]
          exact ⟨l, by omega, h, by omega⟩
        · obtain ⟨a1, a2⟩ := pw_pe_put h (x := 2 * v) (by omega) (by omega)
          exact ⟨2 * v, by omega, a1, a2⟩
    obtain ⟨l2, k1, k2, k3⟩ := hA
    obtain ⟨b1, b2⟩ := pw_pe_put k2 (x := 4 * v) (by omega) (by omega)
    obtain ⟨c1, c2⟩ := pw_pe_put b1 (x := n / 2 ^ (2 * m)) (by omega) (by omega)
    exact pw_tm_pe m _ _ _ _ rfl (by omega) c1 (Or.inl rfl) (by omega)
/-- calls enough for n -/
def pw_fok (f : Nat) (n : Int) : Prop := n ≤ 1 ∨ ∃ k : Nat, n < 2 ^ k ∧ (2 * k ≤ f ∨ (n % 2 = 0 ∧ 2 * k ≤ f + 1))
theorem pw_lp_2 {n : Int} (h : 2 ≤ n) (he : n % 2 = 0) : pw_lp n = 2 := by
  unfold pw_lp
  cases hf : (n - 2).toNat with
  | zero => rfl
  | succ f =>
    simp only [pw_lps]
    rw [if_pos he]
theorem pw_fok_1 {f : Nat} {n : Int} (h : pw_fok (f + 1) n) (h2 : 2 ≤ n) (hp : pw_lp n = n) : pw_fok f (n - 1) := by
  rcases h with h | ⟨k, hk, h⟩
  · omega
  · by_cases he : n % 2 = 0
    · rw [pw_lp_2 h2 he] at hp
      exact Or.inl (by omega)
    · rcases h with h | h
      · exact Or.inr ⟨k, by omega, Or.inr ⟨by omega, by omega⟩⟩
      · exact absurd h.1 he
theorem pw_lp_mul {n : Int} (h2 : 2 ≤ n) : n = pw_lp n * (n / pw_lp n) := by
  obtain ⟨a, b, c⟩ := pw_lp_in h2
  have := Int.mul_ediv_add_emod n (pw_lp n)
  omega
theorem pw_fok_2 {f : Nat} {n : Int} (h : pw_fok (f + 1) n) (h2 : 2 ≤ n) (hp : pw_lp n ≠ n) : pw_fok f (pw_lp n) ∧ pw_fok f (n / pw_lp n) ∧ 2 ≤ n / pw_lp n := by
  obtain ⟨a, b, c⟩ := pw_lp_in h2
  have hm := pw_lp_mul h2
  have hq : 2 ≤ n / pw_lp n := by
    by_cases hq : 2 ≤ n / pw_lp n
    · exact hq
    · have h0 : 0 ≤ n / pw_lp n := Int.ediv_nonneg (by omega) (by omega)
      by_cases h1 : n / pw_lp n = 1
      · rw [h1, Int.mul_one] at hm
        exact absurd hm.symm hp
      · rw [show n / pw_lp n = 0 by omega, Int.mul_zero] at hm
        omega
  have hl1 : 2 * pw_lp n ≤ n := by
    have := Int.mul_le_mul_of_nonneg_left hq (show 0 ≤ pw_lp n by omega)
    rw [← hm] at this
    omega
  have hl2 : 2 * (n / pw_lp n) ≤ n := by
    have := Int.mul_le_mul_of_nonneg_right b (show 0 ≤ n / pw_lp n by omega)
    rw [← hm] at this
    omega
  rcases h with h | ⟨k, hk, h⟩
  · omega
  · cases k with
    | zero => rw [Int.pow_zero] at hk; omega
    | succ k =>
      rw [Int.pow_succ] at hk
      exact ⟨Or.inr ⟨k, by omega, Or.inl (by omega)⟩, Or.inr ⟨k, by omega, Or.inl (by omega)⟩, hq⟩
theorem pw_fm_pe : ∀ (f : Nat) (n t : Int) (q : pw_C) (s : Int → Int), pw_fok f n → 1 ≤ n → 1 ≤ t → pw_pe q s t → (∀ c : Nat, (2 : Int) ^ c ≤ n * n → q.1 + c ≤ 60) → pw_pe (pw_fc f n t q) (pw_fm f n t s) (t * n) ∧ ∃ c : Nat, (pw_fc f n t q).1 = q.1 + c ∧ (2 : Int) ^ c ≤ n * n ∧ (n % 2 = 0 → 2 * 2 ^ c ≤ n * n)
  | 0, n, t, q, s, hf, hn, ht, h, hB => by
    have hn1 : n = 1 := by
      rcases hf with hf | ⟨k, hk, hf⟩
      · omega
      · rcases hf with hf | hf
        · rw [show k = 0 by omega, Int.pow_zero] at hk; omega
        · rw [show k = 0 by omega, Int.pow_zero] at hk; omega
    subst hn1
    rw [Int.mul_one]
    refine ⟨h, 0, by simp [pw_fc], by simp, fun q => by omega⟩
  | f + 1, n, t, q, s, hf, hn, ht, h, hB => by
    unfold pw_fc pw_fm
    by_cases hn1 : n ≤ 1
    · rw [if_pos hn1, if_pos hn1]
      have : n = 1 := by omega
      subst this
      rw [Int.mul_one]
      exact ⟨h, 0, by simp, by simp, fun q => by omega⟩
    · rw [if_neg hn1, if_neg hn1]
      by_cases hp : pw_lp n = n
      · rw [if_pos hp, if_pos hp]
        have hmono : (n - 1) * (n - 1) ≤ n * n := Int.mul_le_mul (by omega) (by omega) (by omega) (by omega)
        obtain ⟨a1, c, a2, a3, a4⟩ := pw_fm_pe f (n - 1) t q s (pw_fok_1 hf (by omega) hp) (by omega) ht h (fun c hc => hB c (by omega))
        have hc60 := hB c (by omega)
        have e1 : t * (n - 1) = t * n - t := by rw [Int.mul_sub, Int.mul_one]
        obtain ⟨b1, b2⟩ := pw_pe_up a1 (x := t * n) (by omega) (by omega)
        refine ⟨b1, c + 1, by rw [b2, a2]; omega, ?_, ?_⟩
        · rw [Int.pow_succ]
          by_cases he : n % 2 = 0
          · have h2 : n = 2 := by rw [pw_lp_2 (by omega) he] at hp; omega
            subst h2
            have : (2 : Int) ^ c ≤ 1 := a3
            omega
          · have := a4 (by omega)
            omega
        · intro he
          have h2 : n = 2 := by rw [pw_lp_2 (by omega) he] at hp; omega
          subst h2
          have : (2 : Int) ^ c ≤ 1 := a3
          rw [Int.pow_succ]
          omega
      · rw [if_neg hp, if_neg hp]
        obtain ⟨lpd, lp2, lpn⟩ := pw_lp_in (n := n) (by omega)
        have hm := pw_lp_mul (n := n) (by omega)
        obtain ⟨f1, f2, q2⟩ := pw_fok_2 hf (by omega) hp
        generalize hL : pw_lp n = p at *
        generalize hD : n / p = d at *
        have hpn : p * p ≤ n * n := Int.mul_le_mul lpn lpn (by omega) (by omega)
        obtain ⟨a1, c, a2, a3, a4⟩ := pw_fm_pe f p t q s f1 (by omega) ht h (fun c hc => hB c (by omega))
        have hnn : n * n = (p * p) * (d * d) := by
          rw [hm]
          rw [Int.mul_assoc, Int.mul_comm d (p * d), Int.mul_assoc p d d, ← Int.mul_assoc p p (d * d)]
        have hd1 : 1 ≤ d * d := by
          have := Int.mul_le_mul (show (1 : Int) ≤ d by omega) (show (1 : Int) ≤ d by omega) (by omega) (by omega)
          omega
        have hcc : ∀ c2 : Nat, (2 : Int) ^ c2 ≤ d * d → (2 : Int) ^ (c + c2) ≤ n * n := fun c2 h2 => by
          rw [Int.pow_add, hnn]
          exact Int.mul_le_mul a3 h2 (Int.le_of_lt (pw_p2 c2)) (by have := pw_p2 c; omega)
        have ht2 : 1 ≤ t * p := by
          have := Int.mul_le_mul ht (show (1 : Int) ≤ p by omega) (by omega) (by omega)
          omega
        obtain ⟨b1, c2, b2, b3, b4⟩ := pw_fm_pe f d (t * p) _ _ f2 (by omega) ht2 a1 (fun c2 h2 => by
          have := hB (c + c2) (hcc c2 h2)
          rw [a2]
          omega)
        refine ⟨by rw [Int.mul_assoc, ← hm] at b1; exact b1, c + c2, by rw [b2, a2]; omega, hcc c2 b3, fun he => ?_⟩
        have hp2 : p = 2 := by rw [← hL]; exact pw_lp_2 (by omega) he
        have hc1 := a4 (by omega)
        have h3 : 2 * 2 ^ c * 2 ^ c2 ≤ p * p * (d * d) := Int.mul_le_mul hc1 b3 (Int.le_of_lt (pw_p2 c2)) (by have := pw_p2 c; omega)
        rw [hnn, Int.pow_add, ← Int.mul_assoc]
        exact h3
def pw_mm (n m : Int) : Int → Int := if m = 0 then pw_bm n (pw_hb n).toNat 1 (fun x => if x = 1 then 1 else 0) else if m = 1 then pw_rm n ((pw_hb n).toNat + 1) 0 0 (fun x => if x = 1 then 1 else 0) else if m = 2 then pw_fm 41 n 1 (fun x => if x = 1 then 1 else 0) else if n < 4 then pw_bm n (pw_hb n).toNat 1 (fun x => if x = 1 then 1 else 0) else pw_tm n (pw_hb n / 2).toNat (n / 2 ^ (2 * (pw_hb n / 2).toNat)) (pw_set (pw_set (fun x => if x = 1 then 1 else 0) 2 1) 3 1)
theorem pw_hb_pow {n : Int} (h1 : 1 ≤ n) (h2 : n ≤ 9999) : (2 : Int) ^ (pw_hb n).toNat ≤ n ∧ n < 2 ^ ((pw_hb n).toNat + 1) := by
  have h := pw_hb_1 h1 h2
  have hp := pw_p2 (pw_hb n).toNat
  have e := Int.mul_ediv_add_emod n (2 ^ (pw_hb n).toNat)
  have e0 := Int.emod_nonneg n (show (2 : Int) ^ (pw_hb n).toNat ≠ 0 by omega)
  have e1 := Int.emod_lt_of_pos n hp
  rw [h, Int.mul_one] at e
  rw [Int.pow_succ]
  omega
theorem pw_mm_pe {n m : Int} (h : pw_mok n m) : ∃ l, l ≤ n ∧ pw_pe (pw_ch n m) (pw_mm n m) l := by
  obtain ⟨h1, h2, h3, h4⟩ := h
  obtain ⟨p0, p1⟩ := pw_pe_0 (r := fun _ => 0)
  have hb := pw_hb_in h1 h2
  have hb1 := pw_hb_1 h1 h2
  unfold pw_ch pw_mk pw_mm
  by_cases m0 : m = 0
  · rw [if_pos m0, if_pos m0]
    exact ⟨n, Int.le_refl _, pw_bm_pe _ 1 _ _ hb1.symm (by omega) p0 (by rw [p1]; omega)⟩
  · rw [if_neg m0, if_neg m0]
    by_cases m1 : m = 1
    · rw [if_pos m1, if_pos m1]
      refine pw_rm_pe (by omega) _ 0 0 _ _ 1 p0 (Or.inl ⟨rfl, rfl⟩) ?_ h1 (by rw [p1]; omega) (fun j hj => ?_)
      · rw [Int.pow_zero, Int.emod_one]
      · have := (pw_hb_pow h1 h2).1
        have h5 : (2 : Nat) ^ j ≤ 2 ^ (pw_hb n).toNat := Nat.pow_le_pow_right (by omega) (by omega)
        have h6 : ((2 ^ j : Nat) : Int) ≤ ((2 ^ (pw_hb n).toNat : Nat) : Int) := Int.ofNat_le.mpr h5
        rw [Int.natCast_pow, Int.natCast_pow] at h6
        have h7 : (2 : Int) ^ j ≤ 2 ^ (pw_hb n).toNat := h6
        omega
    · rw [if_neg m1, if_neg m1]
      by_cases m2 : m = 2
      · rw [if_pos m2, if_pos m2]
        have hq := pw_fm_pe 41 n 1 _ _ (Or.inr ⟨14, by rw [show (2 : Int) ^ 14 = 16384 from rfl]; omega, Or.inl (by omega)⟩) h1 (Int.le_refl _) p0 (fun c hc => by
          rw [p1]
          by_cases hc59 : c ≤ 59
          · omega
          · exfalso
            have h5 : (2 : Nat) ^ 60 ≤ 2 ^ c := Nat.pow_le_pow_right (by omega) (by omega)
            have h6 : ((2 ^ 60 : Nat) : Int) ≤ ((2 ^ c : Nat) : Int) := Int.ofNat_le.mpr h5
            rw [Int.natCast_pow, Int.natCast_pow] at h6
            have h7 : (2 : Int) ^ 60 ≤ 2 ^ c := h6
            rw [show (2 : Int) ^ 60 = 1152921504606846976 from rfl] at h7
            have h8 : n * n ≤ 9999 * 9999 := Int.mul_le_mul h2 h2 (by omega) (by omega)
            omega)
        exact ⟨n, Int.le_refl _, by have := hq.1; rw [Int.one_mul] at this; exact this⟩
      · rw [if_neg m2, if_neg m2]
        unfold pw_th
        by_cases hn4 : n < 4
        · rw [if_pos hn4, if_pos hn4]
          exact ⟨n, Int.le_refl _, pw_bm_pe _ 1 _ _ hb1.symm (by omega) p0 (by rw [p1]; omega)⟩
        · rw [if_neg hn4, if_neg hn4]
          obtain ⟨a1, a2⟩ := pw_pe_put p0 (x := 2) (by rw [p1]; omega) (by omega)
          obtain ⟨b1, b2⟩ := pw_pe_put a1 (x := 3) (by omega) (by omega)
          have hpw := pw_hb_pow h1 h2
          have hv : 1 ≤ n / 2 ^ (2 * (pw_hb n / 2).toNat) ∧ n / 2 ^ (2 * (pw_hb n / 2).toNat) ≤ 3 := by
            by_cases he : pw_hb n % 2 = 0
            · rw [show 2 * (pw_hb n / 2).toNat = (pw_hb n).toNat by omega, hb1]
              omega
            · have hb2 := hb1
              rw [show (pw_hb n).toNat = 2 * (pw_hb n / 2).toNat + 1 by omega, pw_div2] at hb2
              omega
          have hb2 : 2 ≤ pw_hb n := by
            rcases pw_hb_cases h1 h2 with ⟨u, v, w⟩ | ⟨u, v, w⟩ | ⟨u, v, w⟩ | ⟨u, v, w⟩ | ⟨u, v, w⟩ | ⟨u, v, w⟩ | ⟨u, v, w⟩ | ⟨u, v, w⟩ | ⟨u, v, w⟩ | ⟨u, v, w⟩ | ⟨u, v, w⟩ | ⟨u, v, w⟩ | ⟨u, v, w⟩ | ⟨u, v, w⟩ <;> omega
          refine ⟨n, Int.le_refl _, pw_tm_pe _ _ _ _ 3 rfl hv.1 b1 (Or.inr ⟨rfl, hv.2, ?_, by omega⟩) (by omega)⟩
          rw [pw_set_ne (by omega), pw_set_same]
