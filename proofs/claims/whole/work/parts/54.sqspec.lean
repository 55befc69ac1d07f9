/-! ===== sequences: sets of marks gone through from above ===== -/
/-- 9998 and 10000, kept from being counted down -/
noncomputable def pw_N : Nat := Classical.choose (p := fun n : Nat => n = 9998) ⟨9998, rfl⟩
theorem pw_N_is : pw_N = 9998 := Classical.choose_spec (p := fun n : Nat => n = 9998) ⟨9998, rfl⟩
noncomputable def pw_T : Nat := Classical.choose (p := fun n : Nat => n = 10000) ⟨10000, rfl⟩
theorem pw_T_is : pw_T = 10000 := Classical.choose_spec (p := fun n : Nat => n = 10000) ⟨10000, rfl⟩
abbrev pw_W : Type := (Int → Int) × (Int → Int)
/-- the greatest number that is in the set, x at most -/
def pw_pv (s : Int → Int) : Nat → Int
  | 0 => 0
  | x + 1 => if s ((x + 1 : Nat) : Int) = 1 then ((x + 1 : Nat) : Int) else pw_pv s x
def pw_gp (f g : Int) : Int := if f ≤ 2 * g then g else if f % 2 = 0 then f / 2 else f - 1
def pw_w1 (f : Nat) (q : pw_W) : pw_W := if q.1 (f : Int) = 1 then (pw_set (pw_set q.1 (pw_gp f (pw_pv q.1 (f - 1))) 1) ((f : Int) - pw_gp f (pw_pv q.1 (f - 1))) 1, pw_set q.2 f (pw_gp f (pw_pv q.1 (f - 1)))) else q
/-- from k + 1 down to 2 -/
def pw_sw : Nat → pw_W → pw_W
  | 0, q => q
  | k + 1, q => pw_sw k (pw_w1 (k + 2) q)
/-- how many of the set are below x -/
def pw_rk (s : Int → Int) : Nat → Int
  | 0 => 0
  | x + 1 => pw_rk s x + (if s (x : Int) = 1 then 1 else 0)
def pw_wok (s : Int → Int) : Prop := s 1 = 1 ∧ ∀ x, s x = 1 → 1 ≤ x ∧ x ≤ 9999
theorem pw_pv_spec {s : Int → Int} (h1 : s 1 = 1) : ∀ x : Nat, 1 ≤ x → 1 ≤ pw_pv s x ∧ pw_pv s x ≤ x ∧ s (pw_pv s x) = 1 ∧ ∀ y : Int, pw_pv s x < y → y ≤ x → s y ≠ 1
  | 0, h => by omega
  | x + 1, h => by
    unfold pw_pv
    by_cases hs : s ((x + 1 : Nat) : Int) = 1
    · rw [if_pos hs]
      exact ⟨by omega, by omega, hs, fun y h2 h3 => by omega⟩
    · rw [if_neg hs]
      cases x with
      | zero => exact absurd h1 hs
      | succ x =>
        obtain ⟨a1, a2, a3, a4⟩ := pw_pv_spec h1 (x + 1) (by omega)
        refine ⟨a1, by omega, a3, fun y h2 h3 => ?_⟩
        by_cases hy : y = ((x + 1 + 1 : Nat) : Int)
        · rw [hy]; exact hs
        · exact a4 y h2 (by omega)
theorem pw_gp_in {f g : Int} (h0 : 1 ≤ g) (h1 : g < f) : 1 ≤ pw_gp f g ∧ pw_gp f g < f ∧ f - pw_gp f g ≤ pw_gp f g := by
  unfold pw_gp
  split
  · omega
  · split <;> omega
theorem pw_w1_mono {f : Nat} {q : pw_W} {x : Int} (h : q.1 x = 1) : (pw_w1 f q).1 x = 1 := by
  unfold pw_w1
  split
  · simp only [pw_set]
    split
    · rfl
    · split
      · rfl
      · exact h
  · exact h
theorem pw_sw_mono : ∀ (k : Nat) (q : pw_W) (x : Int), q.1 x = 1 → (pw_sw k q).1 x = 1
  | 0, _, _, h => h
  | k + 1, q, x, h => pw_sw_mono k _ x (pw_w1_mono h)
theorem pw_w1_hi {f : Nat} {q : pw_W} (hw : pw_wok q.1) (hf : 2 ≤ f) {x : Int} (hx : f ≤ x) : (pw_w1 f q).1 x = q.1 x := by
  unfold pw_w1
  split
  · obtain ⟨a1, a2, a3, a4⟩ := pw_pv_spec hw.1 (f - 1) (by omega)
    have := pw_gp_in (f := f) a1 (by omega)
    simp only
    rw [pw_set_ne (by omega), pw_set_ne (by omega)]
  · rfl
theorem pw_w1_ok {f : Nat} {q : pw_W} (hw : pw_wok q.1) (hf : 2 ≤ f) : pw_wok (pw_w1 f q).1 := by
  refine ⟨pw_w1_mono hw.1, fun x hx => ?_⟩
  unfold pw_w1 at hx
  split at hx
  · rename_i hs
    have := hw.2 _ hs
    obtain ⟨a1, a2, a3, a4⟩ := pw_pv_spec hw.1 (f - 1) (by omega)
    have := pw_gp_in (f := f) a1 (by omega)
    simp only [pw_set] at hx
    split at hx
    · omega
    · split at hx
      · omega
      · exact hw.2 x hx
  · exact hw.2 x hx
theorem pw_sw_ok : ∀ (k : Nat) {q : pw_W}, pw_wok q.1 → pw_wok (pw_sw k q).1
  | 0, _, h => h
  | k + 1, _, h => pw_sw_ok k (pw_w1_ok h (by omega))
/-- what the numbers done are of -/
def pw_wgr (k : Int) (q : pw_W) : Prop := ∀ x, k < x → q.1 x = 1 → 1 ≤ q.2 x ∧ q.2 x < x ∧ x - q.2 x ≤ q.2 x ∧ q.1 (q.2 x) = 1 ∧ q.1 (x - q.2 x) = 1
theorem pw_w1_gr {f : Nat} {q : pw_W} (hw : pw_wok q.1) (hf : 2 ≤ f) (h : pw_wgr f q) : pw_wgr ((f : Int) - 1) (pw_w1 f q) := by
  intro x hx hs
  by_cases hxf : x = f
  · subst hxf
    rw [pw_w1_hi hw hf (Int.le_refl _)] at hs
    obtain ⟨a1, a2, a3, a4⟩ := pw_pv_spec hw.1 (f - 1) (by omega)
    have := pw_gp_in (f := f) a1 (by omega)
    unfold pw_w1
    rw [if_pos hs]
    simp only
    rw [pw_set_same]
    refine ⟨by omega, by omega, by omega, ?_, pw_set_same⟩
    simp only [pw_set]
    split
    · rfl
    · exact if_pos trivial
  · rw [pw_w1_hi hw hf (by omega)] at hs
    obtain ⟨b1, b2, b3, b4, b5⟩ := h x (by omega) hs
    have e : (pw_w1 f q).2 x = q.2 x := by
      unfold pw_w1
      split
      · exact pw_set_ne hxf
      · rfl
    rw [e]
    exact ⟨b1, b2, b3, pw_w1_mono b4, pw_w1_mono b5⟩
theorem pw_sw_gr : ∀ (k : Nat) {q : pw_W}, pw_wok q.1 → pw_wgr ((k : Int) + 1) q → pw_wgr 1 (pw_sw k q)
  | 0, _, _, h => h
  | k + 1, q, hw, h => by
    refine pw_sw_gr k (pw_w1_ok hw (by omega)) ?_
    have := pw_w1_gr (f := k + 2) hw (by omega) (by
      intro x hx
      exact h x (by omega))
    intro x hx
    exact this x (by omega)
theorem pw_sw_skip {q : pw_W} : ∀ (j : Nat) (k : Nat), (∀ x : Int, (k : Int) + 1 < x → x ≤ (k : Int) + j + 1 → q.1 x ≠ 1) → pw_sw (k + j) q = pw_sw k q
  | 0, _, _ => rfl
  | j + 1, k, h => by
    show pw_sw (k + j) (pw_w1 (k + j + 2) q) = _
    have e : pw_w1 (k + j + 2) q = q := by
      unfold pw_w1
      rw [if_neg (h _ (by omega) (by omega))]
    rw [e]
    exact pw_sw_skip j k (fun x h1 h2 => h x h1 (by omega))
/-! ranks -/
theorem pw_rk_in (s : Int → Int) : ∀ x : Nat, 0 ≤ pw_rk s x ∧ pw_rk s x ≤ x
  | 0 => by simp [pw_rk]
  | x + 1 => by
    have := pw_rk_in s x
    unfold pw_rk
    split <;> omega
theorem pw_rk_le {s : Int → Int} {x : Nat} : ∀ j : Nat, pw_rk s x ≤ pw_rk s (x + j)
  | 0 => Int.le_refl _
  | j + 1 => by
    have := pw_rk_le (s := s) (x := x) j
    have e : pw_rk s (x + (j + 1)) = pw_rk s (x + j) + (if s ((x + j : Nat) : Int) = 1 then 1 else 0) := rfl
    rw [e]
    split <;> omega
theorem pw_rk_lt {s : Int → Int} {x y : Int} (h : s x = 1) (hx : 0 ≤ x) (hy : x < y) : pw_rk s x.toNat < pw_rk s y.toNat := by
  have e : pw_rk s (x.toNat + 1) = pw_rk s x.toNat + (if s ((x.toNat : Nat) : Int) = 1 then 1 else 0) := rfl
  rw [if_pos (by rw [Int.toNat_of_nonneg hx]; exact h)] at e
  have := pw_rk_le (s := s) (x := x.toNat + 1) (y.toNat - (x.toNat + 1))
  rw [show x.toNat + 1 + (y.toNat - (x.toNat + 1)) = y.toNat by omega] at this
  omega
theorem pw_rk_mono {s s' : Int → Int} (h : ∀ x, s x = 1 → s' x = 1) : ∀ x : Nat, pw_rk s x ≤ pw_rk s' x
  | 0 => Int.le_refl _
  | x + 1 => by
    have := pw_rk_mono h x
    unfold pw_rk
    by_cases hs : s (x : Int) = 1
    · rw [if_pos hs, if_pos (h _ hs)]; omega
    · rw [if_neg hs]
      split <;> omega
theorem pw_rk_cg {s s' : Int → Int} : ∀ x : Nat, (∀ y : Int, 0 ≤ y → y < x → (s y = 1 ↔ s' y = 1)) → pw_rk s x = pw_rk s' x
  | 0, _ => rfl
  | x + 1, h => by
    unfold pw_rk
    rw [pw_rk_cg x (fun y h1 h2 => h y h1 (by omega))]
    by_cases hs : s (x : Int) = 1
    · rw [if_pos hs, if_pos ((h x (by omega) (by omega)).mp hs)]
    · rw [if_neg hs, if_neg (fun q => hs ((h x (by omega) (by omega)).mpr q))]
/-- the i-th of the set, below x -/
def pw_ntf (s : Int → Int) (i : Int) : Nat → Int
  | 0 => 0
  | x + 1 => if s (x : Int) = 1 ∧ pw_rk s x = i then (x : Int) else pw_ntf s i x
noncomputable def pw_nt (s : Int → Int) (i : Int) : Int := pw_ntf s i pw_T
theorem pw_ntf_is {s : Int → Int} {i x : Int} (hs : s x = 1) (hx : 0 ≤ x) (hr : pw_rk s x.toNat = i) : ∀ f : Nat, x < f → pw_ntf s i f = x
  | 0, h => by omega
  | f + 1, h => by
    unfold pw_ntf
    by_cases hf : x = f
    · rw [if_pos ⟨by rw [← hf]; exact hs, by rw [← hr, hf]; rfl⟩, hf]
    · have := pw_rk_lt (y := f) hs hx (by omega)
      rw [if_neg (fun q => by have := q.2; simp only [Int.toNat_natCast] at *; omega)]
      exact pw_ntf_is hs hx hr f (by omega)
theorem pw_nt_is {s : Int → Int} {i x : Int} (hs : s x = 1) (hx : 0 ≤ x) (hx1 : x ≤ 9999) (hr : pw_rk s x.toNat = i) : pw_nt s i = x := pw_ntf_is hs hx hr pw_T (by rw [pw_T_is]; omega)
/-- a row that has the set, rising: m numbers -/
def pw_en (m : Int) (r : Int → Int) (s : Int → Int) : Prop := 1 ≤ m ∧ r 0 = 1 ∧ (∀ i j, 0 ≤ i → i < j → j < m → r i < r j) ∧ (∀ x, s x = 1 ↔ ∃ i, 0 ≤ i ∧ i < m ∧ r i = x)
theorem pw_en_rk {m : Int} {r s : Int → Int} (h : pw_en m r s) : ∀ (x : Nat) (p : Int), 0 ≤ p → p ≤ m → (∀ i, 0 ≤ i → i < p → r i < x) → (∀ i, p ≤ i → i < m → (x : Int) ≤ r i) → pw_rk s x = p
  | 0, p, p0, pm, h1, h2 => by
    by_cases hp : p = 0
    · rw [hp]; rfl
    · have := h1 0 (by omega) (by omega)
      rw [h.2.1] at this
      omega
  | x + 1, p, p0, pm, h1, h2 => by
    unfold pw_rk
    by_cases hs : s (x : Int) = 1
    · rw [if_pos hs]
      obtain ⟨i, i0, im, ei⟩ := (h.2.2.2 _).mp hs
      have hip : i < p := by
        by_cases hq : i < p
        · exact hq
        · have := h2 i (by omega) im
          omega
      have hpi : p = i + 1 := by
        by_cases hq : p = i + 1
        · exact hq
        · have g1 := h1 (i + 1) (by omega) (by omega)
          have g2 := h.2.2.1 i (i + 1) i0 (by omega) (by omega)
          omega
      rw [pw_en_rk h x (p - 1) (by omega) (by omega) (fun j j0 jp => ?_) (fun j j0 jm => ?_)]
      · omega
      · have := h.2.2.1 j i j0 (by omega) im
        omega
      · by_cases hq : j = i
        · rw [hq]; omega
        · have := h.2.2.1 i j i0 (by omega) jm
          omega
    · rw [if_neg hs, Int.add_zero]
      refine pw_en_rk h x p p0 pm (fun j j0 jp => ?_) (fun j j0 jm => ?_)
      · have g1 := h1 j j0 jp
        have g2 : r j ≠ x := fun q => hs ((h.2.2.2 _).mpr ⟨j, j0, by omega, q⟩)
        omega
      · have := h2 j j0 jm
        omega
theorem pw_en_at {m : Int} {r s : Int → Int} (h : pw_en m r s) {i : Int} (i0 : 0 ≤ i) (im : i < m) (hr : 0 ≤ r i) : pw_rk s (r i).toNat = i := by
  refine pw_en_rk h _ i i0 (by omega) (fun j j0 ji => ?_) (fun j j0 jm => ?_)
  · have := h.2.2.1 j i j0 ji im
    omega
  · by_cases hq : j = i
    · rw [hq]; omega
    · have := h.2.2.1 i j i0 (by omega) jm
      omega
/-- a row with a number put in at p -/
def pw_ins (r : Int → Int) (p x : Int) : Int → Int := fun i => if i < p then r i else if i = p then x else r (i - 1)
theorem pw_en_ins {m : Int} {r s : Int → Int} (h : pw_en m r s) {p x : Int} (p0 : 1 ≤ p) (pm : p ≤ m) (h1 : ∀ i, 0 ≤ i → i < p → r i < x) (h2 : ∀ i, p ≤ i → i < m → x < r i) : pw_en (m + 1) (pw_ins r p x) (pw_set s x 1) := by
  refine ⟨by omega, ?_, fun i j i0 ij jm => ?_, fun y => ⟨fun hy => ?_, fun ⟨i, i0, im, ei⟩ => ?_⟩⟩
  · unfold pw_ins
    rw [if_pos (by omega)]; exact h.2.1
  · unfold pw_ins
    by_cases a1 : i < p
    · rw [if_pos a1]
      by_cases a2 : j < p
      · rw [if_pos a2]; exact h.2.2.1 i j i0 ij (by omega)
      · rw [if_neg a2]
        by_cases a3 : j = p
        · rw [if_pos a3]; exact h1 i i0 a1
        · rw [if_neg a3]; exact h.2.2.1 i (j - 1) i0 (by omega) (by omega)
    · rw [if_neg a1, if_neg (show ¬ j < p by omega), if_neg (show ¬ j = p by omega)]
      by_cases a3 : i = p
      · rw [if_pos a3]; exact h2 _ (by omega) (by omega)
      · rw [if_neg a3]; exact h.2.2.1 _ _ (by omega) (by omega) (by omega)
  · by_cases hx : y = x
    · refine ⟨p, by omega, by omega, ?_⟩
      unfold pw_ins
      rw [if_neg (by omega), if_pos rfl, hx]
    · rw [pw_set_ne hx] at hy
      obtain ⟨i, i0, im, ei⟩ := (h.2.2.2 y).mp hy
      by_cases hi : i < p
      · exact ⟨i, i0, by omega, by unfold pw_ins; rw [if_pos hi]; exact ei⟩
      · exact ⟨i + 1, by omega, by omega, by unfold pw_ins; rw [if_neg (by omega), if_neg (by omega), show i + 1 - 1 = i by omega]; exact ei⟩
  · unfold pw_ins at ei
    by_cases hx : y = x
    · rw [hx]; exact pw_set_same
    · rw [pw_set_ne hx]
      by_cases hi : i < p
      · rw [if_pos hi] at ei
        exact (h.2.2.2 y).mpr ⟨i, i0, by omega, ei⟩
      · rw [if_neg hi] at ei
        by_cases hi2 : i = p
        · rw [if_pos hi2] at ei; omega
        · rw [if_neg hi2] at ei
          exact (h.2.2.2 y).mpr ⟨i - 1, by omega, by omega, ei⟩
theorem pw_en_same {m : Int} {r s : Int → Int} (h : pw_en m r s) {x : Int} (hx : s x = 1) : pw_set s x 1 = s := by
  funext y
  by_cases hy : y = x
  · rw [hy, pw_set_same, hx]
  · exact pw_set_ne hy
/-! the program of a sequence -/
def pw_q0 (t : Int → Int) : Nat → Int → Int
  | 0 => fun x => if x = 1 then 1 else 0
  | k + 1 => pw_set (pw_q0 t k) (t k) 1
def pw_tkb (t : Int → Int) : Nat → Bool
  | 0 => true
  | k + 1 => pw_tkb t k && decide (1 ≤ t k ∧ t k ≤ 9999)
theorem pw_tkb_iff {t : Int → Int} : ∀ {n : Nat}, pw_tkb t n = true ↔ ∀ k : Int, 0 ≤ k → k < n → 1 ≤ t k ∧ t k ≤ 9999
  | 0 => by
    refine ⟨fun _ k h1 h2 => ?_, fun _ => rfl⟩
    omega
  | n + 1 => by
    simp only [pw_tkb, Bool.and_eq_true, decide_eq_true_eq]
    rw [pw_tkb_iff (n := n)]
    constructor
    · intro ⟨h1, h2⟩ c c0 c1
      by_cases hc : c = n
      · rw [hc]; exact h2
      · exact h1 c c0 (by omega)
    · intro h
      exact ⟨fun c c0 c1 => h c c0 (by omega), h n (by omega) (by omega)⟩
noncomputable def pw_qE (n : Int) (t : Int → Int) : pw_W := pw_sw pw_N (pw_q0 t n.toNat, fun _ => 0)
noncomputable def pw_sqP (q : pw_W) (n : Int) (t : Int → Int) : pw_P := (1, pw_rk q.1 pw_T - 1, n, fun i => pw_rk q.1 (q.2 (pw_nt q.1 i)).toNat, fun i => pw_rk q.1 (pw_nt q.1 i - q.2 (pw_nt q.1 i)).toNat, fun k => pw_rk q.1 (t k).toNat)
noncomputable def pw_sq (n : Int) (t : Int → Int) : Option pw_P := if 1 ≤ n ∧ n ≤ 4 ∧ pw_tkb t n.toNat = true then (if pw_rk (pw_qE n t).1 pw_T ≤ 61 then some (pw_sqP (pw_qE n t) n t) else none) else none
theorem pw_q0_ok {t : Int → Int} : ∀ {n : Nat}, pw_tkb t n = true → pw_wok (pw_q0 t n)
  | 0, _ => by
    refine ⟨by simp [pw_q0], fun x hx => ?_⟩
    simp only [pw_q0] at hx
    split at hx <;> omega
  | n + 1, h => by
    have ht := pw_tkb_iff.mp h n (by omega) (by omega)
    have ih := pw_q0_ok (t := t) (n := n) (pw_tkb_iff.mpr (fun k k0 k1 => pw_tkb_iff.mp h k k0 (by omega)))
    refine ⟨?_, fun x hx => ?_⟩
    · simp only [pw_q0, pw_set]
      split
      · rfl
      · exact ih.1
    · simp only [pw_q0, pw_set] at hx
      split at hx
      · omega
      · exact ih.2 x hx
theorem pw_q0_in {t : Int → Int} : ∀ {n : Nat} {k : Int}, 0 ≤ k → k < n → pw_q0 t n (t k) = 1
  | 0, k, h0, h1 => by omega
  | n + 1, k, h0, h1 => by
    simp only [pw_q0, pw_set]
    split
    · rfl
    · rename_i hne
      refine pw_q0_in h0 ?_
      by_cases hk : k = n
      · exact absurd (by rw [hk]) hne
      · omega
