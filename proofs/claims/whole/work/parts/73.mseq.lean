/-! ===== the model: dual, sequence, vector ===== -/
def pw_01 (s : Int → Int) : Prop := ∀ x, s x = 0 ∨ s x = 1
theorem pw_01_set {s : Int → Int} {x : Int} (h : pw_01 s) : pw_01 (pw_set s x 1) := fun y => by
  unfold pw_set
  split
  · exact Or.inr rfl
  · exact h y
theorem pw_q0_01 {t : Int → Int} : ∀ n : Nat, pw_01 (pw_q0 t n)
  | 0 => fun x => by
    simp only [pw_q0]
    split
    · exact Or.inr rfl
    · exact Or.inl rfl
  | n + 1 => pw_01_set (pw_q0_01 n)
theorem pw_rk_hi {s s' : Int → Int} {f : Nat} (h : ∀ x : Int, (f : Int) ≤ x → s' x = s x) : ∀ j : Nat, pw_rk s' (f + j) - pw_rk s' f = pw_rk s (f + j) - pw_rk s f
  | 0 => by simp
  | j + 1 => by
    have ih := pw_rk_hi h j
    have e1 : pw_rk s' (f + (j + 1)) = pw_rk s' (f + j) + (if s' ((f + j : Nat) : Int) = 1 then 1 else 0) := rfl
    have e2 : pw_rk s (f + (j + 1)) = pw_rk s (f + j) + (if s ((f + j : Nat) : Int) = 1 then 1 else 0) := rfl
    rw [e1, e2, h _ (by omega)]
    omega
theorem pw_rk_two {s : Int → Int} (h : pw_wok s) : pw_rk s 2 = 1 := by
  have h0 : s 0 ≠ 1 := fun q => by have := h.2 0 q; omega
  have e : pw_rk s 2 = 0 + (if s (0 : Int) = 1 then 1 else 0) + (if s (1 : Int) = 1 then 1 else 0) := rfl
  rw [e, if_neg h0, if_pos h.1]
  omega
theorem pw_pv_is {s : Int → Int} (h1 : s 1 = 1) {x : Nat} {g : Int} (hx : 1 ≤ x) (g0 : 1 ≤ g) (gx : g ≤ x) (hg : s g = 1) (hn : ∀ y : Int, g < y → y ≤ x → s y ≠ 1) : pw_pv s x = g := by
  obtain ⟨a1, a2, a3, a4⟩ := pw_pv_spec h1 x hx
  by_cases h : pw_pv s x = g
  · exact h
  · by_cases h2 : pw_pv s x < g
    · exact absurd hg (a4 g h2 gx)
    · exact absurd a3 (hn _ (by omega) a2)
theorem pw_sqP_ok {n : Int} {t : Int → Int} {q : pw_W} (hW : pw_wok q.1) (hgr : pw_wgr 1 q) (hle : pw_rk q.1 pw_T ≤ 61) (n0 : 1 ≤ n) (n4 : n ≤ 4) (ht : ∀ k, 0 ≤ k → k < n → q.1 (t k) = 1) : pw_ok (pw_sqP q n t) := by
  have hT := pw_T_is
  have hr1 : pw_rk q.1 2 = 1 := pw_rk_two hW
  have hle2 : pw_rk q.1 2 ≤ pw_rk q.1 pw_T := by
    have := pw_rk_le (s := q.1) (x := 2) (pw_T - 2)
    rw [show 2 + (pw_T - 2) = pw_T by omega] at this
    exact this
  -- each node is of a number
  have hnt : ∀ (f : Nat) (i : Int), 0 ≤ i → i < pw_rk q.1 f → ∃ x : Int, q.1 x = 1 ∧ 0 ≤ x ∧ x < f ∧ pw_rk q.1 x.toNat = i := by
    intro f
    induction f with
    | zero => intro i i0 i1; simp only [pw_rk] at i1; omega
    | succ f ih =>
      intro i i0 i1
      unfold pw_rk at i1
      by_cases hs : q.1 (f : Int) = 1
      · rw [if_pos hs] at i1
        by_cases hi : i = pw_rk q.1 f
        · exact ⟨f, hs, by omega, by omega, by rw [hi]; rfl⟩
        · obtain ⟨x, x1, x2, x3, x4⟩ := ih i i0 (by omega)
          exact ⟨x, x1, x2, by omega, x4⟩
      · rw [if_neg hs] at i1
        obtain ⟨x, x1, x2, x3, x4⟩ := ih i i0 (by omega)
        exact ⟨x, x1, x2, by omega, x4⟩
  have hmem : ∀ i, 0 ≤ i → i < pw_rk q.1 pw_T → q.1 (pw_nt q.1 i) = 1 ∧ pw_rk q.1 (pw_nt q.1 i).toNat = i := by
    intro i i0 i1
    obtain ⟨x, x1, x2, x3, x4⟩ := hnt pw_T i i0 i1
    have hb := hW.2 x x1
    rw [pw_nt_is x1 x2 (by omega) x4]
    exact ⟨x1, x4⟩
  have hd : pw_dim (pw_sqP q n t) := ⟨by show (0 : Int) ≤ 1; omega, by show (1 : Int) ≤ 4; omega, by show 0 ≤ pw_rk q.1 pw_T - 1; omega, by show pw_rk q.1 pw_T - 1 ≤ 60; omega, by show 0 ≤ n; omega, n4⟩
  have hrkT : ∀ x, q.1 x = 1 → 0 ≤ pw_rk q.1 x.toNat ∧ pw_rk q.1 x.toNat < pw_rk q.1 pw_T := fun x hx => by
    have hb := hW.2 x hx
    refine ⟨(pw_rk_in _ _).1, ?_⟩
    have := pw_rk_lt (s := q.1) (x := x) (y := (pw_T : Int)) hx (by omega) (by omega)
    rw [Int.toNat_natCast] at this
    exact this
  have hstep : ∀ i, 1 ≤ i → i < pw_rk q.1 pw_T → 1 ≤ q.2 (pw_nt q.1 i) ∧ q.2 (pw_nt q.1 i) < pw_nt q.1 i ∧ q.1 (q.2 (pw_nt q.1 i)) = 1 ∧ q.1 (pw_nt q.1 i - q.2 (pw_nt q.1 i)) = 1 ∧ q.1 (pw_nt q.1 i) = 1 ∧ pw_rk q.1 (pw_nt q.1 i).toNat = i := by
    intro i i0 i1
    obtain ⟨x1, x2⟩ := hmem i (by omega) i1
    have hb := hW.2 _ x1
    have hne : pw_nt q.1 i ≠ 1 := fun z => by
      rw [z] at x2
      have h0 : q.1 0 ≠ 1 := fun w => by have := hW.2 0 w; omega
      have e : pw_rk q.1 (1 : Int).toNat = 0 + (if q.1 (0 : Int) = 1 then 1 else 0) := rfl
      rw [e, if_neg h0] at x2
      omega
    obtain ⟨g1, g2, g3, g4, g5⟩ := hgr _ (by omega) x1
    exact ⟨g1, g2, g4, g5, x1, x2⟩
  have hl : pw_lnk (pw_sqP q n t) := by
    refine ⟨fun i i0 i1 => ?_, fun k k0 k1 => ?_⟩
    · have i0' : (1 : Int) ≤ i := i0
      have i1' : i < 1 + (pw_rk q.1 pw_T - 1) := i1
      obtain ⟨g1, g2, g4, g5, x1, x2⟩ := hstep i i0' (by omega)
      show 0 ≤ pw_rk q.1 (q.2 (pw_nt q.1 i)).toNat ∧ pw_rk q.1 (q.2 (pw_nt q.1 i)).toNat < i ∧ 0 ≤ pw_rk q.1 (pw_nt q.1 i - q.2 (pw_nt q.1 i)).toNat ∧ pw_rk q.1 (pw_nt q.1 i - q.2 (pw_nt q.1 i)).toNat < i
      have a := pw_rk_lt (y := pw_nt q.1 i) g4 (by omega) g2
      have b := pw_rk_lt (y := pw_nt q.1 i) g5 (by omega) (by omega)
      have c := (pw_rk_in q.1 (q.2 (pw_nt q.1 i)).toNat).1
      have e := (pw_rk_in q.1 (pw_nt q.1 i - q.2 (pw_nt q.1 i)).toNat).1
      omega
    · have := hrkT _ (ht k k0 k1)
      show 0 ≤ pw_rk q.1 (t k).toNat ∧ pw_rk q.1 (t k).toNat < 1 + (pw_rk q.1 pw_T - 1)
      omega
  have hex : ∀ (m : Nat) (x : Int), x.toNat < m → q.1 x = 1 → pw_ex (pw_sqP q n t) (pw_rk q.1 x.toNat) 0 = x := by
    intro m
    induction m with
    | zero => intro x h; omega
    | succ m ih =>
      intro x hm hx
      have hb := hW.2 x hx
      have hrk := hrkT x hx
      by_cases hx1 : x = 1
      · have h0 : q.1 0 ≠ 1 := fun w => by have := hW.2 0 w; omega
        have e : pw_rk q.1 x.toNat = 0 := by
          rw [hx1]
          have e : pw_rk q.1 (1 : Int).toNat = 0 + (if q.1 (0 : Int) = 1 then 1 else 0) := rfl
          rw [e, if_neg h0]; rfl
        rw [e, pw_ex_b (by show (0 : Int) < 1; omega), if_pos rfl, hx1]
      · have hrk1 : 1 ≤ pw_rk q.1 x.toNat := by
          have := pw_rk_lt (s := q.1) (x := 1) (y := x) hW.1 (by omega) (by omega)
          have := (pw_rk_in q.1 (1 : Int).toNat).1
          omega
        have hn := pw_nt_is (i := pw_rk q.1 x.toNat) hx (by omega) hb.2 rfl
        obtain ⟨g1, g2, g4, g5, y1, y2⟩ := hstep _ hrk1 hrk.2
        rw [pw_ex_s hl hrk1 (by omega) (by show _ < 1 + (pw_rk q.1 pw_T - 1); omega)]
        show pw_ex (pw_sqP q n t) (pw_rk q.1 (q.2 (pw_nt q.1 (pw_rk q.1 x.toNat))).toNat) 0 + pw_ex (pw_sqP q n t) (pw_rk q.1 (pw_nt q.1 (pw_rk q.1 x.toNat) - q.2 (pw_nt q.1 (pw_rk q.1 x.toNat))).toNat) 0 = x
        rw [hn] at g1 g2 g4 g5 ⊢
        rw [ih _ (by omega) g4, ih _ (by omega) g5]
        omega
  refine ⟨hd, hl, pw_big_of hl (by show (0 : Int) ≤ 1; omega) (fun i b i0 i1 bb0 b1 => ?_)⟩
  have b1' : b < 1 := b1
  have hb0 : b = 0 := by omega
  subst hb0
  have i1' : i < 1 + (pw_rk q.1 pw_T - 1) := i1
  obtain ⟨x1, x2⟩ := hmem i i0 (by omega)
  have := hex ((pw_nt q.1 i).toNat + 1) (pw_nt q.1 i) (by omega) x1
  rw [x2] at this
  have hb := hW.2 _ x1
  rw [this]
  omega
theorem pw_qE_W {n : Int} {t : Int → Int} (ht : pw_tkb t n.toNat = true) : pw_wok (pw_qE n t).1 ∧ pw_wgr 1 (pw_qE n t) := by
  have h0 := pw_q0_ok ht
  refine ⟨pw_sw_ok pw_N h0, pw_sw_gr pw_N (q := (pw_q0 t n.toNat, fun _ => 0)) h0 (fun x hx hs => ?_)⟩
  have h1 := h0.2 x hs
  have h2 := pw_N_is
  omega
theorem pw_sq_ok {n : Int} {t : Int → Int} {E : pw_P} (h : pw_sq n t = some E) : pw_ok E := by
  unfold pw_sq at h
  by_cases hc : 1 ≤ n ∧ n ≤ 4 ∧ pw_tkb t n.toNat = true
  · rw [if_pos hc] at h
    by_cases hle : pw_rk (pw_qE n t).1 pw_T ≤ 61
    · rw [if_pos hle] at h
      cases h
      have hW := pw_qE_W hc.2.2
      exact pw_sqP_ok hW.1 hW.2 hle hc.1 hc.2.1 (fun k k0 k1 => pw_sw_mono pw_N (pw_q0 t n.toNat, fun _ => 0) _ (pw_q0_in (n := n.toNat) k0 (by omega)))
    · rw [if_neg hle] at h; cases h
  · rw [if_neg hc] at h; cases h
theorem pw_asequence_ok {S : pw_S} {n : Int} {t : Int → Int} (hO : pw_SO S) : pw_SO (pw_asequence S n t).1 := by
  unfold pw_asequence
  cases h : pw_sq n t with
  | none => exact hO
  | some E => exact pw_adopt_ok hO (pw_sq_ok h)
theorem pw_avector_ok {S : pw_S} {n : Int} {t : Int → Int} (hO : pw_SO S) : pw_SO (pw_avector S n t).1 := by
  cases h : pw_sq n t with
  | none => rw [pw_avector_n h]; exact hO
  | some E =>
    cases h2 : pw_dual E with
    | none => rw [pw_avector_0 h h2]; exact hO
    | some D => rw [pw_avector_1 h h2]; exact pw_adopt_ok hO (pw_dual_ok (pw_sq_ok h) h2)
