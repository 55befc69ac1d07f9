/-! ===== programs that stay as they should ===== -/
theorem pw_ex_cg {P P' : pw_P} (hl : pw_lnk P) (e1 : P'.1 = P.1) (e4 : ∀ n, P.1 ≤ n → n < P.1 + P.2.1 → P'.2.2.2.1 n = P.2.2.2.1 n ∧ P'.2.2.2.2.1 n = P.2.2.2.2.1 n) : ∀ n c, 0 ≤ n → n < P.1 + P.2.1 → pw_ex P' n c = pw_ex P n c := by
  have key : ∀ (k : Nat) (n c : Int), 0 ≤ n → n < P.1 + P.2.1 → pw_exf P' k n c = pw_exf P k n c := by
    intro k
    induction k with
    | zero => intros; rfl
    | succ k ih =>
      intro n c n0 n1
      simp only [pw_exf]
      rw [e1]
      by_cases hb : n < P.1
      · rw [if_pos hb, if_pos hb]
      · obtain ⟨l0, l1, r0, r1⟩ := hl.1 n (by omega) n1
        rw [if_neg hb, if_neg hb, (e4 n (by omega) n1).1, (e4 n (by omega) n1).2, ih _ c l0 (by omega), ih _ c r0 (by omega)]
  exact fun n c n0 n1 => key _ n c n0 n1
theorem pw_app_lnk {P : pw_P} {l r : Int} (hl : pw_lnk P) (h1 : pw_has P l) (h2 : pw_has P r) : pw_lnk (pw_app P l r) := by
  refine ⟨fun n n0 n1 => ?_, fun k k0 k1 => ?_⟩
  · have n0' : P.1 ≤ n := n0
    have n1' : n < P.1 + (P.2.1 + 1) := n1
    show 0 ≤ (if n = P.1 + P.2.1 then l else P.2.2.2.1 n) ∧ (if n = P.1 + P.2.1 then l else P.2.2.2.1 n) < n ∧ 0 ≤ (if n = P.1 + P.2.1 then r else P.2.2.2.2.1 n) ∧ (if n = P.1 + P.2.1 then r else P.2.2.2.2.1 n) < n
    by_cases hn : n = P.1 + P.2.1
    · rw [if_pos hn, if_pos hn]
      exact ⟨h1.1, by rw [hn]; exact h1.2, h2.1, by rw [hn]; exact h2.2⟩
    · rw [if_neg hn, if_neg hn]
      exact hl.1 n n0' (by omega)
  · have := hl.2 k k0 k1
    refine ⟨this.1, ?_⟩
    show P.2.2.2.2.2 k < P.1 + (P.2.1 + 1)
    omega
theorem pw_app_ex {P : pw_P} {l r : Int} (hl : pw_lnk P) {n c : Int} (n0 : 0 ≤ n) (n1 : n < P.1 + P.2.1) : pw_ex (pw_app P l r) n c = pw_ex P n c := by
  refine pw_ex_cg (P' := pw_app P l r) hl rfl (fun m m0 m1 => ?_) n c n0 n1
  show (if m = P.1 + P.2.1 then l else P.2.2.2.1 m) = _ ∧ (if m = P.1 + P.2.1 then r else P.2.2.2.2.1 m) = _
  rw [if_neg (by omega), if_neg (by omega)]
  exact ⟨rfl, rfl⟩
theorem pw_app_exl {P : pw_P} {l r : Int} (hd : pw_dim P) (hl : pw_lnk P) (h1 : pw_has P l) (h2 : pw_has P r) {c : Int} : pw_ex (pw_app P l r) (P.1 + P.2.1) c = pw_ex P l c + pw_ex P r c := by
  obtain ⟨b0, b1, s0, s1, w0, w1⟩ := hd
  have e := pw_ex_s (P := pw_app P l r) (n := P.1 + P.2.1) (c := c) (pw_app_lnk hl h1 h2) (by show P.1 ≤ _; omega) (by omega) (by show _ < P.1 + (P.2.1 + 1); omega)
  rw [e]
  show pw_ex (pw_app P l r) (if P.1 + P.2.1 = P.1 + P.2.1 then l else _) c + pw_ex (pw_app P l r) (if P.1 + P.2.1 = P.1 + P.2.1 then r else _) c = _
  rw [if_pos rfl, if_pos rfl, pw_app_ex hl h1.1 h1.2, pw_app_ex hl h2.1 h2.2]
theorem pw_app_big {P : pw_P} {l r : Int} (ho : pw_ok P) (h1 : pw_has P l) (h2 : pw_has P r) : pw_big (pw_app P l r) ↔ ∀ c, 0 ≤ c → c < 4 → pw_ex P l c + pw_ex P r c ≤ 1000000000000000 := by
  obtain ⟨hd, hl, hb⟩ := ho
  constructor
  · intro h c c0 c1
    have := (h (P.1 + P.2.1) c (by have := hd.1; have := hd.2.2.1; omega) (by show _ < P.1 + (P.2.1 + 1); omega) c0 c1).2
    rw [pw_app_exl hd hl h1 h2] at this
    exact this
  · intro h n c n0 n1 c0 c1
    have n1' : n < P.1 + (P.2.1 + 1) := n1
    by_cases hn : n = P.1 + P.2.1
    · rw [hn, pw_app_exl hd hl h1 h2]
      have := hb l c h1.1 h1.2 c0 c1
      have := hb r c h2.1 h2.2 c0 c1
      have := h c c0 c1
      omega
    · rw [pw_app_ex hl n0 (by omega)]
      exact hb n c n0 (by omega) c0 c1
theorem pw_fitb_all {P : pw_P} {l r : Int} : pw_fitb P l r = true ↔ ∀ c, 0 ≤ c → c < 4 → pw_ex P l c + pw_ex P r c ≤ 1000000000000000 := by
  unfold pw_fitb
  simp only [Bool.and_eq_true, decide_eq_true_eq]
  constructor
  · intro ⟨⟨⟨h0, h1⟩, h2⟩, h3⟩ c hc0 hc4
    rcases (show c = 0 ∨ c = 1 ∨ c = 2 ∨ c = 3 by omega) with rfl | rfl | rfl | rfl <;> assumption
  · intro h
    exact ⟨⟨⟨h 0 (by omega) (by omega), h 1 (by omega) (by omega)⟩, h 2 (by omega) (by omega)⟩, h 3 (by omega) (by omega)⟩
theorem pw_app_ok {P : pw_P} {l r : Int} (ho : pw_ok P) (h1 : pw_has P l) (h2 : pw_has P r) (hs : P.2.1 < 60) (hf : pw_fitb P l r = true) : pw_ok (pw_app P l r) := by
  obtain ⟨b0, b1, s0, s1, w0, w1⟩ := id ho.1
  exact ⟨⟨b0, b1, by show 0 ≤ P.2.1 + 1; omega, by show P.2.1 + 1 ≤ 60; omega, w0, w1⟩, pw_app_lnk ho.2.1 h1 h2, (pw_app_big ho h1 h2).mpr (pw_fitb_all.mp hf)⟩
theorem pw_aadd_ok {S : pw_S} {l r : Int} (hO : pw_SO S) : pw_SO (pw_aadd S l r).1 := by
  unfold pw_aadd
  split
  · rename_i h
    split
    · rename_i hf
      exact pw_adopt_ok hO (pw_app_ok hO.1 h.1 h.2.1 h.2.2 hf)
    · exact hO
  · exact hO
theorem pw_wnt_ok {P : pw_P} {k n : Int} (ho : pw_ok P) (k0 : 0 ≤ k) (k1 : k ≤ P.2.2.1) (k4 : k < 4) (hn : pw_has P n) : pw_ok (pw_wnt P k n) := by
  obtain ⟨hd, hl, hb⟩ := ho
  obtain ⟨b0, b1, s0, s1, w0, w1⟩ := id hd
  have hm : (pw_wnt P k n).2.2.1 = pw_max P.2.2.1 (k + 1) := rfl
  have hmx : P.2.2.1 ≤ pw_max P.2.2.1 (k + 1) ∧ k + 1 ≤ pw_max P.2.2.1 (k + 1) ∧ pw_max P.2.2.1 (k + 1) ≤ 4 ∧ (pw_max P.2.2.1 (k + 1) = P.2.2.1 ∨ pw_max P.2.2.1 (k + 1) = k + 1) := by
    unfold pw_max
    split <;> omega
  have hl' : pw_lnk (pw_wnt P k n) := by
    refine ⟨hl.1, fun j j0 j1 => ?_⟩
    rw [hm] at j1
    show 0 ≤ pw_set P.2.2.2.2.2 k n j ∧ pw_set P.2.2.2.2.2 k n j < P.1 + P.2.1
    by_cases hj : j = k
    · rw [hj, pw_set_same]; exact hn
    · rw [pw_set_ne hj]; exact hl.2 j j0 (by omega)
  refine ⟨⟨b0, b1, s0, s1, by rw [hm]; omega, by rw [hm]; omega⟩, hl', fun m c m0 m1 c0 c1 => ?_⟩
  rw [pw_ex_cg (P := P) (P' := pw_wnt P k n) hl rfl (fun _ _ _ => ⟨rfl, rfl⟩) m c m0 m1]
  exact hb m c m0 m1 c0 c1
theorem pw_awant_ok {S : pw_S} {k n : Int} (hO : pw_SO S) : pw_SO (pw_awant S k n).1 := by
  unfold pw_awant
  split
  · rename_i h
    exact pw_adopt_ok hO (pw_wnt_ok hO.1 h.1 h.2.1 h.2.2.1 h.2.2.2)
  · exact hO
theorem pw_asave_ok {S : pw_S} {i : Int} (hO : pw_SO S) : pw_SO (pw_asave S i).1 := by
  unfold pw_asave
  split
  · obtain ⟨h1, h2, h3, h4, h5, h6⟩ := hO
    refine ⟨h1, h2, h3, h4, fun j j0 j1 => ?_, h6⟩
    show (pw_set S.sf i 1 j = 0 ∨ pw_set S.sf i 1 j = 1) ∧ (pw_set S.sf i 1 j = 1 → pw_ok (if j = i then S.P else S.sp j))
    by_cases hj : j = i
    · rw [hj, pw_set_same, if_pos rfl]
      exact ⟨Or.inr rfl, fun _ => h1⟩
    · rw [pw_set_ne hj, if_neg hj]
      exact h5 j j0 j1
  · exact hO
theorem pw_aload_ok {S : pw_S} {i : Int} (hO : pw_SO S) : pw_SO (pw_aload S i).1 := by
  unfold pw_aload
  split
  · rename_i h
    exact pw_adopt_ok hO ((hO.2.2.2.2.1 i h.1 h.2.1).2 h.2.2)
  · exact hO
theorem pw_aundo_ok {S : pw_S} (hO : pw_SO S) : pw_SO (pw_aundo S).1 := by
  unfold pw_aundo
  split
  · exact hO
  · rename_i h
    obtain ⟨h1, h2, h3, h4, h5⟩ := hO
    refine ⟨h4 _ (by omega) (by omega), by show 0 ≤ S.k - 1; omega, by show S.k - 1 ≤ 12; omega, fun j j0 j1 => ?_, h5⟩
    have j1' : j < S.k - 1 := j1
    exact h4 j j0 (by omega)
theorem pw_afeed_ok {S : pw_S} {a b c d e : Int} (hO : pw_SO S) : pw_SO (pw_afeed S a b c d e).1 := by
  unfold pw_afeed
  split
  · exact hO
  · obtain ⟨h1, h2, h3, h4, h5, h6, h7, h8⟩ := hO
    exact ⟨h1, h2, h3, h4, h5, by show 0 ≤ S.tl + 20; omega, by show S.tl + 20 ≤ 500; omega, h8⟩
