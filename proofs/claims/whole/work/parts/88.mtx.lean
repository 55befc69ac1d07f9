/-! ===== texts in the model: words in base 32, tokens ===== -/
def tw_d (x : Int) : Int := if x = 0 then 0 else x - 96
def tw_e (x : Int) : Int := if x = 0 then 0 else x + 96
def tw_f (w : Int) : Int := tw_d (w / 16777216 % 256) * 32768 + tw_d (w / 65536 % 256) * 1024 + tw_d (w / 256 % 256) * 32 + tw_d (w % 256)
def tw_g (w : Int) : Int := tw_e (w / 32768 % 32) * 16777216 + tw_e (w / 1024 % 32) * 65536 + tw_e (w / 32 % 32) * 256 + tw_e (w % 32)
def tw (w w' : Int) : Prop := (w = -1 ∧ w' = -1) ∨ (0 < w ∧ 0 < w' ∧ w' = tw_f w ∧ w = tw_g w')
theorem tw_d0 : tw_d 0 = 0 := rfl
theorem tw_e0 : tw_e 0 = 0 := rfl
theorem tw_d1 {x : Int} (h : x ≠ 0) : tw_d x = x - 96 := by unfold tw_d; rw [if_neg h]
theorem tw_e1 {x : Int} (h : x ≠ 0) : tw_e x = x + 96 := by unfold tw_e; rw [if_neg h]
theorem tw_fd {w x y z t : Int} (h1 : w / 16777216 % 256 = x) (h2 : w / 65536 % 256 = y) (h3 : w / 256 % 256 = z) (h4 : w % 256 = t) : tw_f w = tw_d x * 32768 + tw_d y * 1024 + tw_d z * 32 + tw_d t := by unfold tw_f; rw [h1, h2, h3, h4]
theorem tw_gd {w x y z t : Int} (h1 : w / 32768 % 32 = x) (h2 : w / 1024 % 32 = y) (h3 : w / 32 % 32 = z) (h4 : w % 32 = t) : tw_g w = tw_e x * 16777216 + tw_e y * 65536 + tw_e z * 256 + tw_e t := by unfold tw_g; rw [h1, h2, h3, h4]
theorem tw_iff {w w' u u' : Int} (h : tw w w') (h' : tw u u') : w = u ↔ w' = u' := by
  rcases h with ⟨a, b⟩ | ⟨a, b, c, e⟩
  · rcases h' with ⟨a', b'⟩ | ⟨a', b', c', e'⟩ <;> omega
  · rcases h' with ⟨a', b'⟩ | ⟨a', b', c', e'⟩
    · omega
    · exact ⟨fun q => by rw [c, c', q], fun q => by rw [e, e', q]⟩
def tkm (b : Int → Int) (z r q : Int) : Nat → Int
  | 0 => 0
  | k + 1 => r * tkm b z r q k + b (q + k) - z
theorem tkm_cw {b : Int → Int} {z r q : Int} {k : Nat} (h : tk_cw b z r q k = tkm b z r q k) (h0 : 0 ≤ tkm b z r q k) (h1 : tkm b z r q k * r < 2147483648) (hr : 0 ≤ r) (hb : 0 ≤ b (q + k) - z) (hs : tkm b z r q k * r + (b (q + k) - z) < 2147483648) : tk_cw b z r q (k + 1) = tkm b z r q (k + 1) := by
  have hm : 0 ≤ tkm b z r q k * r := Int.mul_nonneg h0 hr
  simp only [tk_cw, tkm]
  rw [h, w32_id (x := tkm b z r q k * r) (by omega) (by omega), w32_id (x := b (q + k) - z) (by omega) (by omega), w32_id (by omega) (by omega), Int.mul_comm]
  omega
theorem tk_wd1 {b : Int → Int} {q : Int} (h0 : 97 ≤ b (q + ((0 : Nat) : Int)) ∧ b (q + ((0 : Nat) : Int)) ≤ 122) : tk_cw b 0 256 q 1 = b (q + ((0 : Nat) : Int)) := by
  have := tkm_cw (b := b) (z := 0) (r := 256) (q := q) (k := 0) rfl (by simp only [tkm]; omega) (by simp only [tkm]; omega) (by omega) (by omega) (by simp only [tkm]; omega)
  rw [this]
  simp only [tkm]
  omega
theorem tk_wds {b : Int → Int} {q x : Int} {k : Nat} (h : tk_cw b 0 256 q k = x) (x0 : 0 ≤ x) (x1 : x ≤ 8100000) (hb : 97 ≤ b (q + k) ∧ b (q + k) ≤ 122) : tk_cw b 0 256 q (k + 1) = x * 256 + b (q + k) := by
  simp only [tk_cw]
  rw [h, w32_id (x := x * 256) (by omega) (by omega), w32_id (x := b (q + k) - 0) (by omega) (by omega), w32_id (by omega) (by omega)]
  omega
theorem tw_word {b : Int → Int} {q : Int} {k : Nat} (k1 : 1 ≤ k) (k4 : k ≤ 4) (h : ∀ i : Nat, i < k → 97 ≤ b (q + i) ∧ b (q + i) ≤ 122) : tw (tk_cw b 0 256 q k) (tkm b 96 32 q k) := by
  right
  have h0 := h 0 (by omega)
  have c1 := tk_wd1 h0
  generalize ha : b (q + ((0 : Nat) : Int)) = a0 at *
  have m1 : tkm b 96 32 q 1 = a0 - 96 := by simp only [tkm]; rw [ha]; omega
  by_cases e1 : k = 1
  · rw [e1, c1, m1, tw_fd (w := a0) (x := 0) (y := 0) (z := 0) (t := a0) (by omega) (by omega) (by omega) (by omega), tw_gd (w := a0 - 96) (x := 0) (y := 0) (z := 0) (t := a0 - 96) (by omega) (by omega) (by omega) (by omega), tw_d0, tw_e0, tw_d1 (by omega), tw_e1 (by omega)]
    omega
  have h1 := h 1 (by omega)
  have c2 := tk_wds c1 (by omega) (by omega) h1
  generalize hb : b (q + ((1 : Nat) : Int)) = a1 at *
  have m2 : tkm b 96 32 q 2 = 32 * (a0 - 96) + a1 - 96 := by
    have : tkm b 96 32 q 2 = 32 * tkm b 96 32 q 1 + b (q + ((1 : Nat) : Int)) - 96 := rfl
    rw [this, m1, hb]
  by_cases e2 : k = 2
  · rw [e2, m2, show (2 : Nat) = 1 + 1 from rfl, c2, tw_fd (w := a0 * 256 + a1) (x := 0) (y := 0) (z := a0) (t := a1) (by omega) (by omega) (by omega) (by omega), tw_gd (w := 32 * (a0 - 96) + a1 - 96) (x := 0) (y := 0) (z := a0 - 96) (t := a1 - 96) (by omega) (by omega) (by omega) (by omega), tw_d0, tw_e0, tw_d1 (x := a0) (by omega), tw_d1 (x := a1) (by omega), tw_e1 (x := a0 - 96) (by omega), tw_e1 (x := a1 - 96) (by omega)]
    omega
  have h2 := h 2 (by omega)
  have c3 := tk_wds c2 (by omega) (by omega) h2
  generalize hc : b (q + ((1 + 1 : Nat) : Int)) = a2 at *
  have m3 : tkm b 96 32 q 3 = 32 * (32 * (a0 - 96) + a1 - 96) + a2 - 96 := by
    have : tkm b 96 32 q 3 = 32 * tkm b 96 32 q 2 + b (q + ((1 + 1 : Nat) : Int)) - 96 := rfl
    rw [this, m2, hc]
  by_cases e3 : k = 3
  · rw [e3, m3, show (3 : Nat) = 1 + 1 + 1 from rfl, c3, tw_fd (w := (a0 * 256 + a1) * 256 + a2) (x := 0) (y := a0) (z := a1) (t := a2) (by omega) (by omega) (by omega) (by omega), tw_gd (w := 32 * (32 * (a0 - 96) + a1 - 96) + a2 - 96) (x := 0) (y := a0 - 96) (z := a1 - 96) (t := a2 - 96) (by omega) (by omega) (by omega) (by omega), tw_d0, tw_e0, tw_d1 (x := a0) (by omega), tw_d1 (x := a1) (by omega), tw_d1 (x := a2) (by omega), tw_e1 (x := a0 - 96) (by omega), tw_e1 (x := a1 - 96) (by omega), tw_e1 (x := a2 - 96) (by omega)]
    omega
  have h3 := h 3 (by omega)
  have c4 := tk_wds c3 (by omega) (by omega) h3
  generalize hd : b (q + ((1 + 1 + 1 : Nat) : Int)) = a3 at *
  have m4 : tkm b 96 32 q 4 = 32 * (32 * (32 * (a0 - 96) + a1 - 96) + a2 - 96) + a3 - 96 := by
    have : tkm b 96 32 q 4 = 32 * tkm b 96 32 q 3 + b (q + ((1 + 1 + 1 : Nat) : Int)) - 96 := rfl
    rw [this, m3, hd]
  have e4 : k = 4 := by omega
  rw [e4, m4, show (4 : Nat) = 1 + 1 + 1 + 1 from rfl, c4, tw_fd (w := ((a0 * 256 + a1) * 256 + a2) * 256 + a3) (x := a0) (y := a1) (z := a2) (t := a3) (by omega) (by omega) (by omega) (by omega), tw_gd (w := 32 * (32 * (32 * (a0 - 96) + a1 - 96) + a2 - 96) + a3 - 96) (x := a0 - 96) (y := a1 - 96) (z := a2 - 96) (t := a3 - 96) (by omega) (by omega) (by omega) (by omega), tw_d1 (x := a0) (by omega), tw_d1 (x := a1) (by omega), tw_d1 (x := a2) (by omega), tw_d1 (x := a3) (by omega), tw_e1 (x := a0 - 96) (by omega), tw_e1 (x := a1 - 96) (by omega), tw_e1 (x := a2 - 96) (by omega), tw_e1 (x := a3 - 96) (by omega)]
  omega
theorem tw_base : tw 1650553701 67173 := Or.inr ⟨by omega, by omega, by decide +kernel, by decide +kernel⟩
theorem tw_want : tw 2002873972 755156 := Or.inr ⟨by omega, by omega, by decide +kernel, by decide +kernel⟩
