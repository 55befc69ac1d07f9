/-! ===== highest bits and counts of bits ===== -/
def pw_hb (n : Int) : Int := if n < 2 then 0 else if n < 4 then 1 else if n < 8 then 2 else if n < 16 then 3 else if n < 32 then 4 else if n < 64 then 5 else if n < 128 then 6 else if n < 256 then 7 else if n < 512 then 8 else if n < 1024 then 9 else if n < 2048 then 10 else if n < 4096 then 11 else if n < 8192 then 12 else 13
def pw_pcf : Nat → Int → Int
  | 0, _ => 0
  | f + 1, v => v % 2 + pw_pcf f (v / 2)
def pw_pc (n : Int) : Int := pw_pcf 14 n
theorem wushr_nn {a b : Int} (ha : 0 ≤ a) (ha1 : a < 2147483648) (hb0 : 0 ≤ b) (hb : b < 32) : wushr a b = a / 2 ^ b.toNat := by
  have hs : ∀ b : Nat, b < 32 → ((Int32.ofInt (b : Int)).toUInt32 &&& Int32.toUInt32 31).toBitVec % 32#32 = BitVec.ofNat 32 b := by decide +kernel
  have hsb := hs b.toNat (by omega)
  rw [show ((b.toNat : Nat) : Int) = b by omega] at hsb
  have e : ((Int32.ofInt a).toUInt32 >>> ((Int32.ofInt b).toUInt32 &&& Int32.toUInt32 31)).toInt32.toInt = ((Int32.ofInt a).toBitVec >>> (((Int32.ofInt b).toUInt32 &&& Int32.toUInt32 31).toBitVec % 32#32)).toInt := rfl
  unfold wushr
  rw [e, hsb]
  have hn : (Int32.ofInt a).toBitVec.toNat = a.toNat := by
    rw [Int32.toBitVec_ofInt, BitVec.toNat_ofInt]
    have : a % ((2 ^ 32 : Nat) : Int) = a := Int.emod_eq_of_lt ha (by omega)
    rw [this]
  have hsh : ((Int32.ofInt a).toBitVec >>> BitVec.ofNat 32 b.toNat).toNat = a.toNat / 2 ^ b.toNat := by
    rw [BitVec.ushiftRight_eq', BitVec.toNat_ushiftRight, hn, Nat.shiftRight_eq_div_pow, BitVec.toNat_ofNat, Nat.mod_eq_of_lt (by omega)]
  have hle : a.toNat / 2 ^ b.toNat ≤ a.toNat := Nat.div_le_self _ _
  rw [BitVec.toInt_eq_toNat_of_lt (by rw [hsh]; omega), hsh, Int.natCast_ediv, Int.natCast_pow, show ((a.toNat : Nat) : Int) = a by omega]
  rfl
def pw_bcf (n : Int) : Int :=
  let a := w32 (n - wand (wushr n 1) 1431655765)
  let b := w32 (wand a 858993459 + wand (wushr a 2) 858993459)
  let c := wand (w32 (b + wushr b 4)) 252645135
  let e := w32 (c + wushr c 8)
  let f := w32 (e + wushr e 16)
  wand f 63
theorem wand_nn {a b : Int} (ha : 0 ≤ a) (ha1 : a < 2147483648) (hb : 0 ≤ b) (hb1 : b < 2147483648) : wand a b = ((a.toNat &&& b.toNat : Nat) : Int) := by
  have hn : ∀ x : Int, 0 ≤ x → x < 2147483648 → (Int32.ofInt x).toBitVec.toNat = x.toNat := fun x h0 h1 => by
    rw [Int32.toBitVec_ofInt, BitVec.toNat_ofInt]
    have : x % ((2 ^ 32 : Nat) : Int) = x := Int.emod_eq_of_lt h0 (by omega)
    rw [this]
  have e : (Int32.ofInt a &&& Int32.ofInt b).toInt = ((Int32.ofInt a).toBitVec &&& (Int32.ofInt b).toBitVec).toInt := rfl
  have hand : ((Int32.ofInt a).toBitVec &&& (Int32.ofInt b).toBitVec).toNat = a.toNat &&& b.toNat := by
    rw [BitVec.toNat_and, hn a ha ha1, hn b hb hb1]
  have hle : a.toNat &&& b.toNat ≤ a.toNat := Nat.and_le_left
  unfold wand
  rw [e, BitVec.toInt_eq_toNat_of_lt (by rw [hand]; omega), hand]
def pw_bcN (n : Nat) : Nat :=
  let a := n - (n / 2 &&& 1431655765)
  let b := (a &&& 858993459) + (a / 4 &&& 858993459)
  let c := b + b / 16 &&& 252645135
  let e := c + c / 256
  let f := e + e / 65536
  f &&& 63
def pw_pcN : Nat → Nat → Nat
  | 0, _ => 0
  | f + 1, v => v % 2 + pw_pcN f (v / 2)
theorem pw_pcN_eq : ∀ (f n : Nat), pw_pcf f (n : Int) = (pw_pcN f n : Int)
  | 0, n => rfl
  | f + 1, n => by
    simp only [pw_pcf, pw_pcN]
    rw [show ((n : Int) / 2) = ((n / 2 : Nat) : Int) by omega, pw_pcN_eq f (n / 2)]
    omega
theorem pw_bcN_chk : (List.range 100).all (fun i => (List.range 100).all (fun j => pw_bcN (100 * i + j) == pw_pcN 14 (100 * i + j))) = true := by decide +kernel
theorem pw_bcf_all : ∀ n : Nat, n < 10000 → pw_bcf (n : Int) = pw_pc (n : Int) := by
  intro n hn
  have h1 := List.all_eq_true.mp pw_bcN_chk (n / 100) (List.mem_range.mpr (by omega))
  have h2 := List.all_eq_true.mp h1 (n % 100) (List.mem_range.mpr (by omega))
  rw [show 100 * (n / 100) + n % 100 = n by omega, beq_iff_eq] at h2
  have hs : ∀ (x k : Nat), x < 100000 → k < 32 → wushr (x : Int) (k : Int) = ((x / 2 ^ k : Nat) : Int) := fun x k hx hk => by
    rw [wushr_nn (by omega) (by omega) (by omega) (by omega), Int.toNat_natCast, Int.natCast_ediv, Int.natCast_pow]
    rfl
  have ha : ∀ (x m : Nat), x < 100000 → m < 2147483648 → wand (x : Int) (m : Int) = ((x &&& m : Nat) : Int) := fun x m hx hm => by
    rw [wand_nn (by omega) (by omega) (by omega) (by omega), Int.toNat_natCast, Int.toNat_natCast]
  have hle : ∀ x m : Nat, x &&& m ≤ x := fun x m => Nat.and_le_left
  have e1 : w32 ((n : Int) - wand (wushr (n : Int) 1) 1431655765) = ((n - (n / 2 &&& 1431655765) : Nat) : Int) := by
    have q1 := hs n 1 (by omega) (by omega)
    have q2 := ha (n / 2) 1431655765 (by omega) (by omega)
    have q3 := hle (n / 2) 1431655765
    simp only [Nat.pow_one] at q1
    have q1' : wushr (n : Int) 1 = ((n / 2 : Nat) : Int) := q1
    have q2' : wand ((n / 2 : Nat) : Int) 1431655765 = ((n / 2 &&& 1431655765 : Nat) : Int) := q2
    rw [q1', q2', w32_id (by omega) (by omega)]
    omega
  unfold pw_bcf
  simp only
  rw [e1]
  generalize hA : n - (n / 2 &&& 1431655765) = A
  have hA1 : A ≤ n := by omega
  have e2 : w32 (wand (A : Int) 858993459 + wand (wushr (A : Int) 2) 858993459) = (((A &&& 858993459) + (A / 4 &&& 858993459) : Nat) : Int) := by
    have q1 : wushr (A : Int) 2 = ((A / 4 : Nat) : Int) := hs A 2 (by omega) (by omega)
    have q2 : wand (A : Int) 858993459 = ((A &&& 858993459 : Nat) : Int) := ha A 858993459 (by omega) (by omega)
    have q3 : wand ((A / 4 : Nat) : Int) 858993459 = ((A / 4 &&& 858993459 : Nat) : Int) := ha (A / 4) 858993459 (by omega) (by omega)
    have q4 := hle A 858993459
    have q5 := hle (A / 4) 858993459
    rw [q1, q2, q3, w32_id (by omega) (by omega)]
    omega
  rw [e2]
  generalize hB : (A &&& 858993459) + (A / 4 &&& 858993459) = B
  have hB1 : B < 20000 := by
    have q4 := hle A 858993459
    have q5 := hle (A / 4) 858993459
    omega
  have e3 : wand (w32 ((B : Int) + wushr (B : Int) 4)) 252645135 = ((B + B / 16 &&& 252645135 : Nat) : Int) := by
    have q1 : wushr (B : Int) 4 = ((B / 16 : Nat) : Int) := hs B 4 (by omega) (by omega)
    rw [q1, w32_id (by omega) (by omega), show (B : Int) + ((B / 16 : Nat) : Int) = ((B + B / 16 : Nat) : Int) by omega]
    exact ha (B + B / 16) 252645135 (by omega) (by omega)
  rw [e3]
  generalize hC : (B + B / 16 &&& 252645135) = C
  have hC1 : C < 40000 := by
    have := hle (B + B / 16) 252645135
    omega
  have e4 : w32 ((C : Int) + wushr (C : Int) 8) = ((C + C / 256 : Nat) : Int) := by
    have q1 : wushr (C : Int) 8 = ((C / 256 : Nat) : Int) := hs C 8 (by omega) (by omega)
    rw [q1, w32_id (by omega) (by omega)]
    omega
  rw [e4]
  generalize hE : C + C / 256 = E
  have hE1 : E < 50000 := by omega
  have e5 : w32 ((E : Int) + wushr (E : Int) 16) = ((E + E / 65536 : Nat) : Int) := by
    have q1 : wushr (E : Int) 16 = ((E / 65536 : Nat) : Int) := hs E 16 (by omega) (by omega)
    rw [q1, w32_id (by omega) (by omega)]
    omega
  rw [e5]
  have e6 : wand ((E + E / 65536 : Nat) : Int) 63 = ((E + E / 65536 &&& 63 : Nat) : Int) := ha (E + E / 65536) 63 (by omega) (by omega)
  rw [e6]
  have e7 : pw_bcN n = (E + E / 65536 &&& 63) := by
    unfold pw_bcN
    simp only [hA, hB, hC, hE]
  unfold pw_pc
  rw [pw_pcN_eq, ← h2, e7]
theorem pw_pc_in {n : Int} : ∀ f : Nat, 0 ≤ n → 0 ≤ pw_pcf f n ∧ pw_pcf f n ≤ f := by
  intro f
  induction f generalizing n with
  | zero => intro h; simp [pw_pcf]
  | succ f ih =>
    intro h
    have := ih (n := n / 2) (by omega)
    simp only [pw_pcf]
    omega
