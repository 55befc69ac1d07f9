/-! ===== numbers ===== -/
def w32 (x : Int) : Int := (x + 2147483648) % 4294967296 - 2147483648
def w64 (x : Int) : Int := (x + 9223372036854775808) % 18446744073709551616 - 9223372036854775808
theorem w32_eq (x : Int) : (Int32.ofInt x).toInt = w32 x := by
  rw [Int32.toInt_ofInt]
  unfold w32 Int.bmod
  simp only [Int32.size]
  split <;> omega
theorem w64_eq (x : Int) : (Int64.ofInt x).toInt = w64 x := by
  rw [Int64.toInt_ofInt]
  unfold w64 Int.bmod
  simp only [Int64.size]
  split <;> omega
theorem w32_of (x : Int) : Int32.ofInt (w32 x) = Int32.ofInt x := by rw [← w32_eq, Int32.ofInt_toInt]
theorem w64_of (x : Int) : Int64.ofInt (w64 x) = Int64.ofInt x := by rw [← w64_eq, Int64.ofInt_toInt]
theorem w32_in (x : Int) : -2147483648 ≤ w32 x ∧ w32 x < 2147483648 := by unfold w32; omega
theorem w64_in (x : Int) : -9223372036854775808 ≤ w64 x ∧ w64 x < 9223372036854775808 := by unfold w64; omega
theorem w32_id {x : Int} (h1 : -2147483648 ≤ x) (h2 : x < 2147483648) : w32 x = x := by unfold w32; omega
theorem w64_id {x : Int} (h1 : -9223372036854775808 ≤ x) (h2 : x < 9223372036854775808) : w64 x = x := by unfold w64; omega
theorem w32_toInt {x : Int} (h : -2147483648 ≤ x ∧ x < 2147483648) : (Int32.ofInt x).toInt = x := by rw [w32_eq, w32_id h.1 h.2]
theorem w64_toInt {x : Int} (h : -9223372036854775808 ≤ x ∧ x < 9223372036854775808) : (Int64.ofInt x).toInt = x := by rw [w64_eq, w64_id h.1 h.2]
theorem w32_rng (r : Int32) : -2147483648 ≤ r.toInt ∧ r.toInt < 2147483648 := ⟨r.le_toInt, r.toInt_lt⟩
theorem w64_rng (r : Int64) : -9223372036854775808 ≤ r.toInt ∧ r.toInt < 9223372036854775808 := ⟨r.le_toInt, r.toInt_lt⟩
theorem w32_lt {a b : Int} (ha : -2147483648 ≤ a ∧ a < 2147483648) (hb : -2147483648 ≤ b ∧ b < 2147483648) : Int32.ofInt a < Int32.ofInt b ↔ a < b := by rw [Int32.lt_iff_toInt_lt, w32_toInt ha, w32_toInt hb]
theorem w32_le {a b : Int} (ha : -2147483648 ≤ a ∧ a < 2147483648) (hb : -2147483648 ≤ b ∧ b < 2147483648) : Int32.ofInt a ≤ Int32.ofInt b ↔ a ≤ b := by rw [Int32.le_iff_toInt_le, w32_toInt ha, w32_toInt hb]
theorem w32_inj {a b : Int} (ha : -2147483648 ≤ a ∧ a < 2147483648) (hb : -2147483648 ≤ b ∧ b < 2147483648) : Int32.ofInt a = Int32.ofInt b ↔ a = b := by rw [← Int32.toInt_inj, w32_toInt ha, w32_toInt hb]
theorem w32_clamp {a : Int} (ha : -2147483648 ≤ a ∧ a < 2147483648) : (Int32.ofInt a).toNatClampNeg = a.toNat := Int32.toNatClampNeg_ofInt_of_le ha.1 ha.2
theorem w32_vin {i : Int} {n : Nat} (hi : -2147483648 ≤ i ∧ i < 2147483648) (h0 : 0 ≤ i) (h : i < (n : Int)) : vp_in (Int32.ofInt i) n := by
  rw [vp_in_iff, w32_toInt hi]
  exact ⟨h0, h⟩
def wand (a b : Int) : Int := (Int32.ofInt a &&& Int32.ofInt b).toInt
def wxor (a b : Int) : Int := (Int32.ofInt a ^^^ Int32.ofInt b).toInt
def wshl (a b : Int) : Int := (Int32.ofInt a <<< (Int32.ofInt b &&& 31)).toInt
def wshr (a b : Int) : Int := (Int32.ofInt a >>> (Int32.ofInt b &&& 31)).toInt
def wushr (a b : Int) : Int := ((Int32.ofInt a).toUInt32 >>> ((Int32.ofInt b).toUInt32 &&& Int32.toUInt32 31)).toInt32.toInt
def wdiv (a b : Int) : Int := (Int32.ofInt a / Int32.ofInt b).toInt
def wrem (a b : Int) : Int := (Int32.ofInt a - Int32.ofInt a / Int32.ofInt b * Int32.ofInt b).toInt
def wlrem (a b : Int) : Int := (Int64.ofInt a - Int64.ofInt a / Int64.ofInt b * Int64.ofInt b).toInt
def wlshl (a b : Int) : Int := (Int64.ofInt a <<< ((Int32.ofInt b).toInt64 &&& 63)).toInt
def wi2b (a : Int) : Int := (Int32.ofInt a).toInt8.toInt32.toInt
def wcmp (a b : Int) : Int := if b < a then 1 else if a = b then 0 else -1
/-! ===== a step that changes the stack alone ===== -/
section MSO
variable {G : ms_G} {Q : ms_Q} {y : ms_Y} {d pc : Nat}
theorem ms_stk {pc' kc ks : Nat} {ls st st' : List ms_V} {Γ : List ms_Sh} {M : ms_M}
    (row : ∀ (p : Program) (e : Env) (R : Room) (s : State) (m : MethodId) (args : Array Value) (below : List Frame) (meth : Method) (c : Code) (H : Heap) (locs : List Loc) (cells slots : Nat) (Z : State → Prop) (lsC : Array Slot) (as : List Nat), p.tables.exec = Jvm.exec → c.code = y.2.1 → s.vm.findClass y.1.cls = some m.cls → (∀ w ∈ ms_B, w.before args s = true) → (∀ v ∈ st, ms_vok Γ.length v) →
      W p G.1 e R s m args below meth c H locs cells slots Z (F0 m pc' lsC (st'.map (ms_cv as))) → W p G.1 e R s m args below meth c H locs cells slots Z (F0 m pc lsC (st.map (ms_cv as))))
    (hv : (∀ v ∈ st, ms_vok Γ.length v) → ∀ v ∈ st', ms_vok Γ.length v) (h : ms_At G Q y d kc ks pc' ls st' Γ M) : ms_At G Q y d kc ks pc ls st Γ M := by
  intro p e R s m args below meth c as0 as H locs cells slots lsC mc ms Z hC hR hP hl hs hL hn h1 h2 h3 h4
  exact row p e R s m args below meth c H locs cells slots Z lsC as hC.1 hC.2.1 hC.2.2.2.1 hC.2.2.2.2.1 hs (h p e R s m args below meth c as0 as H locs cells slots lsC mc ms Z hC hR hP hl (hv hs) hL hn h1 h2 h3 h4)
theorem ms_cv0 {as : List Nat} (r : Int32) : ms_cv as (0, r.toInt) = .int r := by
  show Value.int (Int32.ofInt r.toInt) = _
  rw [Int32.ofInt_toInt]
theorem ms_cv1 {as : List Nat} (r : Int64) : ms_cv as (1, r.toInt) = .long r := by
  show Value.long (Int64.ofInt r.toInt) = _
  rw [Int64.ofInt_toInt]
theorem ms_cv2 {as : List Nat} {k : Nat} : ms_cv as (2, (k : Int)) = .ref (as.getD k 0) := by
  show va_rf (ms_ro as (k : Int)) = _
  unfold ms_ro
  rw [if_neg (by omega), Int.toNat_natCast]
  rfl
def o_ci (v : Int) : ms_T := fun K kc ks ls st Γ M => K kc ks ls ((0, v) :: st) Γ M
def o_cl (v : Int) : ms_T := fun K kc ks ls st Γ M => K kc ks ls ((1, v) :: st) Γ M
theorem s_ci {v : Int} {n : Nat} (hv : -2147483648 ≤ v ∧ v < 2147483648) (row : ∀ (p : Program) (e : Env) (R : Room) (s : State) (m : MethodId) (args : Array Value) (below : List Frame) (meth : Method) (c : Code) (H : Heap) (locs : List Loc) (cells slots : Nat) (Z : State → Prop) (lsC : Array Slot) (rest : List Value), p.tables.exec = Jvm.exec → c.code = y.2.1 → s.vm.findClass y.1.cls = some m.cls → (∀ w ∈ ms_B, w.before args s = true) → W p G.1 e R s m args below meth c H locs cells slots Z (F0 m (pc + n) lsC (.int (Int32.ofInt v) :: rest)) → W p G.1 e R s m args below meth c H locs cells slots Z (F0 m pc lsC rest)) : ms_Snd G Q y d pc (pc + n) (o_ci v) := by
  intro K hK kc ks ls st Γ M h
  exact ms_stk (fun p e R s m args below meth c H locs cells slots Z lsC as hx hb hown hts _ k => row p e R s m args below meth c H locs cells slots Z lsC (st.map (ms_cv as)) hx hb hown hts k) (fun hs u hu => (List.mem_cons.mp hu).elim (fun q => by rw [q]; exact hv) (hs u)) (hK _ _ _ _ _ _ h)
theorem s_iconst {n : Int} (hd : decode y.2.1 pc = .ok (.iconst n, 1)) (hv : -2147483648 ≤ n ∧ n < 2147483648) : ms_Snd G Q y d pc (pc + 1) (o_ci n) := s_ci hv (fun _ _ _ _ _ _ _ _ _ _ _ _ _ _ _ _ hx hb _ _ k => lv_iconst hx hb hd rfl k)
theorem s_bipush {n : Int} (hd : decode y.2.1 pc = .ok (.bipush n, 2)) (hv : -2147483648 ≤ n ∧ n < 2147483648) (he : (Int8.ofInt n).toInt32 = Int32.ofInt n) : ms_Snd G Q y d pc (pc + 2) (o_ci n) := s_ci hv (fun _ _ _ _ _ _ _ _ _ _ _ _ _ _ _ _ hx hb _ _ k => lv_bipush hx hb hd he k)
theorem s_sipush {n : Int} (hd : decode y.2.1 pc = .ok (.sipush n, 3)) (hv : -2147483648 ≤ n ∧ n < 2147483648) (he : (Int16.ofInt n).toInt32 = Int32.ofInt n) : ms_Snd G Q y d pc (pc + 3) (o_ci n) := s_ci hv (fun _ _ _ _ _ _ _ _ _ _ _ _ _ _ _ _ hx hb _ _ k => lv_sipush hx hb hd he k)
theorem s_ldc {v : Int} {r : Int32} {i : Nat} (hd : decode y.2.1 pc = .ok (.ldc i, 2)) (hw : Cond.constant y.1.cls i r ∈ ms_B) (hr : Int32.ofInt v = r) (hv : -2147483648 ≤ v ∧ v < 2147483648) : ms_Snd G Q y d pc (pc + 2) (o_ci v) := s_ci hv (fun _ _ _ _ _ _ _ _ _ _ _ _ _ _ _ _ hx hb hown hts k => lv_ldc hx hb hown (hts _ hw) hd (by rw [← hr]; exact k))
theorem s_ldcw {v : Int} {r : Int32} {i : Nat} (hd : decode y.2.1 pc = .ok (.ldc_w i, 3)) (hw : Cond.constant y.1.cls i r ∈ ms_B) (hr : Int32.ofInt v = r) (hv : -2147483648 ≤ v ∧ v < 2147483648) : ms_Snd G Q y d pc (pc + 3) (o_ci v) := s_ci hv (fun _ _ _ _ _ _ _ _ _ _ _ _ _ _ _ _ hx hb hown hts k => lv_ldcw hx hb hown (hts _ hw) hd (by rw [← hr]; exact k))
theorem s_cl {v : Int} {n : Nat} (hv : -9223372036854775808 ≤ v ∧ v < 9223372036854775808) (row : ∀ (p : Program) (e : Env) (R : Room) (s : State) (m : MethodId) (args : Array Value) (below : List Frame) (meth : Method) (c : Code) (H : Heap) (locs : List Loc) (cells slots : Nat) (Z : State → Prop) (lsC : Array Slot) (rest : List Value), p.tables.exec = Jvm.exec → c.code = y.2.1 → s.vm.findClass y.1.cls = some m.cls → (∀ w ∈ ms_B, w.before args s = true) → W p G.1 e R s m args below meth c H locs cells slots Z (F0 m (pc + n) lsC (.long (Int64.ofInt v) :: rest)) → W p G.1 e R s m args below meth c H locs cells slots Z (F0 m pc lsC rest)) : ms_Snd G Q y d pc (pc + n) (o_cl v) := by
  intro K hK kc ks ls st Γ M h
  exact ms_stk (fun p e R s m args below meth c H locs cells slots Z lsC as hx hb hown hts _ k => row p e R s m args below meth c H locs cells slots Z lsC (st.map (ms_cv as)) hx hb hown hts k) (fun hs u hu => (List.mem_cons.mp hu).elim (fun q => by rw [q]; exact hv) (hs u)) (hK _ _ _ _ _ _ h)
theorem s_lconst {n : Fin 2} {v : Int} (hd : decode y.2.1 pc = .ok (.lconst n, 1)) (he : Int64.ofNat (n : Nat) = Int64.ofInt v) (hv : -9223372036854775808 ≤ v ∧ v < 9223372036854775808) : ms_Snd G Q y d pc (pc + 1) (o_cl v) := s_cl hv (fun _ _ _ _ _ _ _ _ _ _ _ _ _ _ _ _ hx hb _ _ k => lv_lconst hx hb hd he k)
theorem s_ldc2 {v : Int} {r : Int64} {i : Nat} (hd : decode y.2.1 pc = .ok (.ldc2_w i, 3)) (hw : Cond.constantLong y.1.cls i r ∈ ms_B) (hr : Int64.ofInt v = r) (hv : -9223372036854775808 ≤ v ∧ v < 9223372036854775808) : ms_Snd G Q y d pc (pc + 3) (o_cl v) := s_cl hv (fun _ _ _ _ _ _ _ _ _ _ _ _ _ _ _ _ hx hb hown hts k => lv_ldc2 hx hb hown (hts _ hw) hd (by rw [← hr]; exact k))
/-- two ints by one -/
def o_bin (f : Int → Int → Int) : ms_T := fun K kc ks ls st Γ M => match st with
  | (0, b) :: (0, a) :: st' => K kc ks ls ((0, f a b) :: st') Γ M
  | _ => False
theorem s_bin {f : Int → Int → Int} (hf : ∀ a b, -2147483648 ≤ f a b ∧ f a b < 2147483648) (row : ∀ (p : Program) (e : Env) (R : Room) (s : State) (m : MethodId) (args : Array Value) (below : List Frame) (meth : Method) (c : Code) (H : Heap) (locs : List Loc) (cells slots : Nat) (Z : State → Prop) (lsC : Array Slot) (rest : List Value) (a b : Int), p.tables.exec = Jvm.exec → c.code = y.2.1 → W p G.1 e R s m args below meth c H locs cells slots Z (F0 m (pc + 1) lsC (.int (Int32.ofInt (f a b)) :: rest)) → W p G.1 e R s m args below meth c H locs cells slots Z (F0 m pc lsC (.int (Int32.ofInt b) :: .int (Int32.ofInt a) :: rest))) : ms_Snd G Q y d pc (pc + 1) (o_bin f) := by
  intro K hK kc ks ls st Γ M h
  unfold o_bin at h
  split at h
  · rename_i b a st'
    exact ms_stk (st' := (0, f a b) :: st') (fun p e R s m args below meth c H locs cells slots Z lsC as hx hb _ _ _ k => row p e R s m args below meth c H locs cells slots Z lsC (st'.map (ms_cv as)) a b hx hb k) (fun hs u hu => (List.mem_cons.mp hu).elim (fun q => by rw [q]; exact hf a b) (fun q => hs u (List.mem_cons_of_mem _ (List.mem_cons_of_mem _ q)))) (hK _ _ _ _ _ _ h)
  · exact False.elim h
theorem s_iadd (hd : decode y.2.1 pc = .ok (.iadd, 1)) : ms_Snd G Q y d pc (pc + 1) (o_bin (fun a b => w32 (a + b))) := s_bin (fun _ _ => w32_in _) (fun _ _ _ _ _ _ _ _ _ _ _ _ _ _ _ _ a b hx hb k => lv_iadd hx hb hd (by rw [w32_of, Int32.ofInt_add] at k; exact k))
theorem s_isub (hd : decode y.2.1 pc = .ok (.isub, 1)) : ms_Snd G Q y d pc (pc + 1) (o_bin (fun a b => w32 (a - b))) := s_bin (fun _ _ => w32_in _) (fun _ _ _ _ _ _ _ _ _ _ _ _ _ _ _ _ a b hx hb k => lv_isub hx hb hd (by rw [w32_of, Int32.ofInt_sub] at k; exact k))
theorem s_imul (hd : decode y.2.1 pc = .ok (.imul, 1)) : ms_Snd G Q y d pc (pc + 1) (o_bin (fun a b => w32 (a * b))) := s_bin (fun _ _ => w32_in _) (fun _ _ _ _ _ _ _ _ _ _ _ _ _ _ _ _ a b hx hb k => lv_imul hx hb hd (by rw [w32_of, Int32.ofInt_mul] at k; exact k))
theorem s_iand (hd : decode y.2.1 pc = .ok (.iand, 1)) : ms_Snd G Q y d pc (pc + 1) (o_bin wand) := s_bin (fun _ _ => w32_rng _) (fun _ _ _ _ _ _ _ _ _ _ _ _ _ _ _ _ a b hx hb k => lv_iand hx hb hd (by unfold wand at k; rw [Int32.ofInt_toInt] at k; exact k))
theorem s_ixor (hd : decode y.2.1 pc = .ok (.ixor, 1)) : ms_Snd G Q y d pc (pc + 1) (o_bin wxor) := s_bin (fun _ _ => w32_rng _) (fun _ _ _ _ _ _ _ _ _ _ _ _ _ _ _ _ a b hx hb k => lv_ixor hx hb hd (by unfold wxor at k; rw [Int32.ofInt_toInt] at k; exact k))
theorem s_ishl (hd : decode y.2.1 pc = .ok (.ishl, 1)) : ms_Snd G Q y d pc (pc + 1) (o_bin wshl) := s_bin (fun _ _ => w32_rng _) (fun _ _ _ _ _ _ _ _ _ _ _ _ _ _ _ _ a b hx hb k => lv_ishl hx hb hd (by unfold wshl at k; rw [Int32.ofInt_toInt] at k; exact k))
theorem s_ishr (hd : decode y.2.1 pc = .ok (.ishr, 1)) : ms_Snd G Q y d pc (pc + 1) (o_bin wshr) := s_bin (fun _ _ => w32_rng _) (fun _ _ _ _ _ _ _ _ _ _ _ _ _ _ _ _ a b hx hb k => lv_ishr hx hb hd (by unfold wshr at k; rw [Int32.ofInt_toInt] at k; exact k))
theorem s_iushr (hd : decode y.2.1 pc = .ok (.iushr, 1)) : ms_Snd G Q y d pc (pc + 1) (o_bin wushr) := s_bin (fun _ _ => w32_rng _) (fun _ _ _ _ _ _ _ _ _ _ _ _ _ _ _ _ a b hx hb k => lv_iushr hx hb hd rfl (by unfold wushr at k; rw [Int32.ofInt_toInt] at k; exact k))
/-- two ints by one, the second not 0 -/
def o_dv (f : Int → Int → Int) : ms_T := fun K kc ks ls st Γ M => match st with
  | (0, b) :: (0, a) :: st' => b ≠ 0 ∧ K kc ks ls ((0, f a b) :: st') Γ M
  | _ => False
theorem s_dv {f : Int → Int → Int} (hf : ∀ a b, -2147483648 ≤ f a b ∧ f a b < 2147483648) (row : ∀ (p : Program) (e : Env) (R : Room) (s : State) (m : MethodId) (args : Array Value) (below : List Frame) (meth : Method) (c : Code) (H : Heap) (locs : List Loc) (cells slots : Nat) (Z : State → Prop) (lsC : Array Slot) (rest : List Value) (a b : Int), p.tables.exec = Jvm.exec → c.code = y.2.1 → ¬ Int32.ofInt b = 0 → W p G.1 e R s m args below meth c H locs cells slots Z (F0 m (pc + 1) lsC (.int (Int32.ofInt (f a b)) :: rest)) → W p G.1 e R s m args below meth c H locs cells slots Z (F0 m pc lsC (.int (Int32.ofInt b) :: .int (Int32.ofInt a) :: rest))) : ms_Snd G Q y d pc (pc + 1) (o_dv f) := by
  intro K hK kc ks ls st Γ M h
  unfold o_dv at h
  split at h
  · rename_i b a st'
    refine ms_stk (st' := (0, f a b) :: st') (fun p e R s m args below meth c H locs cells slots Z lsC as hx hb _ _ hs k => row p e R s m args below meth c H locs cells slots Z lsC (st'.map (ms_cv as)) a b hx hb ?_ k) (fun hs u hu => (List.mem_cons.mp hu).elim (fun q => by rw [q]; exact hf a b) (fun q => hs u (List.mem_cons_of_mem _ (List.mem_cons_of_mem _ q)))) (hK _ _ _ _ _ _ h.2)
    have hb0 : -2147483648 ≤ b ∧ b < 2147483648 := hs (0, b) List.mem_cons_self
    intro q
    exact h.1 ((w32_inj hb0 (by omega)).mp (q.trans (by rfl)))
  · exact False.elim h
theorem s_idiv (hd : decode y.2.1 pc = .ok (.idiv, 1)) : ms_Snd G Q y d pc (pc + 1) (o_dv wdiv) := s_dv (fun _ _ => w32_rng _) (fun _ _ _ _ _ _ _ _ _ _ _ _ _ _ _ _ a b hx hb h0 k => lv_idiv hx hb hd h0 (by unfold wdiv at k; rw [Int32.ofInt_toInt] at k; exact k))
theorem s_irem (hd : decode y.2.1 pc = .ok (.irem, 1)) : ms_Snd G Q y d pc (pc + 1) (o_dv wrem) := s_dv (fun _ _ => w32_rng _) (fun _ _ _ _ _ _ _ _ _ _ _ _ _ _ _ _ a b hx hb h0 k => lv_irem hx hb hd h0 (by unfold wrem at k; rw [Int32.ofInt_toInt] at k; exact k))
def o_lbin (f : Int → Int → Int) : ms_T := fun K kc ks ls st Γ M => match st with
  | (1, b) :: (1, a) :: st' => K kc ks ls ((1, f a b) :: st') Γ M
  | _ => False
theorem s_lbin {f : Int → Int → Int} (hf : ∀ a b, -9223372036854775808 ≤ f a b ∧ f a b < 9223372036854775808) (row : ∀ (p : Program) (e : Env) (R : Room) (s : State) (m : MethodId) (args : Array Value) (below : List Frame) (meth : Method) (c : Code) (H : Heap) (locs : List Loc) (cells slots : Nat) (Z : State → Prop) (lsC : Array Slot) (rest : List Value) (a b : Int), p.tables.exec = Jvm.exec → c.code = y.2.1 → W p G.1 e R s m args below meth c H locs cells slots Z (F0 m (pc + 1) lsC (.long (Int64.ofInt (f a b)) :: rest)) → W p G.1 e R s m args below meth c H locs cells slots Z (F0 m pc lsC (.long (Int64.ofInt b) :: .long (Int64.ofInt a) :: rest))) : ms_Snd G Q y d pc (pc + 1) (o_lbin f) := by
  intro K hK kc ks ls st Γ M h
  unfold o_lbin at h
  split at h
  · rename_i b a st'
    exact ms_stk (st' := (1, f a b) :: st') (fun p e R s m args below meth c H locs cells slots Z lsC as hx hb _ _ _ k => row p e R s m args below meth c H locs cells slots Z lsC (st'.map (ms_cv as)) a b hx hb k) (fun hs u hu => (List.mem_cons.mp hu).elim (fun q => by rw [q]; exact hf a b) (fun q => hs u (List.mem_cons_of_mem _ (List.mem_cons_of_mem _ q)))) (hK _ _ _ _ _ _ h)
  · exact False.elim h
theorem s_ladd (hd : decode y.2.1 pc = .ok (.ladd, 1)) : ms_Snd G Q y d pc (pc + 1) (o_lbin (fun a b => w64 (a + b))) := s_lbin (fun _ _ => w64_in _) (fun _ _ _ _ _ _ _ _ _ _ _ _ _ _ _ _ a b hx hb k => lv_ladd hx hb hd (by rw [w64_of, Int64.ofInt_add] at k; exact k))
theorem s_lmul (hd : decode y.2.1 pc = .ok (.lmul, 1)) : ms_Snd G Q y d pc (pc + 1) (o_lbin (fun a b => w64 (a * b))) := s_lbin (fun _ _ => w64_in _) (fun _ _ _ _ _ _ _ _ _ _ _ _ _ _ _ _ a b hx hb k => lv_lmul hx hb hd (by rw [w64_of, Int64.ofInt_mul] at k; exact k))
def o_ldv (f : Int → Int → Int) : ms_T := fun K kc ks ls st Γ M => match st with
  | (1, b) :: (1, a) :: st' => b ≠ 0 ∧ K kc ks ls ((1, f a b) :: st') Γ M
  | _ => False
theorem s_lrem (hd : decode y.2.1 pc = .ok (.lrem, 1)) : ms_Snd G Q y d pc (pc + 1) (o_ldv wlrem) := by
  intro K hK kc ks ls st Γ M h
  unfold o_ldv at h
  split at h
  · rename_i b a st'
    refine ms_stk (st' := (1, wlrem a b) :: st') (fun p e R s m args below meth c H locs cells slots Z lsC as hx hb _ _ hs k => ?_) (fun hs u hu => (List.mem_cons.mp hu).elim (fun q => by rw [q]; exact w64_rng _) (fun q => hs u (List.mem_cons_of_mem _ (List.mem_cons_of_mem _ q)))) (hK _ _ _ _ _ _ h.2)
    have hb0 : -9223372036854775808 ≤ b ∧ b < 9223372036854775808 := hs (1, b) List.mem_cons_self
    refine lv_lrem (x := Int64.ofInt a) (y := Int64.ofInt b) (rest := st'.map (ms_cv as)) hx hb hd (fun q => h.1 ?_) ?_
    · have q2 := congrArg Int64.toInt q
      rw [w64_toInt hb0] at q2
      exact q2.trans (by rfl)
    · rw [List.map_cons, show ms_cv as (1, wlrem a b) = _ from ms_cv1 _] at k
      exact k
  · exact False.elim h
/-- one value by another -/
def o_un (t t' : Nat) (f : Int → Int) : ms_T := fun K kc ks ls st Γ M => match st with
  | (u, a) :: st' => u = t ∧ K kc ks ls ((t', f a) :: st') Γ M
  | _ => False
theorem s_un {t t' : Nat} {f : Int → Int} (hf : ∀ (n : Nat) (a : Int), ms_vok n (t, a) → ms_vok n (t', f a)) (row : ∀ (p : Program) (e : Env) (R : Room) (s : State) (m : MethodId) (args : Array Value) (below : List Frame) (meth : Method) (c : Code) (H : Heap) (locs : List Loc) (cells slots : Nat) (Z : State → Prop) (lsC : Array Slot) (rest : List Value) (as : List Nat) (n : Nat) (a : Int), p.tables.exec = Jvm.exec → c.code = y.2.1 → ms_vok n (t, a) → W p G.1 e R s m args below meth c H locs cells slots Z (F0 m (pc + 1) lsC (ms_cv as (t', f a) :: rest)) → W p G.1 e R s m args below meth c H locs cells slots Z (F0 m pc lsC (ms_cv as (t, a) :: rest))) : ms_Snd G Q y d pc (pc + 1) (o_un t t' f) := by
  intro K hK kc ks ls st Γ M h
  unfold o_un at h
  split at h
  · rename_i u a st'
    obtain ⟨rfl, h⟩ := h
    exact ms_stk (st' := (t', f a) :: st') (fun p e R s m args below meth c H locs cells slots Z lsC as hx hb _ _ hs k => row p e R s m args below meth c H locs cells slots Z lsC (st'.map (ms_cv as)) as Γ.length a hx hb (hs _ List.mem_cons_self) k) (fun hs u hu => (List.mem_cons.mp hu).elim (fun q => by rw [q]; exact hf _ a (hs _ List.mem_cons_self)) (fun q => hs u (List.mem_cons_of_mem _ q))) (hK _ _ _ _ _ _ h)
  · exact False.elim h
theorem s_i2l (hd : decode y.2.1 pc = .ok (.i2l, 1)) : ms_Snd G Q y d pc (pc + 1) (o_un 0 1 (fun a => a)) := s_un (fun n a h => by
    have h : -2147483648 ≤ a ∧ a < 2147483648 := h
    show -9223372036854775808 ≤ a ∧ a < 9223372036854775808
    omega) (fun _ _ _ _ _ _ _ _ _ _ _ _ _ _ _ _ as n a hx hb h k => by
    have h : -2147483648 ≤ a ∧ a < 2147483648 := h
    refine lv_i2l (x := Int32.ofInt a) (v := Int64.ofInt a) hx hb hd ?_ k
    rw [← Int64.toInt_inj, Int32.toInt_toInt64, w32_toInt h, w64_toInt (by omega)])
theorem s_l2i (hd : decode y.2.1 pc = .ok (.l2i, 1)) : ms_Snd G Q y d pc (pc + 1) (o_un 1 0 w32) := s_un (fun n a h => w32_in a) (fun _ _ _ _ _ _ _ _ _ _ _ _ _ _ _ _ as n a hx hb h k => by
    refine lv_l2i (x := Int64.ofInt a) (v := Int32.ofInt (w32 a)) hx hb hd ?_ k
    rw [w32_of, Int64.toInt32_ofInt])
theorem s_i2b (hd : decode y.2.1 pc = .ok (.i2b, 1)) : ms_Snd G Q y d pc (pc + 1) (o_un 0 0 wi2b) := s_un (fun n a h => w32_rng _) (fun _ _ _ _ _ _ _ _ _ _ _ _ _ _ _ _ as n a hx hb h k => by
    refine lv_i2b (x := Int32.ofInt a) (v := Int32.ofInt (wi2b a)) hx hb hd ?_ k
    unfold wi2b
    rw [Int32.ofInt_toInt])
def o_lcmp : ms_T := fun K kc ks ls st Γ M => match st with
  | (1, b) :: (1, a) :: st' => K kc ks ls ((0, wcmp a b) :: st') Γ M
  | _ => False
theorem s_lcmp (hd : decode y.2.1 pc = .ok (.lcmp, 1)) : ms_Snd G Q y d pc (pc + 1) o_lcmp := by
  intro K hK kc ks ls st Γ M h
  unfold o_lcmp at h
  split at h
  · rename_i b a st'
    refine ms_stk (st' := (0, wcmp a b) :: st') (fun p e R s m args below meth c H locs cells slots Z lsC as hx hb _ _ hs k => ?_) (fun hs u hu => (List.mem_cons.mp hu).elim (fun q => by
      rw [q]
      show -2147483648 ≤ wcmp a b ∧ wcmp a b < 2147483648
      unfold wcmp
      split
      · omega
      · split <;> omega) (fun q => hs u (List.mem_cons_of_mem _ (List.mem_cons_of_mem _ q)))) (hK _ _ _ _ _ _ h)
    have hb0 : -9223372036854775808 ≤ b ∧ b < 9223372036854775808 := hs (1, b) List.mem_cons_self
    have ha0 : -9223372036854775808 ≤ a ∧ a < 9223372036854775808 := hs (1, a) (List.mem_cons_of_mem _ List.mem_cons_self)
    refine W.lcmp (x := Int64.ofInt a) (y := Int64.ofInt b) (rest := st'.map (ms_cv as)) hx hb hd ?_
    have e : lg_cmp (Int64.ofInt a) (Int64.ofInt b) = Int32.ofInt (wcmp a b) := by
      unfold lg_cmp wcmp
      have e1 : (Int64.ofInt a > Int64.ofInt b) ↔ b < a := by
        show Int64.ofInt b < Int64.ofInt a ↔ _
        rw [Int64.lt_iff_toInt_lt, w64_toInt ha0, w64_toInt hb0]
      have e2 : (Int64.ofInt a = Int64.ofInt b) ↔ a = b := by rw [← Int64.toInt_inj, w64_toInt ha0, w64_toInt hb0]
      by_cases h1 : b < a
      · rw [if_pos h1, if_pos (e1.mpr h1)]
        rfl
      · rw [if_neg h1, if_neg (fun q => h1 (e1.mp q))]
        by_cases h2 : a = b
        · rw [if_pos h2, if_pos (e2.mpr h2)]
          rfl
        · rw [if_neg h2, if_neg (fun q => h2 (e2.mp q))]
          rfl
    rw [e]
    exact k
  · exact False.elim h
def o_lshl : ms_T := fun K kc ks ls st Γ M => match st with
  | (0, b) :: (1, a) :: st' => K kc ks ls ((1, wlshl a b) :: st') Γ M
  | _ => False
theorem s_lshl (hd : decode y.2.1 pc = .ok (.lshl, 1)) : ms_Snd G Q y d pc (pc + 1) o_lshl := by
  intro K hK kc ks ls st Γ M h
  unfold o_lshl at h
  split at h
  · rename_i b a st'
    refine ms_stk (st' := (1, wlshl a b) :: st') (fun p e R s m args below meth c H locs cells slots Z lsC as hx hb _ _ hs k => ?_) (fun hs u hu => (List.mem_cons.mp hu).elim (fun q => by rw [q]; exact w64_rng _) (fun q => hs u (List.mem_cons_of_mem _ (List.mem_cons_of_mem _ q)))) (hK _ _ _ _ _ _ h)
    refine lv_lshl (x := Int64.ofInt a) (y := Int32.ofInt b) (v := Int64.ofInt (wlshl a b)) (rest := st'.map (ms_cv as)) hx hb hd ?_ k
    unfold wlshl
    rw [Int64.ofInt_toInt]
  · exact False.elim h
def o_dup : ms_T := fun K kc ks ls st Γ M => match st with
  | v :: st' => v.1 ≠ 1 ∧ K kc ks ls (v :: v :: st') Γ M
  | _ => False
theorem ms_cat1 {as : List Nat} {n : Nat} {v : ms_V} (h : ms_vok n v) (h1 : v.1 ≠ 1) : (ms_cv as v).category = 1 := by
  obtain ⟨t, x⟩ := v
  match t, h, h1 with
  | 0, _, _ => rfl
  | 1, _, h1 => exact absurd rfl h1
  | 2, _, _ =>
    show (va_rf (ms_ro as x)).category = 1
    cases ms_ro as x <;> rfl
  | k + 3, h, _ => exact False.elim h
theorem s_dup (hd : decode y.2.1 pc = .ok (.dup, 1)) : ms_Snd G Q y d pc (pc + 1) o_dup := by
  intro K hK kc ks ls st Γ M h
  unfold o_dup at h
  split at h
  · rename_i v st'
    exact ms_stk (st' := v :: v :: st') (fun p e R s m args below meth c H locs cells slots Z lsC as hx hb _ _ hs k => lv_dup hx hb hd (ms_cat1 (hs v List.mem_cons_self) h.1) k) (fun hs u hu => (List.mem_cons.mp hu).elim (fun q => by rw [q]; exact hs v List.mem_cons_self) (fun q => hs u q)) (hK _ _ _ _ _ _ h.2)
  · exact False.elim h
def o_dup2 : ms_T := fun K kc ks ls st Γ M => match st with
  | v :: u :: st' => v.1 ≠ 1 ∧ u.1 ≠ 1 ∧ K kc ks ls (v :: u :: v :: u :: st') Γ M
  | _ => False
theorem s_dup2 (hd : decode y.2.1 pc = .ok (.dup2, 1)) : ms_Snd G Q y d pc (pc + 1) o_dup2 := by
  intro K hK kc ks ls st Γ M h
  unfold o_dup2 at h
  split at h
  · rename_i v w st'
    exact ms_stk (st' := v :: w :: v :: w :: st') (fun p e R s m args below meth c H locs cells slots Z lsC as hx hb _ _ hs k => lv_dup2_11 hx hb hd (ms_cat1 (hs v List.mem_cons_self) h.1) (ms_cat1 (hs w (List.mem_cons_of_mem _ List.mem_cons_self)) h.2.1) k) (fun hs u hu => (List.mem_cons.mp hu).elim (fun q => by rw [q]; exact hs v List.mem_cons_self) (fun q => (List.mem_cons.mp q).elim (fun q => by rw [q]; exact hs w (List.mem_cons_of_mem _ List.mem_cons_self)) (fun q => hs u q))) (hK _ _ _ _ _ _ h.2.2)
  · exact False.elim h
def o_pop : ms_T := fun K kc ks ls st Γ M => match st with
  | v :: st' => v.1 ≠ 1 ∧ K kc ks ls st' Γ M
  | _ => False
theorem s_pop (hd : decode y.2.1 pc = .ok (.pop, 1)) : ms_Snd G Q y d pc (pc + 1) o_pop := by
  intro K hK kc ks ls st Γ M h
  unfold o_pop at h
  split at h
  · rename_i v st'
    exact ms_stk (st' := st') (fun p e R s m args below meth c H locs cells slots Z lsC as hx hb _ _ hs k => lv_pop hx hb hd (ms_cat1 (hs v List.mem_cons_self) h.1) k) (fun hs u hu => hs u (List.mem_cons_of_mem _ hu)) (hK _ _ _ _ _ _ h.2)
  · exact False.elim h
end MSO
