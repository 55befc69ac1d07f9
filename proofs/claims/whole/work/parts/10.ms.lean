/-! ===== A SMALL MACHINE OF OUR OWN over the kit's rows: values and memory are integers, cells go by numbers (in the order of their making), refs are such numbers (below 0: null) ===== -/
abbrev ms_V : Type := Nat × Int
abbrev ms_Sh : Type := Nat × Nat
abbrev ms_M : Type := Int → Int → Int
abbrev ms_G : Type := Launch × va_G × (Nat → ClassId)
abbrev ms_Y : Type := MethodName × ByteArray × Nat × Option FieldType
abbrev ms_Q : Type := ms_V → List ms_Sh → ms_M → Prop
/-- the tables' words that every call may take along, and those of nest mates -/
def ms_B : List Cond := lw_tbl.filter goodWord
def ms_isN (w : Cond) : Bool := match w with
  | .methodLinkNest _ _ _ _ => true
  | _ => false
def ms_N : List Cond := lw_tbl.filter ms_isN
theorem ms_memB {w : Cond} (i : Nat) (h : lw_tbl[i]? = some w) (hg : goodWord w = true) : w ∈ ms_B := List.mem_filter.mpr ⟨List.mem_of_getElem? h, hg⟩
theorem ms_memN {w : Cond} (i : Nat) (h : lw_tbl[i]? = some w) (hg : ms_isN w = true) : w ∈ ms_N := List.mem_filter.mpr ⟨List.mem_of_getElem? h, hg⟩
def ms_ro (as : List Nat) (x : Int) : Option Nat := if x < 0 then none else some (as.getD x.toNat 0)
def ms_cv (as : List Nat) (v : ms_V) : Value := match v.1 with
  | 0 => .int (Int32.ofInt v.2)
  | 1 => .long (Int64.ofInt v.2)
  | _ => va_rf (ms_ro as v.2)
def ms_tg (ty : FieldType) : Nat := match ty with
  | .long => 1
  | .object _ => 2
  | .array _ => 2
  | _ => 0
def ms_ty (c j : Nat) : FieldType := match c with
  | 0 => tyX0 j
  | 1 => tyX1 j
  | 2 => tyX2 j
  | 3 => tyX3 j
  | 4 => tyX4 j
  | 5 => tyX5 j
  | 6 => tyX6 j
  | 7 => tyX7 j
  | 8 => tyX8 j
  | 9 => tyX9 j
  | 10 => tyX10 j
  | 11 => tyX11 j
  | _ => tyX12 j
def ms_vok (n : Nat) (v : ms_V) : Prop := match v.1 with
  | 0 => -2147483648 ≤ v.2 ∧ v.2 < 2147483648
  | 1 => -9223372036854775808 ≤ v.2 ∧ v.2 < 9223372036854775808
  | 2 => v.2 < (n : Int)
  | _ => False
def ms_lok (n : Nat) (v : ms_V) : Prop := v.1 < 3 → ms_vok n v
/-- what an element or a field of a cell may be -/
def ms_eok (n : Nat) (sh : ms_Sh) (j : Nat) (x : Int) : Prop :=
  if sh.1 < 100 then ms_vok n (ms_tg (ms_ty sh.1 j), x)
  else if sh.1 = 101 then -9223372036854775808 ≤ x ∧ x < 9223372036854775808
  else if sh.1 = 102 then -128 ≤ x ∧ x < 128
  else if sh.1 = 103 then 0 ≤ x ∧ x < 2
  else if sh.1 = 104 then x < (n : Int)
  else -2147483648 ≤ x ∧ x < 2147483648
def ms_shok (sh : ms_Sh) : Prop := (sh.1 < 100 → ∃ r : vw_C, vwCl[sh.1]? = some r ∧ r.2.2 = sh.2) ∧ sh.1 < 105
def ms_Mok (Γ : List ms_Sh) (M : ms_M) : Prop := ∀ (k : Nat) (sh : ms_Sh), Γ[k]? = some sh → ms_shok sh ∧ (∀ j : Nat, j < sh.2 → ms_eok Γ.length sh j (M k j)) ∧ (sh.1 = 104 → ∀ j : Nat, M k j < (Γ.length : Int))
def ms_fs (as : List Nat) (M : ms_M) (k c n : Nat) : List Value := (List.range n).map (fun j => ms_cv as (ms_tg (ms_ty c j), M k j))
def ms_cell (G : ms_G) (as : List Nat) (M : ms_M) (k : Nat) (sh : ms_Sh) : va_E :=
  if sh.1 < 100 then .inr (sh.1, ms_fs as M k sh.1 sh.2)
  else if sh.1 = 101 then .inl (G.2.2 1, sh.2, .inr (.inl (fun j => Int64.ofInt (M k j))))
  else if sh.1 = 104 then .inl (G.2.2 4, sh.2, .inr (.inr (.inr (.inr (fun j => ms_ro as (M k j))))))
  else .inl (G.2.2 (sh.1 - 100), sh.2, .inl (fun j => Int32.ofInt (M k j)))
def ms_ws (G : ms_G) (as : List Nat) (Γ : List ms_Sh) (M : ms_M) : va_W := (List.range Γ.length).map (fun k => (as.getD k 0, ms_cell G as M k (Γ.getD k (0, 0))))
def ms_up (M : ms_M) (a j v : Int) : ms_M := fun a' j' => if a' = a ∧ j' = j then v else M a' j'
def ms_sh (Γ : List ms_Sh) (k : Int) : Option ms_Sh := if k < 0 then none else Γ[k.toNat]?
/-- a cell's kind (its class, or 100 ints, 101 longs, 102 bytes, 103 booleans, 104 refs) and its length -/
def ms_kd (Γ : List ms_Sh) (k : Int) : Nat := match ms_sh Γ k with
  | some sh => sh.1
  | none => 999
def ms_ln (Γ : List ms_Sh) (k : Int) : Int := match ms_sh Γ k with
  | some sh => (sh.2 : Int)
  | none => 0
theorem ms_kd_some {Γ : List ms_Sh} {k : Int} {c : Nat} (h : ms_kd Γ k = c) (hc : c < 105) : ∃ n : Nat, k = (n : Int) ∧ ∃ sh : ms_Sh, Γ[n]? = some sh ∧ sh.1 = c ∧ ms_ln Γ k = (sh.2 : Int) := by
  unfold ms_kd at h
  unfold ms_ln
  unfold ms_sh at h ⊢
  by_cases hk : k < 0
  · rw [if_pos hk] at h
    simp only at h
    omega
  · rw [if_neg hk] at h ⊢
    refine ⟨k.toNat, by omega, ?_⟩
    cases hg : Γ[k.toNat]? with
    | none => rw [hg] at h; simp only at h; omega
    | some sh => rw [hg] at h; exact ⟨sh, rfl, h, rfl⟩
theorem ms_getD_pre {as as' : List Nat} (hp : as <+: as') {k : Nat} (hk : k < as.length) : as'.getD k 0 = as.getD k 0 := by
  obtain ⟨t, rfl⟩ := hp
  rw [List.getD_eq_getElem?_getD, List.getD_eq_getElem?_getD, List.getElem?_append_left hk]
theorem ms_ro_ext {as as' : List Nat} (hp : as <+: as') {x : Int} (h : x < (as.length : Int)) : ms_ro as' x = ms_ro as x := by
  unfold ms_ro
  by_cases hx : x < 0
  · rw [if_pos hx, if_pos hx]
  · rw [if_neg hx, if_neg hx, ms_getD_pre hp (by omega)]
theorem ms_cv_ext {as as' : List Nat} (hp : as <+: as') : ∀ {v : ms_V}, ms_vok as.length v → ms_cv as' v = ms_cv as v
  | (0, _), _ => rfl
  | (1, _), _ => rfl
  | (2, x), h => by
    show va_rf (ms_ro as' x) = va_rf (ms_ro as x)
    rw [ms_ro_ext hp h]
  | (_ + 3, _), h => False.elim h
theorem ms_cell_ext {G : ms_G} {as as' : List Nat} {M : ms_M} {k : Nat} {sh : ms_Sh} (hp : as <+: as') (h : ∀ j : Nat, j < sh.2 → ms_eok as.length sh j (M k j)) (h4 : sh.1 = 104 → ∀ j : Nat, M k j < (as.length : Int)) : ms_cell G as' M k sh = ms_cell G as M k sh := by
  unfold ms_cell
  by_cases h1 : sh.1 < 100
  · rw [if_pos h1, if_pos h1]
    have e : ms_fs as' M k sh.1 sh.2 = ms_fs as M k sh.1 sh.2 := List.map_congr_left (fun j hj => ms_cv_ext hp (by
      have q := h j (List.mem_range.mp hj)
      unfold ms_eok at q
      rw [if_pos h1] at q
      exact q))
    rw [e]
  · rw [if_neg h1, if_neg h1]
    by_cases h2 : sh.1 = 101
    · rw [if_pos h2, if_pos h2]
    · rw [if_neg h2, if_neg h2]
      by_cases h3 : sh.1 = 104
      · rw [if_pos h3, if_pos h3]
        have e : (fun j : Nat => ms_ro as' (M k j)) = (fun j : Nat => ms_ro as (M k j)) := funext fun j => ms_ro_ext hp (h4 h3 j)
        rw [e]
      · rw [if_neg h3, if_neg h3]
theorem ms_ws_at {G : ms_G} {as : List Nat} {Γ : List ms_Sh} {M : ms_M} {k : Nat} {sh : ms_Sh} (h : Γ[k]? = some sh) : (ms_ws G as Γ M)[k]? = some (as.getD k 0, ms_cell G as M k sh) := by
  have hl := (List.getElem?_eq_some_iff.mp h).1
  have hr : (List.range Γ.length)[k]? = some k := by rw [List.getElem?_range hl]
  have e : Γ.getD k (0, 0) = sh := by rw [List.getD_eq_getElem?_getD, h]; rfl
  unfold ms_ws
  rw [List.getElem?_map, hr]
  show some (as.getD k 0, ms_cell G as M k (Γ.getD k (0, 0))) = _
  rw [e]
theorem ms_ws_len {G : ms_G} {as : List Nat} {Γ : List ms_Sh} {M : ms_M} : (ms_ws G as Γ M).length = Γ.length := by
  unfold ms_ws
  rw [List.length_map, List.length_range]
theorem ms_ws_inv {G : ms_G} {as : List Nat} {Γ : List ms_Sh} {M : ms_M} {k : Nat} {q : Nat × va_E} (h : (ms_ws G as Γ M)[k]? = some q) : ∃ sh, Γ[k]? = some sh ∧ q = (as.getD k 0, ms_cell G as M k sh) := by
  have hl := (List.getElem?_eq_some_iff.mp h).1
  rw [ms_ws_len] at hl
  refine ⟨Γ[k], List.getElem?_eq_getElem hl, ?_⟩
  rw [ms_ws_at (List.getElem?_eq_getElem hl)] at h
  exact (Option.some.inj h).symm
theorem ms_cell_congr {G : ms_G} {as : List Nat} {M M' : ms_M} {k : Nat} {sh : ms_Sh} (h : ∀ j : Int, M' k j = M k j) : ms_cell G as M' k sh = ms_cell G as M k sh := by
  unfold ms_cell ms_fs
  simp only [h]
theorem ms_ws_set {G : ms_G} {as : List Nat} {Γ : List ms_Sh} {M M' : ms_M} {k : Nat} {sh : ms_Sh} (h : Γ[k]? = some sh) (hM : ∀ (i : Nat) (j : Int), i ≠ k → M' i j = M i j) : ms_ws G as Γ M' = (ms_ws G as Γ M).set k (as.getD k 0, ms_cell G as M' k sh) := by
  have hk := (List.getElem?_eq_some_iff.mp h).1
  apply List.ext_getElem?
  intro i
  by_cases hi : i = k
  · subst hi
    rw [List.getElem?_set_self (by rw [ms_ws_len]; exact hk), ms_ws_at h]
  · rw [List.getElem?_set_ne (Ne.symm hi)]
    cases hg : Γ[i]? with
    | none =>
      have hl := List.getElem?_eq_none_iff.mp hg
      rw [List.getElem?_eq_none (by rw [ms_ws_len]; exact hl), List.getElem?_eq_none (by rw [ms_ws_len]; exact hl)]
    | some sh' => rw [ms_ws_at hg, ms_ws_at hg, ms_cell_congr (fun j => hM i j hi)]
theorem ms_ws_ext {G : ms_G} {as as' : List Nat} {Γ : List ms_Sh} {M : ms_M} (hl : as.length = Γ.length) (hp : as <+: as') (hM : ms_Mok Γ M) : ms_ws G as' Γ M = ms_ws G as Γ M := by
  apply List.ext_getElem?
  intro i
  cases hg : Γ[i]? with
  | none =>
    have hl := List.getElem?_eq_none_iff.mp hg
    rw [List.getElem?_eq_none (by rw [ms_ws_len]; exact hl), List.getElem?_eq_none (by rw [ms_ws_len]; exact hl)]
  | some sh =>
    have hk := (List.getElem?_eq_some_iff.mp hg).1
    obtain ⟨-, h2, h3⟩ := hM i sh hg
    rw [ms_ws_at hg, ms_ws_at hg, ms_getD_pre hp (by omega), ms_cell_ext hp (by rw [hl]; exact h2) (by rw [hl]; exact h3)]
theorem ms_ws_push {G : ms_G} {as : List Nat} {Γ : List ms_Sh} {M M' : ms_M} {q : Nat} {sh : ms_Sh} (hl : as.length = Γ.length) (hM : ms_Mok Γ M) (hM' : ∀ (i : Nat) (j : Int), i < Γ.length → M' i j = M i j) : ms_ws G (as ++ [q]) (Γ ++ [sh]) M' = ms_ws G as Γ M ++ [(q, ms_cell G (as ++ [q]) M' Γ.length sh)] := by
  apply List.ext_getElem?
  intro i
  rcases Nat.lt_trichotomy i Γ.length with hi | hi | hi
  · have hg : Γ[i]? = some Γ[i] := List.getElem?_eq_getElem hi
    have hg' : (Γ ++ [sh])[i]? = some Γ[i] := by rw [List.getElem?_append_left hi]; exact hg
    rw [ms_ws_at hg', List.getElem?_append_left (by rw [ms_ws_len]; exact hi), ms_ws_at hg, ms_cell_congr (fun j => hM' i j hi)]
    obtain ⟨-, h2, h3⟩ := hM i _ hg
    rw [ms_getD_pre (List.prefix_append as [q]) (by omega), ms_cell_ext (List.prefix_append as [q]) (by rw [hl]; exact h2) (by rw [hl]; exact h3)]
  · subst hi
    have hg' : (Γ ++ [sh])[Γ.length]? = some sh := by simp
    rw [ms_ws_at hg', List.getElem?_append_right (by rw [ms_ws_len]; exact Nat.le_refl _), ms_ws_len, Nat.sub_self]
    have e : (as ++ [q]).getD Γ.length 0 = q := by rw [← hl]; simp
    rw [e]
    rfl
  · rw [List.getElem?_eq_none (by rw [ms_ws_len, List.length_append]; simp; omega), List.getElem?_eq_none (by rw [List.length_append, ms_ws_len]; simp; omega)]
theorem ms_vok_mono {n n' : Nat} (h : n ≤ n') : ∀ {v : ms_V}, ms_vok n v → ms_vok n' v
  | (0, _), q => q
  | (1, _), q => q
  | (2, x), q => by
    have q' : x < (n : Int) := q
    show x < (n' : Int)
    omega
  | (_ + 3, _), q => False.elim q
def ms_A (as0 : List Nat) (sz : Nat) : Nat → Prop := fun q => q ∈ as0 ∨ sz ≤ q
def ms_tys (G : ms_G) : List (ClassId × FieldType) := [(G.2.2 0, .int), (G.2.2 1, .long), (G.2.2 2, .byte), (G.2.2 3, .boolean), (G.2.2 4, .object RX4)]
def ms_Kn (G : ms_G) (s : State) : Prop := va_K G.2.1 vwCl (ms_tys G) s ∧ va_AO RX4 s ∧ ∀ w ∈ ms_N, va_Nw w s
theorem ms_Kn.warm {G : ms_G} {s U : State} (hW : s.WarmedH U.vm) (h : ms_Kn G s) : ms_Kn G U := by
  refine ⟨va_K.moved hW.alike h.1, va_AO.moved hW.alike h.2.1, fun w hw => ?_⟩
  have h1 := h.2.2 w hw
  have h2 := (List.mem_filter.mp hw).2
  cases w with
  | methodLinkNest a i x b => exact va_Nw.warmM hW h1
  | _ => exact absurd h2 (by simp [ms_isN])
theorem ms_Kn.same {G : ms_G} {s U : State} (hv : s.vm = U.vm) (h : ms_Kn G s) : ms_Kn G U := by
  have ha : s.vm.Alike U.vm := by rw [hv]; exact Vm.Alike.refl _
  refine ⟨va_K.moved ha h.1, va_AO.moved ha h.2.1, fun w hw => ?_⟩
  have h1 := h.2.2 w hw
  have h2 := (List.mem_filter.mp hw).2
  cases w with
  | methodLinkNest a i x b => exact va_Nw.same rfl hv h1
  | _ => exact absurd h2 (by simp [ms_isN])
def ms_Rep (G : ms_G) (s : State) (as0 as : List Nat) (Γ : List ms_Sh) (M : ms_M) (H : Heap) (locs : List Loc) : Prop :=
  as.length = Γ.length ∧ as0 <+: as ∧ ms_Mok Γ M ∧ va_P G.2.1 vwCl (ms_ws G as Γ M) H ∧ va_D (ms_A as0 s.heap.size) (ms_ws G as Γ M) ∧ va_S (ms_A as0 s.heap.size) s.heap H locs
def ms_Ctx (G : ms_G) (y : ms_Y) (d : Nat) (p : Program) (R : Room) (s : State) (m : MethodId) (args : Array Value) (meth : Method) (c : Code) : Prop :=
  p.tables.exec = Jvm.exec ∧ c.code = y.2.1 ∧ c.maxLocals = y.2.2.1 ∧ s.vm.findClass y.1.cls = some m.cls ∧ (∀ w ∈ ms_B, w.before args s = true) ∧ meth.sig.returnType = y.2.2.2 ∧ meth.locks = false ∧ meth.name = y.1.name ∧ ms_Kn G s ∧ d + 2 ≤ R.frames ∧ 64 * d + 128 ≤ R.locals
def ms_ll (as : List Nat) (ls : List ms_V) : List (Nat × Value) := (List.range ls.length).filterMap (fun i => match ls[i]? with
  | some v => if v.1 < 3 then some (i, ms_cv as v) else none
  | none => none)
theorem ms_ll_mem {as : List Nat} {ls : List ms_V} {q : Nat × Value} : q ∈ ms_ll as ls ↔ ∃ v, ls[q.1]? = some v ∧ v.1 < 3 ∧ q.2 = ms_cv as v := by
  unfold ms_ll
  rw [List.mem_filterMap]
  constructor
  · rintro ⟨i, hi, h⟩
    have hi := List.mem_range.mp hi
    rw [List.getElem?_eq_getElem hi] at h
    simp only at h
    by_cases hv : ls[i].1 < 3
    · rw [if_pos hv] at h
      cases h
      exact ⟨ls[i], List.getElem?_eq_getElem hi, hv, rfl⟩
    · rw [if_neg hv] at h
      cases h
  · rintro ⟨v, h1, h2, h3⟩
    refine ⟨q.1, List.mem_range.mpr (List.getElem?_eq_some_iff.mp h1).1, ?_⟩
    rw [h1]
    simp only
    rw [if_pos h2, ← h3]
theorem ms_ll_ext {as as' : List Nat} {ls : List ms_V} (hp : as <+: as') (h : ∀ v ∈ ls, ms_lok as.length v) {slots : Array Slot} {n : Nat} (hl : lv_has slots n (ms_ll as ls)) : lv_has slots n (ms_ll as' ls) := by
  refine ⟨hl.1, hl.2.1, fun q hq => hl.2.2 q ?_⟩
  obtain ⟨v, h1, h2, h3⟩ := ms_ll_mem.mp hq
  exact ms_ll_mem.mpr ⟨v, h1, h2, by rw [h3, ms_cv_ext hp (h v (List.mem_of_getElem? h1) h2)]⟩
def ms_rok (y : ms_Y) (v : ms_V) (i : Instr) : Prop := (v.1 = 0 ∧ i = .ireturn ∧ (y.2.2.2 = some .int ∨ (y.2.2.2 = some .boolean ∧ (v.2 = 0 ∨ v.2 = 1)))) ∨ (v.1 = 1 ∧ i = .lreturn ∧ y.2.2.2 = some .long) ∨ (v = (3, 0) ∧ i = .return_ ∧ y.2.2.2 = none)
def ms_rs (as : List Nat) (v : ms_V) : Option Value := if v.1 < 3 then some (ms_cv as v) else none
def ms_Ret (G : ms_G) (Q : ms_Q) (y : ms_Y) (p : Program) (e : Env) (R : Room) (s : State) (m : MethodId) (args : Array Value) (below : List Frame) (meth : Method) (c : Code) (as0 : List Nat) (mc ms : Nat) (Z : State → Prop) : Prop :=
  ∀ (v : ms_V) (Γ : List ms_Sh) (M : ms_M) (as : List Nat) (H : Heap) (locs : List Loc) (cells slots : Nat) (lsC : Array Slot) (pc : Nat) (i : Instr), Q v Γ M → ms_Rep G s as0 as Γ M H locs → ms_lok Γ.length v → ms_rok y v i → decode y.2.1 pc = .ok (i, 1) → cells ≤ mc → slots ≤ ms → W p G.1 e R s m args below meth c H locs cells slots Z (F0 m pc lsC (ms_rs as v).toList)
/-- from pc on, with these locals, this stack, these cells: the method returns, and Q holds of what it answers and leaves -/
def ms_At (G : ms_G) (Q : ms_Q) (y : ms_Y) (d kc ks pc : Nat) (ls st : List ms_V) (Γ : List ms_Sh) (M : ms_M) : Prop :=
  ∀ (p : Program) (e : Env) (R : Room) (s : State) (m : MethodId) (args : Array Value) (below : List Frame) (meth : Method) (c : Code) (as0 as : List Nat) (H : Heap) (locs : List Loc) (cells slots : Nat) (lsC : Array Slot) (mc ms : Nat) (Z : State → Prop),
    ms_Ctx G y d p R s m args meth c → ms_Ret G Q y p e R s m args below meth c as0 mc ms Z → ms_Rep G s as0 as Γ M H locs → (∀ v ∈ ls, ms_lok Γ.length v) → (∀ v ∈ st, ms_vok Γ.length v) → lv_has lsC y.2.2.1 (ms_ll as ls) → ls.length = y.2.2.1 → cells + kc ≤ mc → slots + ks ≤ ms → mc ≤ R.cells → ms ≤ R.slots →
    W p G.1 e R s m args below meth c H locs cells slots Z (F0 m pc lsC (st.map (ms_cv as)))
def ms_room (d mc ms : Nat) : Room := { frames := d + 2, cells := mc, slots := ms, locals := 64 * d + 128 }
def ms_wd (y : ms_Y) : List Cond := .code y.1 y.2.1 y.2.2.1 y.2.2.2 :: ms_B
def ms_Pc (G : ms_G) (as : List Nat) (sz : Nat) (av : List ms_V) (Γ : List ms_Sh) (M : ms_M) : Array Value → State → Prop := fun v U => v = (av.map (ms_cv as)).toArray ∧ U.heap.size = sz ∧ va_P G.2.1 vwCl (ms_ws G as Γ M) U.heap ∧ ms_Kn G U ∧ va_D (fun _ => True) (ms_ws G as Γ M)
def ms_Qc (G : ms_G) (Q : ms_Q) (as : List Nat) (sz : Nat) : Array Value → State → Outcome → State → Prop := fun _ st oc t =>
  (∃ (v : ms_V) (Γ : List ms_Sh) (M : ms_M) (as' : List Nat), oc = .returned (ms_rs as' v) ∧ Q v Γ M ∧ ms_lok Γ.length v ∧ as'.length = Γ.length ∧ as <+: as' ∧ ms_Mok Γ M ∧ va_P G.2.1 vwCl (ms_ws G as' Γ M) t.heap ∧ va_D (ms_A as sz) (ms_ws G as' Γ M)) ∧ va_F (ms_A as sz) st t
/-- a method's contract: with these arguments and cells, at depth d, making at most mc cells of ms slots, it returns, and Q holds of what it answers and leaves -/
def ms_Call (G : ms_G) (y : ms_Y) (d mc ms : Nat) (av : List ms_V) (Γ : List ms_Sh) (M : ms_M) (Q : ms_Q) : Prop :=
  ∀ (as : List Nat) (sz : Nat), as.length = Γ.length → ms_Mok Γ M → (∀ v ∈ av, ms_vok Γ.length v) → Met G.1 y.1 (ms_wd y) (ms_room d mc ms) (ms_Pc G as sz av Γ M) (ms_Qc G Q as sz) mc ms (ms_A as sz)
def ms_init (n : Nat) (av : List ms_V) : List ms_V := let l := av.flatMap (fun v => if v.1 = 1 then [v, (3, 0)] else [v]); l ++ List.replicate (n - l.length) (3, 0)
