/-! ===== the law: a small machine of its own ===== -/
def lw_E : Type := ms_G × Program × Env × State × MethodId × List Frame × Method × Code × Nat × Nat × (Nat → Int32)
abbrev lw_E.G (E : lw_E) : ms_G := E.1
abbrev lw_E.p (E : lw_E) : Program := E.2.1
abbrev lw_E.e (E : lw_E) : Env := E.2.2.1
abbrev lw_E.s (E : lw_E) : State := E.2.2.2.1
abbrev lw_E.m (E : lw_E) : MethodId := E.2.2.2.2.1
abbrev lw_E.below (E : lw_E) : List Frame := E.2.2.2.2.2.1
abbrev lw_E.meth (E : lw_E) : Method := E.2.2.2.2.2.2.1
abbrev lw_E.c (E : lw_E) : Code := E.2.2.2.2.2.2.2.1
abbrev lw_E.b (E : lw_E) : Nat := E.2.2.2.2.2.2.2.2.1
abbrev lw_E.L (E : lw_E) : Nat := E.2.2.2.2.2.2.2.2.2.1
abbrev lw_E.xs (E : lw_E) : (Nat → Int32) := E.2.2.2.2.2.2.2.2.2.2
abbrev lw_E.mk (G : ms_G) (p : Program) (e : Env) (s : State) (m : MethodId) (below : List Frame) (meth : Method) (c : Code) (b L : Nat) (xs : Nat → Int32) : lw_E := (G, p, e, s, m, below, meth, c, b, L, xs)
def lw_C (E : lw_E) : Prop := ms_Ctx E.G (mL_law E.meth.name) 50 E.p room_1 E.s E.m #[Value.ref E.b] E.meth E.c ∧ va_X E.b E.L E.xs E.s E.s.heap ∧ E.b < E.s.heap.size ∧ E.L ≤ 3584
def lw_ll (b : Nat) (as : List Nat) (ls : List (Nat × ms_V)) : List (Nat × Value) := (0, .ref b) :: ls.map (fun q => (q.1, ms_cv as q.2))
def lw_lk (n : Nat) (ls : List (Nat × ms_V)) : Prop := ∀ q ∈ ls, ms_vok n q.2 ∧ q.2.1 ≠ 1
abbrev lw_WW (E : lw_E) (H : Heap) (locs : List Loc) (cells slots : Nat) (g : JFrame) : Prop := W E.p E.G.1 E.e room_1 E.s E.m #[Value.ref E.b] E.below E.meth E.c H locs cells slots (lw_Z E.below #[Value.ref E.b] E.s) g
/-- from pc on, with these locals, this stack, these cells, the law comes to its end with true -/
def lw_W (E : lw_E) (kc ks pc : Nat) (ls : List (Nat × ms_V)) (st : List ms_V) (Γ : List ms_Sh) (M : ms_M) : Prop :=
  ∀ (as : List Nat) (H : Heap) (locs : List Loc) (cells slots : Nat) (lsC : Array Slot), ms_Rep E.G E.s [] as Γ M H locs → lw_lk Γ.length ls → (∀ v ∈ st, ms_vok Γ.length v) → lv_has lsC 7 (lw_ll E.b as ls) → cells + kc ≤ 601024 → slots + ks ≤ 7293034 → lw_WW E H locs cells slots (F0 E.m pc lsC (st.map (ms_cv as)))
section LWR
variable {E : lw_E} {kc ks pc : Nat} {ls : List (Nat × ms_V)} {st : List ms_V} {Γ : List ms_Sh} {M : ms_M}
theorem lw_less {kc' ks' : Nat} (h1 : kc' ≤ kc) (h2 : ks' ≤ ks) (K : lw_W E kc' ks' pc ls st Γ M) : lw_W E kc ks pc ls st Γ M :=
  fun as H locs cells slots lsC hP hl hs hL g1 g2 => K as H locs cells slots lsC hP hl hs hL (by omega) (by omega)
theorem lw_notA (hE : lw_C E) : ¬ ms_A [] E.s.heap.size E.b := fun h => by
  rcases h with h | h
  · exact absurd h List.not_mem_nil
  · have := hE.2.2.1
    omega
theorem lw_get {as : List Nat} {lsC : Array Slot} {n : Nat} {v : ms_V} (hL : lv_has lsC 7 (lw_ll E.b as ls)) (hm : (n, v) ∈ ls) : lsC[n]? = some (.val (ms_cv as v)) := hL.2.2 (n, ms_cv as v) (List.mem_cons_of_mem _ (List.mem_map.mpr ⟨(n, v), hm, rfl⟩))
/-- a step that touches the stack alone -/
theorem lw_stk {pc' : Nat} {st' : List ms_V} (hv : lw_lk Γ.length ls → (∀ v ∈ st, ms_vok Γ.length v) → ∀ v ∈ st', ms_vok Γ.length v)
    (h : ∀ (as : List Nat) (H : Heap) (locs : List Loc) (cells slots : Nat) (lsC : Array Slot), ms_Rep E.G E.s [] as Γ M H locs → lw_lk Γ.length ls → (∀ v ∈ st, ms_vok Γ.length v) → lv_has lsC 7 (lw_ll E.b as ls) → lw_WW E H locs cells slots (F0 E.m pc' lsC (st'.map (ms_cv as))) → lw_WW E H locs cells slots (F0 E.m pc lsC (st.map (ms_cv as)))) (K : lw_W E kc ks pc' ls st' Γ M) : lw_W E kc ks pc ls st Γ M :=
  fun as H locs cells slots lsC hP hl hs hL g1 g2 => h as H locs cells slots lsC hP hl hs hL (K as H locs cells slots lsC hP hl (hv hl hs) hL g1 g2)
theorem lw_ald (hE : lw_C E) {k : Fin 4} {n : Nat} {a : Int} (ha : 0 ≤ a) (hm : (n, ((2, a) : ms_V)) ∈ ls) (hk : (k : Nat) = n) (hd : decode code pc = .ok (.aload_n k, 1)) (K : lw_W E kc ks (pc + 1) ls ((2, a) :: st) Γ M) : lw_W E kc ks pc ls st Γ M := by
  obtain ⟨a, rfl⟩ : ∃ z : Nat, a = (z : Int) := ⟨a.toNat, by omega⟩
  refine lw_stk (fun hl hs v hv => ?_) (fun as H locs cells slots lsC hP hl hs hL w9 => ?_) K
  · rcases List.mem_cons.mp hv with hv | hv
    · rw [hv]; exact (hl _ hm).1
    · exact hs v hv
  · have hg := lw_get hL hm
    rw [ms_cv2] at hg
    rw [List.map_cons, ms_cv2] at w9
    exact lv_aload_n hE.1.1 hE.1.2.1 hd hk hg w9
theorem lw_ild (hE : lw_C E) {n : Nat} {x : Int} (hm : (n, ((0, x) : ms_V)) ∈ ls) (hd : decode code pc = .ok (.iload n, 2)) (K : lw_W E kc ks (pc + 2) ls ((0, x) :: st) Γ M) : lw_W E kc ks pc ls st Γ M := by
  refine lw_stk (fun hl hs v hv => ?_) (fun as H locs cells slots lsC hP hl hs hL w9 => ?_) K
  · rcases List.mem_cons.mp hv with hv | hv
    · rw [hv]; exact (hl _ hm).1
    · exact hs v hv
  · exact lv_iload hE.1.1 hE.1.2.1 hd (lw_get hL hm) w9
theorem lw_ici (hE : lw_C E) {n : Int} (hn : -128 ≤ n ∧ n < 128) (hd : decode code pc = .ok (.iconst n, 1)) (K : lw_W E kc ks (pc + 1) ls ((0, n) :: st) Γ M) : lw_W E kc ks pc ls st Γ M := by
  refine lw_stk (fun hl hs v hv => ?_) (fun as H locs cells slots lsC hP hl hs hL w9 => ?_) K
  · rcases List.mem_cons.mp hv with hv | hv
    · rw [hv]
      show -2147483648 ≤ n ∧ n < 2147483648
      omega
    · exact hs v hv
  · exact lv_iconst hE.1.1 hE.1.2.1 hd rfl w9
theorem lw_vk {x : Int32} {n : Nat} : ms_vok n (0, x.toInt) := by
  have h1 := Int32.le_toInt x
  have h2 := Int32.toInt_lt x
  show -2147483648 ≤ x.toInt ∧ x.toInt < 2147483648
  omega
theorem lw_cvx {as : List Nat} {x : Int32} : ms_cv as (0, x.toInt) = .int x := by
  show Value.int (Int32.ofInt x.toInt) = .int x
  rw [Int32.ofInt_toInt]
theorem lw_elm (hE : lw_C E) {i k q : Nat} (hm : (4, ((0, (i : Int)) : ms_V)) ∈ ls) (hi : i + k < E.L) (d1 : decode code pc = .ok (.aload_n 0, 1)) (d2 : decode code (pc + 1) = .ok (.iload 4, 2)) (d3 : (decode code (pc + 1 + 2) = .ok (.iconst k, 1) ∧ q = pc + 1 + 2 + 1 ∧ Int32.ofInt (k : Int) = Int32.ofNat k) ∨ (decode code (pc + 1 + 2) = .ok (.bipush k, 2) ∧ q = pc + 1 + 2 + 2 ∧ (Int8.ofInt (k : Int)).toInt32 = Int32.ofNat k)) (d4 : decode code q = .ok (.iadd, 1)) (d5 : decode code (q + 1) = .ok (.iaload, 1))
    (K : lw_W E kc ks (q + 1 + 1) ls ((0, (E.xs (i + k)).toInt) :: st) Γ M) : lw_W E kc ks pc ls st Γ M := by
  refine lw_stk (fun hl hs v hv => ?_) (fun as H locs cells slots lsC hP hl hs hL w9 => ?_) K
  · rcases List.mem_cons.mp hv with hv | hv
    · rw [hv]; exact lw_vk
    · exact hs v hv
  · rw [List.map_cons, lw_cvx] at w9
    have h0 : lsC[0]? = some (.val (.ref E.b)) := hL.2.2 (0, .ref E.b) List.mem_cons_self
    refine lw_el (k := k) (q := q) (A := ms_A [] E.s.heap.size) hE.1.1 hE.1.2.1 hE.2.1 hE.2.2.1 (lw_notA hE) hP.2.2.2.2.2 h0 (lw_get hL hm) hi hE.2.2.2 d1 d2 (fun rs kk => ?_) d4 d5 w9
    rcases d3 with ⟨e1, rfl, e3⟩ | ⟨e1, rfl, e3⟩
    · exact lv_iconst hE.1.1 hE.1.2.1 e1 e3 kk
    · exact lv_bipush hE.1.1 hE.1.2.1 e1 e3 kk
theorem lw_grow {as as' : List Nat} {Γ' : List ms_Sh} {M' : ms_M} {H H' : Heap} {locs locs' : List Loc} (hP : ms_Rep E.G E.s [] as Γ M H locs) (hP' : ms_Rep E.G E.s [] as' Γ' M' H' locs') (hp : as <+: as') : Γ.length ≤ Γ'.length := by
  rw [← hP.1, ← hP'.1]
  exact hp.length_le
theorem lw_lke {as as' : List Nat} {lsC : Array Slot} (hl : lw_lk as.length ls) (hp : as <+: as') (hL : lv_has lsC 7 (lw_ll E.b as ls)) : lv_has lsC 7 (lw_ll E.b as' ls) := by
  have e : lw_ll E.b as' ls = lw_ll E.b as ls := by
    unfold lw_ll
    congr 1
    exact List.map_congr_left (fun q hq => by rw [ms_cv_ext hp (hl q hq).1])
  rw [e]
  exact hL
theorem lw_lkm {n n' : Nat} (h : n ≤ n') (hl : lw_lk n ls) : lw_lk n' ls := fun q hq => ⟨ms_vok_mono h (hl q hq).1, (hl q hq).2⟩
/-- a call of the desk or of the model -/
theorem lw_cv (hE : lw_C E) {y' : ms_Y} {ci n mc' ms' idx nb kc' ks' : Nat} {r : vw_C} {av st' : List ms_V} {sh : ms_Sh}
    (hc : vwCl[ci]? = some r) (hC' : y'.1.cls = r.1) (h1 : Cond.methodLink RL idx y'.1 ∈ ms_B) (h2 : Cond.instanceMethod y'.1 ∈ ms_B) (h5 : Cond.selects y'.1.cls y'.1 y'.1 ∈ ms_B) (h3 : Cond.initialized y'.1.cls ∈ ms_B) (h4 : Cond.code y'.1 y'.2.1 y'.2.2.1 y'.2.2.2 ∈ ms_B) (hd' : y'.1.cls ≠ "java/lang/invoke/MethodHandle" ∧ y'.1.cls ≠ "java/lang/invoke/VarHandle" ∧ (parseMethodDescriptor y'.1.desc).map (fun d => d.parameters.length) = some n) (hm : y'.2.2.1 ≤ 45) (hd : decode code pc = .ok (.invokevirtual idx, 3))
    (hg : Γ[nb]? = some sh) (hs1 : sh.1 = ci) (hnav : av.length = n) (hst : st = av.reverse ++ (2, (nb : Int)) :: st') (hwt : ms_wt st' ≤ 8) (hk1 : kc' + mc' ≤ kc) (hk2 : ks' + ms' ≤ ks)
    (hcall : ms_Call E.G y' 49 mc' ms' ((2, (nb : Int)) :: av) Γ M (fun v Γ' M' => v.1 < 3 ∧ lw_W E kc' ks' (pc + 3) ls (v :: st') Γ' M')) : lw_W E kc ks pc ls st Γ M := by
  subst hst
  intro as H locs cells slots lsC hP hl hs hL g1 g2
  have hs' : ∀ v ∈ st', ms_vok Γ.length v := fun v hv => hs v (List.mem_append_right _ (List.mem_cons_of_mem _ hv))
  have e1 : (av.reverse ++ (2, (nb : Int)) :: st').map (ms_cv as) = (av.map (ms_cv as)).reverse ++ .ref (as.getD nb 0) :: st'.map (ms_cv as) := by
    rw [List.map_append, List.map_cons, ms_cv2, List.map_reverse]
  rw [e1]
  refine lw_inv (d := 49) (Q := fun v Γ' M' => v.1 < 3 ∧ lw_W E kc' ks' (pc + 3) ls (v :: st') Γ' M') hc hC' h1 h2 h5 h3 h4 hd' hm hd hE.1 hP hg hs1 (fun v hv => ?_) hnav hL.1 (by rw [ms_wt_cat _ hs']; exact hwt) hcall ⟨by show cells + mc' ≤ 601024; omega, by show slots + ms' ≤ 7293034; omega⟩ (fun v Γ' M' as' H1 locs1 hQ hv hp hP' => ?_)
  · rcases List.mem_cons.mp hv with hv | hv
    · rw [hv]; exact hs _ (List.mem_append_right _ List.mem_cons_self)
    · exact hs v (List.mem_append_left _ (List.mem_reverse.mpr hv))
  · have hle := lw_grow hP hP' hp
    have e2 : (ms_rs as' v).toList ++ st'.map (ms_cv as) = (v :: st').map (ms_cv as') := by
      unfold ms_rs
      rw [if_pos hQ.1, List.map_cons]
      have e3 : st'.map (ms_cv as') = st'.map (ms_cv as) := List.map_congr_left (fun u hu => ms_cv_ext hp (by rw [hP.1]; exact hs' u hu))
      rw [e3]
      rfl
    rw [e2]
    refine hQ.2 as' H1 locs1 _ _ lsC hP' (lw_lkm hle hl) (fun u hu => ?_) (lw_lke (by rw [hP.1]; exact hl) hp hL) (by omega) (by omega)
    rcases List.mem_cons.mp hu with hu | hu
    · rw [hu]; exact hv hQ.1
    · exact ms_vok_mono hle (hs' u hu)
theorem lw_ceq (hE : lw_C E) {x y : Int} {off : Int} {tgt : Nat} (hd : decode code pc = .ok (.if_icmp .eq off, 3)) (ht : (pc : Int) + off = (tgt : Int)) (hxy : x = y) (K : lw_W E kc ks tgt ls st Γ M) : lw_W E kc ks pc ls ((0, y) :: (0, x) :: st) Γ M := by
  refine lw_stk (fun hl hs v hv => hs v (List.mem_cons_of_mem _ (List.mem_cons_of_mem _ hv))) (fun as H locs cells slots lsC hP hl hs hL w9 => ?_) K
  subst hxy
  exact lv_icmp_eq hE.1.1 hE.1.2.1 hd ht (fun _ => w9) (fun q => absurd rfl q)
theorem lw_go (hE : lw_C E) {off : Int} {tgt : Nat} (hd : decode code pc = .ok (.goto off, 3)) (ht : (pc : Int) + off = (tgt : Int)) (K : lw_W E kc ks tgt ls st Γ M) : lw_W E kc ks pc ls st Γ M :=
  lw_stk (fun hl hs => hs) (fun as H locs cells slots lsC hP hl hs hL w9 => lv_goto hE.1.1 hE.1.2.1 hd ht w9) K
end LWR
