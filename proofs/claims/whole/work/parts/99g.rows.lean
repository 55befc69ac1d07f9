/-! ===== the law: more of its rows ===== -/
section LWS
variable {E : lw_E} {kc ks pc : Nat} {ls : List (Nat × ms_V)} {st : List ms_V} {Γ : List ms_Sh} {M : ms_M}
theorem lw_fil {b n N : Nat} {as : List Nat} {lsC : Array Slot} {w : Value} {v : ms_V} (hl : lw_lk N ls) (hn : n ≠ 0) (hw : w = ms_cv as v) (h : lv_has lsC 7 ((n, w) :: (lw_ll b as ls).filter (fun q => !(q.1 == n) && !(q.1 + 1 == n && q.2.category == 2)))) : lv_has lsC 7 (lw_ll b as ((n, v) :: ls.filter (fun q => !(q.1 == n)))) := by
  refine ⟨h.1, h.2.1, fun q hq => h.2.2 q ?_⟩
  unfold lw_ll at hq
  rcases List.mem_cons.mp hq with hq | hq
  · refine List.mem_cons_of_mem _ (List.mem_filter.mpr ⟨by rw [hq]; exact List.mem_cons_self, ?_⟩)
    rw [hq]
    have e1 : ((0 : Nat) == n) = false := by simp; omega
    simp [e1, Value.category]
  · rw [List.map_cons] at hq
    rcases List.mem_cons.mp hq with hq | hq
    · rw [hq, ← hw]
      exact List.mem_cons_self
    · obtain ⟨u, hu, rfl⟩ := List.mem_map.mp hq
      obtain ⟨hu1, hu2⟩ := List.mem_filter.mp hu
      refine List.mem_cons_of_mem _ (List.mem_filter.mpr ⟨List.mem_cons_of_mem _ (List.mem_map.mpr ⟨u, hu1, rfl⟩), ?_⟩)
      have hc : ¬ (ms_cv as u.2).category = 2 := fun q => (hl u hu1).2 ((ms_cat (ms_vok_lt (hl u hu1).1)).mp q)
      simp only [hu2, Bool.true_and]
      simp [hc]
theorem lw_lkf {n : Nat} {N : Nat} {v : ms_V} (hv : ms_vok N v) (hv1 : v.1 ≠ 1) (hl : lw_lk N ls) : lw_lk N ((n, v) :: ls.filter (fun q => !(q.1 == n))) := fun q hq => by
  rcases List.mem_cons.mp hq with hq | hq
  · rw [hq]; exact ⟨hv, hv1⟩
  · exact hl q (List.mem_filter.mp hq).1
theorem lw_ist (hE : lw_C E) {n : Nat} {x : Int} {ls' : List (Nat × ms_V)} (hn : n < 7) (hn0 : n ≠ 0) (hl' : ls.filter (fun q => !(q.1 == n)) = ls') (hd : decode code pc = .ok (.istore n, 2)) (K : lw_W E kc ks (pc + 2) ((n, (0, x)) :: ls') st Γ M) : lw_W E kc ks pc ls ((0, x) :: st) Γ M := by
  subst hl'
  intro as H locs cells slots lsC hP hl hs hL g1 g2
  refine lv_istore (lv := lw_ll E.b as ls) hE.1.1 hE.1.2.1 hd hL hn rfl (fun lsC' hL' => ?_)
  exact K as H locs cells slots lsC' hP (lw_lkf (hs _ List.mem_cons_self) (by simp) hl) (fun v hv => hs v (List.mem_cons_of_mem _ hv)) (lw_fil hl hn0 rfl hL') g1 g2
theorem lw_ast (hE : lw_C E) {k : Fin 4} {n : Nat} {a : Int} {ls' : List (Nat × ms_V)} (ha : 0 ≤ a) (hk : (k : Nat) = n) (hn : n < 7) (hn0 : n ≠ 0) (hl' : ls.filter (fun q => !(q.1 == n)) = ls') (hd : decode code pc = .ok (.astore_n k, 1)) (K : lw_W E kc ks (pc + 1) ((n, (2, a)) :: ls') st Γ M) : lw_W E kc ks pc ls ((2, a) :: st) Γ M := by
  obtain ⟨a, rfl⟩ : ∃ z : Nat, a = (z : Int) := ⟨a.toNat, by omega⟩
  subst hl'
  intro as H locs cells slots lsC hP hl hs hL g1 g2
  rw [List.map_cons, ms_cv2]
  refine lv_astore_n (lv := lw_ll E.b as ls) hE.1.1 hE.1.2.1 hd hk hL hn rfl (fun lsC' hL' => ?_)
  exact K as H locs cells slots lsC' hP (lw_lkf (hs _ List.mem_cons_self) (by simp) hl) (fun v hv => hs v (List.mem_cons_of_mem _ hv)) (lw_fil hl hn0 ms_cv2.symm hL') g1 g2
theorem lw_inc (hE : lw_C E) {n i j : Nat} {ls' : List (Nat × ms_V)} (hm : (n, ((0, (i : Int)) : ms_V)) ∈ ls) (hn : n < 7) (hn0 : n ≠ 0) (hij : i + j < 2147483648) (hl' : ls.filter (fun q => !(q.1 == n)) = ls') (hd : decode code pc = .ok (.iinc n (j : Int), 3)) (K : lw_W E kc ks (pc + 3) ((n, (0, ((i + j : Nat) : Int))) :: ls') st Γ M) : lw_W E kc ks pc ls st Γ M := by
  subst hl'
  intro as H locs cells slots lsC hP hl hs hL g1 g2
  have hmem : (n, ms_cv as (0, (i : Int))) ∈ lw_ll E.b as ls := List.mem_cons_of_mem _ (List.mem_map.mpr ⟨(n, (0, (i : Int))), hm, rfl⟩)
  obtain ⟨k, hk⟩ := List.getElem?_of_mem hmem
  refine lv_iinc (lv := lw_ll E.b as ls) (k := k) (x := Int32.ofInt (i : Int)) (v := Int32.ofInt ((i + j : Nat) : Int)) hE.1.1 hE.1.2.1 hd hL hk ?_ hn rfl (fun lsC' hL' => ?_)
  · rw [← Int32.ofInt_add]
    rfl
  · refine K as H locs cells slots lsC' hP (lw_lkf ?_ (by simp) hl) hs (lw_fil hl hn0 rfl hL') g1 g2
    show -2147483648 ≤ ((i + j : Nat) : Int) ∧ ((i + j : Nat) : Int) < 2147483648
    omega
theorem lw_leq (hE : lw_C E) {x y : Int} {off : Int} {tgt : Nat} (hd : decode code pc = .ok (.lcmp, 1)) (hd2 : decode code (pc + 1) = .ok (.ifCond .eq off, 3)) (ht : ((pc + 1 : Nat) : Int) + off = (tgt : Int)) (hxy : x = y) (K : lw_W E kc ks tgt ls st Γ M) : lw_W E kc ks pc ls ((1, y) :: (1, x) :: st) Γ M := by
  refine lw_stk (fun hl hs v hv => hs v (List.mem_cons_of_mem _ (List.mem_cons_of_mem _ hv))) (fun as H locs cells slots lsC hP hl hs hL w9 => ?_) K
  subst hxy
  refine W.lcmp (x := Int64.ofInt x) (y := Int64.ofInt x) (rest := st.map (ms_cv as)) hE.1.1 hE.1.2.1 hd ?_
  have e : lg_cmp (Int64.ofInt x) (Int64.ofInt x) = 0 := by
    unfold lg_cmp
    rw [if_neg (fun q => by
      have q : Int64.ofInt x < Int64.ofInt x := q
      rw [Int64.lt_iff_toInt_lt] at q
      omega), if_pos rfl]
  rw [e]
  exact lv_if_eq hE.1.1 hE.1.2.1 hd2 ht (fun _ => w9) (fun q => absurd rfl q)
theorem lw_i2l (hE : lw_C E) {x : Int} (hd : decode code pc = .ok (.i2l, 1)) (K : lw_W E kc ks (pc + 1) ls ((1, x) :: st) Γ M) : lw_W E kc ks pc ls ((0, x) :: st) Γ M := by
  refine lw_stk (fun hl hs v hv => ?_) (fun as H locs cells slots lsC hP hl hs hL w9 => ?_) K
  · have h0 : -2147483648 ≤ x ∧ x < 2147483648 := hs _ List.mem_cons_self
    rcases List.mem_cons.mp hv with hv | hv
    · rw [hv]
      show -9223372036854775808 ≤ x ∧ x < 9223372036854775808
      omega
    · exact hs v (List.mem_cons_of_mem _ hv)
  · have h0 : -2147483648 ≤ x ∧ x < 2147483648 := hs _ List.mem_cons_self
    refine lv_i2l (x := Int32.ofInt x) (v := Int64.ofInt x) hE.1.1 hE.1.2.1 hd ?_ w9
    rw [← Int64.toInt_inj, Int32.toInt_toInt64, w32_toInt h0, w64_toInt (by omega)]
theorem lw_iif (hE : lw_C E) {x : Int} {off : Int} {tgt : Nat} (hd : decode code pc = .ok (.ifCond .ne off, 3)) (ht : (pc : Int) + off = (tgt : Int)) (h1 : ¬ x = 0 → lw_W E kc ks tgt ls st Γ M) (h0 : x = 0 → lw_W E kc ks (pc + 3) ls st Γ M) : lw_W E kc ks pc ls ((0, x) :: st) Γ M := by
  intro as H locs cells slots lsC hP hl hs hL g1 g2
  have hr : -2147483648 ≤ x ∧ x < 2147483648 := hs _ List.mem_cons_self
  have hs' : ∀ v ∈ st, ms_vok Γ.length v := fun v hv => hs v (List.mem_cons_of_mem _ hv)
  refine lv_if_ne (x := Int32.ofInt x) (rest := st.map (ms_cv as)) hE.1.1 hE.1.2.1 hd ht (fun q => ?_) (fun q => ?_)
  · exact h1 (fun z => q (by rw [z]; rfl)) as H locs cells slots lsC hP hl hs' hL g1 g2
  · refine h0 ?_ as H locs cells slots lsC hP hl hs' hL g1 g2
    have q2 := congrArg Int32.toInt q
    rw [w32_toInt hr] at q2
    exact q2
theorem lw_out (hE : lw_C E) {n : Nat} {sh : ms_Sh} (hg : Γ[n]? = some sh) (hs1 : sh.1 = 101) (hs2 : 0 < sh.2) (hd : decode code pc = .ok (.laload, 1)) (K : lw_W E kc ks (pc + 1) ls ((1, M n 0) :: st) Γ M) : lw_W E kc ks pc ls ((0, 0) :: (2, (n : Int)) :: st) Γ M := by
  intro as H locs cells slots lsC hP hl hs hL g1 g2
  obtain ⟨f1, f2, f3, f4, f5, f6⟩ := id hP
  rw [List.map_cons, List.map_cons, ms_cv2]
  refine va_lald (f := fun j => Int64.ofInt (M n j)) hE.1.1 hE.1.2.1 hE.1.2.2.2.2.2.2.2.2.1.1 f4 n 1 (by rw [ms_ws_at hg, ms_cell_l hs1]) (ms_tysat E.G).2.1 (i := Int32.ofInt 0) (w32_vin (by omega) (by omega) (by omega)) hd ?_
  rw [w32_clamp (by omega)]
  refine K as H locs cells slots lsC hP hl (fun v hv => ?_) hL g1 g2
  rcases List.mem_cons.mp hv with hv | hv
  · rw [hv]
    have := (f3 n sh hg).2.1 0 hs2
    unfold ms_eok at this
    rw [if_neg (by omega), if_pos hs1] at this
    exact this
  · exact hs v (List.mem_cons_of_mem _ (List.mem_cons_of_mem _ hv))
end LWS
