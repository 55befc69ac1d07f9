/-! ===== the law: its entry's rows, its head, its switch ===== -/
section LWN
variable {E : lw_E} {kc ks pc : Nat} {ls : List (Nat × ms_V)} {st : List ms_V} {Γ : List ms_Sh} {M : ms_M}
theorem lw_push {pc' q cells slots : Nat} {sh : ms_Sh} {f : Int → Int} {as : List Nat} {H H1 : Heap} {locs : List Loc} {lsC : Array Slot} (hP : ms_Rep E.G E.s [] as Γ M H locs) (hl : lw_lk Γ.length ls) (hs : ∀ v ∈ st, ms_vok Γ.length v) (hL : lv_has lsC 7 (lw_ll E.b as ls)) (g1 : cells + kc ≤ 601024) (g2 : slots + ks ≤ 7293034)
    (hsh : ms_shok sh) (hf : ∀ j : Nat, j < sh.2 → ms_eok (Γ.length + 1) sh j (f j)) (hf4 : sh.1 = 104 → ∀ j : Nat, f j < ((Γ.length + 1 : Nat) : Int))
    (hP1 : va_P E.G.2.1 vwCl (ms_ws E.G as Γ M ++ [(q, ms_cell E.G (as ++ [q]) (ms_nw M Γ.length f) Γ.length sh)]) H1) (hD1 : va_D (ms_A [] E.s.heap.size) (ms_ws E.G as Γ M ++ [(q, ms_cell E.G (as ++ [q]) (ms_nw M Γ.length f) Γ.length sh)])) (hS1 : va_S (ms_A [] E.s.heap.size) E.s.heap H1 locs)
    (K : lw_W E kc ks pc' ls ((2, (Γ.length : Int)) :: st) (Γ ++ [sh]) (ms_nw M Γ.length f)) : lw_WW E H1 locs cells slots (F0 E.m pc' lsC (.ref q :: st.map (ms_cv as))) := by
  obtain ⟨f1, f2, f3, f4, f5, f6⟩ := hP
  have hpre : as <+: as ++ [q] := List.prefix_append as [q]
  have hw := ms_ws_push (G := E.G) (q := q) (sh := sh) (M' := ms_nw M Γ.length f) f1 f3 (fun i j hi => ms_nw_ne (by omega))
  rw [← hw] at hP1 hD1
  have hlen : (Γ ++ [sh]).length = Γ.length + 1 := by simp
  have e1 : ((2, (Γ.length : Int)) :: st).map (ms_cv (as ++ [q])) = .ref q :: st.map (ms_cv as) := by
    rw [List.map_cons, ms_cv2]
    have e2 : (as ++ [q]).getD Γ.length 0 = q := by rw [← f1]; simp
    rw [e2]
    congr 1
    exact List.map_congr_left (fun v hv => ms_cv_ext hpre (by rw [f1]; exact hs v hv))
  rw [← e1]
  refine K (as ++ [q]) H1 locs cells slots lsC ⟨by rw [hlen, List.length_append, f1]; rfl, f2.trans hpre, ms_Mok_push f3 hsh hf hf4, hP1, hD1, hS1⟩ (lw_lkm (by rw [hlen]; omega) hl) (fun v hv => ?_) (lw_lke (by rw [f1]; exact hl) hpre hL) g1 g2
  rw [hlen]
  rcases List.mem_cons.mp hv with hv | hv
  · rw [hv]
    show (Γ.length : Int) < ((Γ.length + 1 : Nat) : Int)
    omega
  · exact ms_vok_mono (Nat.le_succ _) (hs v hv)
theorem lw_new (hE : lw_C E) {ci N idx kc' ks' : Nat} {r : vw_C} (hc : vwCl[ci]? = some r) (hN : r.2.2 = N) (hpl : ∀ j, j < N → ms_plain (ms_ty ci j) = true) (hcl : Cond.classLink RL idx r.1 ∈ ms_B) (hin : Cond.instantiable r.1 N ∈ ms_B) (hini : Cond.initialized r.1 ∈ ms_B) (hd : decode code pc = .ok (.new idx, 3)) (hk1 : kc' + 1 ≤ kc) (hk2 : ks' + N ≤ ks)
    (K : lw_W E kc' ks' (pc + 3) ls ((2, (Γ.length : Int)) :: st) (Γ ++ [(ci, N)]) (ms_nw M Γ.length (ms_df ci))) : lw_W E kc ks pc ls st Γ M := by
  intro as H locs cells slots lsC hP hl hs hL g1 g2
  obtain ⟨hx, hb, hml, hw, hts, -, -, -, hKn, -⟩ := id hE.1
  obtain ⟨f1, f2, f3, f4, f5, f6⟩ := id hP
  subst hN
  have hci := ms_cls_lt hc
  refine va_new (fs := (List.range r.2.2).map (fun j => defaultValue (ms_ty ci j))) hx hb hts (ms_in ci r hc) (ms_ty ci) (ms_tyok ci r hc) hw (hts _ hcl) (hts _ hin) (hts _ hini) hKn.1 f4 f5 f6 (fun q hq => Or.inr hq) hc (fun j hj => ?_) (by show cells + 1 ≤ 601024; omega) (by show slots + r.2.2 ≤ 7293034; omega) hd (fun q H1 hP1 hD1 hS1 => ?_)
  · unfold vp_V
    rw [List.getD_eq_getElem?_getD, List.getElem?_map, List.getElem?_range hj]
    rfl
  · have hcell : ms_cell E.G (as ++ [q]) (ms_nw M Γ.length (ms_df ci)) Γ.length (ci, r.2.2) = .inr (ci, (List.range r.2.2).map (fun j => defaultValue (ms_ty ci j))) := by
      rw [ms_cell_obj rfl (by omega)]
      have e2 : ms_fs (as ++ [q]) (ms_nw M Γ.length (ms_df ci)) Γ.length ci r.2.2 = (List.range r.2.2).map (fun j => defaultValue (ms_ty ci j)) := by
        unfold ms_fs
        apply List.map_congr_left
        intro j hj
        rw [ms_nw_same]
        show ms_cv _ (ms_tg (ms_ty ci j), if ms_tg (ms_ty ci ((j : Nat) : Int).toNat) = 2 then -1 else 0) = _
        rw [Int.toNat_natCast]
        exact ms_dv (hpl j (List.mem_range.mp hj))
      rw [e2]
    rw [← hcell] at hP1 hD1
    refine lw_push (kc := kc') (ks := ks') hP hl hs hL (by omega) (by omega) ⟨fun _ => ⟨r, hc, rfl⟩, by show ci < 105; omega⟩ (fun j hj => ?_) (fun q => by simp only at q; omega) hP1 hD1 hS1 K
    unfold ms_eok
    rw [if_pos (by show ci < 100; omega)]
    show ms_vok _ (ms_tg (ms_ty ci j), if ms_tg (ms_ty ci ((j : Nat) : Int).toNat) = 2 then -1 else 0)
    rw [Int.toNat_natCast]
    have hp := hpl j hj
    cases hty : ms_ty ci j with
    | int => show (-2147483648 : Int) ≤ 0 ∧ (0 : Int) < 2147483648; omega
    | object _ => show (-1 : Int) < _; omega
    | array _ => show (-1 : Int) < _; omega
    | _ => rw [hty] at hp; cases hp
theorem lw_newl (hE : lw_C E) {kc' ks' : Nat} (hw : Cond.arrayClass (newarray.typeOf .long) ∈ ms_B) (hd : decode code pc = .ok (.newarray .long, 2)) (hk1 : kc' + 1 ≤ kc) (hk2 : ks' + 1 ≤ ks)
    (K : lw_W E kc' ks' (pc + 2) ls ((2, (Γ.length : Int)) :: st) (Γ ++ [(101, 1)]) (ms_nw M Γ.length (fun _ => 0))) : lw_W E kc ks pc ls ((0, 1) :: st) Γ M := by
  intro as H locs cells slots lsC hP hl hs hL g1 g2
  obtain ⟨hx, hb, hml, hown, hts, -, -, -, hKn, -⟩ := id hE.1
  obtain ⟨f1, f2, f3, f4, f5, f6⟩ := id hP
  have hs' : ∀ v ∈ st, ms_vok Γ.length v := fun v hv => hs v (List.mem_cons_of_mem _ hv)
  refine va_newa (atype := .long) (ty := .long) (n := Int32.ofInt 1) (a0 := (1, .inr (.inl (fun _ => 0)))) (N' := 1) hx hb (hts _ hw) rfl hKn.1 f4 f5 f6 (fun q hq => Or.inr hq) (fun _ => rfl) (by decide) (by decide) (by decide) (by show cells + 1 ≤ 601024; omega) (by show slots + 1 ≤ 7293034; omega) hd (fun q cA H1 hK1 hP1 hD1 hS1 => ?_)
  have e1 : E.s.vm.findClass ("[" ++ (FieldType.long).toString) = some cA := (hK1.2 (ms_tys E.G).length (cA, .long) (by simp)).2
  have e2 : E.s.vm.findClass ("[" ++ (FieldType.long).toString) = some (E.G.2.2 1) := (hKn.1.2 1 _ (ms_tysat E.G).2.1).2
  have e3 : cA = E.G.2.2 1 := Option.some.inj (e1.symm.trans e2)
  subst e3
  have hcell : ms_cell E.G (as ++ [q]) (ms_nw M Γ.length (fun _ => 0)) Γ.length (101, 1) = .inl (E.G.2.2 1, (1, .inr (.inl (fun _ => 0)))) := by
    rw [ms_cell_l rfl]
    simp only [ms_nw_same]
    rfl
  rw [← hcell] at hP1 hD1
  refine lw_push (kc := kc') (ks := ks') hP hl hs' hL (by omega) (by omega) ⟨fun q => by simp only at q; omega, by show 101 < 105; omega⟩ (fun j hj => ?_) (fun q => by simp only at q; omega) hP1 hD1 hS1 K
  unfold ms_eok
  simp
theorem lw_dup (hE : lw_C E) {v : ms_V} (hv1 : v.1 ≠ 1) (hd : decode code pc = .ok (.dup, 1)) (K : lw_W E kc ks (pc + 1) ls (v :: v :: st) Γ M) : lw_W E kc ks pc ls (v :: st) Γ M := by
  refine lw_stk (fun hl hs u hu => ?_) (fun as H locs cells slots lsC hP hl hs hL w9 => ?_) K
  · rcases List.mem_cons.mp hu with hu | hu
    · rw [hu]; exact hs _ List.mem_cons_self
    · exact hs u hu
  · refine lv_dup hE.1.1 hE.1.2.1 hd ?_ w9
    have hv := ms_vok_lt (hs v List.mem_cons_self)
    obtain ⟨t, x⟩ := v
    match t, hv, hv1 with
    | 0, _, _ => rfl
    | 2, _, _ =>
      have e : ms_cv as (2, x) = va_rf (ms_ro as x) := rfl
      rw [e]
      cases ms_ro as x <;> rfl
/-- a constructor's call -/
theorem lw_ci (hE : lw_C E) {y' : ms_Y} {mc' ms' idx nb kc' ks' : Nat} {st' : List ms_V}
    (hret : y'.2.2.2 = none) (hy1 : y'.1.name = "<init>") (h1 : Cond.methodLink RL idx y'.1 ∈ ms_B) (h2 : Cond.instanceMethod y'.1 ∈ ms_B) (h3 : Cond.initialized y'.1.cls ∈ ms_B) (h4 : Cond.code y'.1 y'.2.1 y'.2.2.1 y'.2.2.2 ∈ ms_B) (hd' : y'.1.cls ≠ "java/lang/invoke/MethodHandle" ∧ y'.1.cls ≠ "java/lang/invoke/VarHandle" ∧ (parseMethodDescriptor y'.1.desc).map (fun d => d.parameters.length) = some 0) (hm : y'.2.2.1 ≤ 45) (hd : decode code pc = .ok (.invokespecial idx, 3))
    (hst : st = (2, (nb : Int)) :: st') (hwt : ms_wt st' ≤ 8) (hk1 : kc' + mc' ≤ kc) (hk2 : ks' + ms' ≤ ks)
    (hcall : ms_Call E.G y' 49 mc' ms' [(2, (nb : Int))] Γ M (fun v Γ' M' => ¬ v.1 < 3 ∧ lw_W E kc' ks' (pc + 3) ls st' Γ' M')) : lw_W E kc ks pc ls st Γ M := by
  subst hst
  intro as H locs cells slots lsC hP hl hs hL g1 g2
  obtain ⟨hx, hb, hml, hown, hts, -, -, -, hKn, hfr, hlo⟩ := id hE.1
  have hs' : ∀ v ∈ st', ms_vok Γ.length v := fun v hv => hs v (List.mem_cons_of_mem _ hv)
  have hsa : ∀ v ∈ [((2, (nb : Int)) : ms_V)], ms_vok Γ.length v := fun v hv => hs v (by rw [List.mem_singleton.mp hv]; exact List.mem_cons_self)
  have hM := hcall as H.size hP.1 hP.2.2.1 hsa
  have hcb := callB_of (R := room_1) (ret := y'.2.2.2) 0 hts (ms_good h4) (rm := ms_room 49 mc' ms') rfl rfl rfl (hts _ h3) (hts _ h1) hd' ⟨by show 49 + 2 + 1 ≤ 2048; omega, by show 8 + (y'.2.2.1 + 11) + (64 * 49 + 128) ≤ 84000; omega⟩
  rw [hret] at hcb
  rw [List.map_cons, ms_cv2]
  refine ms_callW (a := [Value.ref (as.getD nb 0)].toArray) (va_runI (b := as.getD nb 0) (As := []) (rest := st'.map (ms_cv as)) ⟨hx, hb, hml, hown, hts⟩ hM ⟨hcb, hy1, hts _ h2⟩ ⟨ms_blind, fun U hU hW => ⟨by rw [List.map_cons, ms_cv2]; rfl, by rw [hU], by rw [hU]; exact hP.2.2.2.1, hKn.warm hW, hP.2.2.2.2.1.weaken (fun _ _ _ _ => trivial)⟩⟩ rfl rfl hL.1 rfl (lv_room (by rw [ms_wt_cat _ hs']; exact hwt)) hd ⟨by show cells + mc' ≤ 601024; omega, by show slots + ms' ≤ 7293034; omega⟩) hP (fun v Γ' M' as' H1 locs1 hQ hv hp hP' => ?_)
  have hle := lw_grow hP hP' hp
  have e2 : (ms_rs as' v).toList ++ st'.map (ms_cv as) = st'.map (ms_cv as') := by
    unfold ms_rs
    rw [if_neg hQ.1]
    show st'.map (ms_cv as) = _
    exact (List.map_congr_left (fun u hu => ms_cv_ext hp (by rw [hP.1]; exact hs' u hu))).symm
  rw [e2]
  exact hQ.2 as' H1 locs1 _ _ lsC hP' (lw_lkm hle hl) (fun u hu => ms_vok_mono hle (hs' u hu)) (lw_lke (by rw [hP.1]; exact hl) hp hL) (by omega) (by omega)
/-- the loop's test -/
theorem lw_head (hE : lw_C E) {i : Nat} (hm : (4, ((0, (i : Int)) : ms_V)) ∈ ls) (hi : i < 4000) (K1 : i + 7 ≤ E.L → lw_W E kc ks 33 ls st Γ M) (K0 : ¬ i + 7 ≤ E.L → lw_W E kc ks 1205 ls st Γ M) : lw_W E kc ks 23 ls st Γ M := by
  refine lw_ild hE hm dL_law_23 ?_
  intro as H locs cells slots lsC hP hl hs hL g1 g2
  have hLL := hE.2.2.2
  have hs' : ∀ v ∈ st, ms_vok Γ.length v := fun v hv => hs v (List.mem_cons_of_mem _ hv)
  have h0 : lsC[0]? = some (.val (.ref E.b)) := hL.2.2 (0, .ref E.b) List.mem_cons_self
  rw [List.map_cons]
  refine lv_aload_n hE.1.1 hE.1.2.1 dL_law_25 rfl h0 ?_
  refine va_slen hE.1.1 hE.1.2.1 hE.2.1 hE.2.2.1 (lw_notA hE) hP.2.2.2.2.2 dL_law_26 ?_
  refine lv_bipush (v := 7) hE.1.1 hE.1.2.1 dL_law_27 rfl ?_
  refine lv_isub hE.1.1 hE.1.2.1 dL_law_29 ?_
  have e1 : Int32.ofNat E.L - 7 = Int32.ofInt ((E.L : Int) - 7) := by
    rw [Int32.ofInt_sub]
    rfl
  rw [e1]
  refine lv_icmp_gt (x := Int32.ofInt (i : Int)) (y := Int32.ofInt ((E.L : Int) - 7)) (tgt := 1205) hE.1.1 hE.1.2.1 dL_law_30 rfl (fun q => ?_) (fun q => ?_)
  · rw [w32_lt (by omega) (by omega)] at q
    exact K0 (by omega) as H locs cells slots lsC hP hl hs' hL g1 g2
  · rw [w32_lt (by omega) (by omega)] at q
    exact K1 (by omega) as H locs cells slots lsC hP hl hs' hL g1 g2
/-- the number of the call -/
theorem lw_key (hE : lw_C E) {i : Nat} (hm : (4, ((0, (i : Int)) : ms_V)) ∈ ls) (hi : i < E.L) (K : ∀ x : Int, lw_W E kc ks 40 ls ((0, x) :: st) Γ M) : lw_W E kc ks 33 ls st Γ M := by
  intro as H locs cells slots lsC hP hl hs hL g1 g2
  have hLL := hE.2.2.2
  have h0 : lsC[0]? = some (.val (.ref E.b)) := hL.2.2 (0, .ref E.b) List.mem_cons_self
  refine lv_aload_n hE.1.1 hE.1.2.1 dL_law_33 rfl h0 ?_
  refine lv_iload (x := Int32.ofInt (i : Int)) hE.1.1 hE.1.2.1 dL_law_34 (lw_get hL hm) ?_
  have hr : -2147483648 ≤ (i : Int) ∧ (i : Int) < 2147483648 := by omega
  refine va_sld hE.1.1 hE.1.2.1 hE.2.1 hE.2.2.1 (lw_notA hE) hP.2.2.2.2.2 (w32_vin hr (by omega) (by omega)) dL_law_36 ?_
  refine lv_bipush (v := 31) hE.1.1 hE.1.2.1 dL_law_37 rfl ?_
  refine lv_iand hE.1.1 hE.1.2.1 dL_law_39 ?_
  have hk := K (E.xs (Int32.ofInt (i : Int)).toNatClampNeg &&& 31).toInt as H locs cells slots lsC hP hl (fun v hv => ?_) hL g1 g2
  · rw [List.map_cons, lw_cvx] at hk
    exact hk
  · rcases List.mem_cons.mp hv with hv | hv
    · rw [hv]; exact lw_vk
    · exact hs v hv
end LWN
