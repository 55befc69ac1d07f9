/-! ===== the law: the call of its own node, its third case ===== -/
theorem nx_w5 : Cond.static yL_node ∈ ms_B := ms_memB 830 (by decide +kernel) (by decide +kernel)
theorem nx_w6 : Cond.methodLink RL 33 yL_node ∈ ms_B := ms_memB 829 (by decide +kernel) (by decide +kernel)
theorem nx_w7 : Cond.initialized RL ∈ ms_B := ms_memB 75 (by decide +kernel) (by decide +kernel)
theorem nx_w8 : Cond.codeWith yL_node cL_node 5 (some .int) nx_h ∈ ms_B := ms_memB 831 (by decide +kernel) (by decide +kernel)
section LWT
variable {E : lw_E} {kc ks pc : Nat} {ls : List (Nat × ms_V)} {st : List ms_V} {Γ : List ms_Sh} {M : ms_M}
theorem lw_sub {ls' : List (Nat × ms_V)} (hsub : ∀ q ∈ ls', q ∈ ls) (K : lw_W E kc ks pc ls' st Γ M) : lw_W E kc ks pc ls st Γ M := by
  intro as H locs cells slots lsC hP hl hs hL g1 g2
  refine K as H locs cells slots lsC hP (fun q hq => hl q (hsub q hq)) hs ⟨hL.1, hL.2.1, fun q hq => hL.2.2 q ?_⟩ g1 g2
  unfold lw_ll at hq ⊢
  rcases List.mem_cons.mp hq with hq | hq
  · rw [hq]; exact List.mem_cons_self
  · obtain ⟨u, hu, rfl⟩ := List.mem_map.mp hq
    exact List.mem_cons_of_mem _ (List.mem_map.mpr ⟨u, hsub u hu, rfl⟩)
theorem lw_Asub {as : List Nat} {H : Heap} {locs : List Loc} (hP : ms_Rep E.G E.s [] as Γ M H locs) : ∀ q, ms_A as H.size q → ms_A [] E.s.heap.size q := by
  obtain ⟨g1, g2, g3, g4, g5, g6⟩ := hP
  intro q hq
  rcases hq with h | h
  · obtain ⟨k, hk1, hk2⟩ := List.getElem_of_mem h
    have hg : Γ[k]? = some (Γ[k]'(by omega)) := List.getElem?_eq_getElem (by omega)
    have h5 := g5.2 k _ (ms_ws_at hg)
    simp only at h5
    rw [List.getD_eq_getElem?_getD, List.getElem?_eq_getElem hk1] at h5
    simp only [Option.getD_some] at h5
    rw [hk2] at h5
    exact h5
  · exact Or.inr (Nat.le_trans g6.1 h)
theorem lw_cs (hE : lw_C E) (hX : nx_K (ms_A [] E.s.heap.size) E.s) {kc' ks' : Nat} {av st' : List ms_V} (hnav : av.length = 4) (hst : st = av.reverse ++ st') (hwt : ms_wt st' ≤ 8) (hk1 : kc' + 1 ≤ kc) (hk2 : ks' + 6 ≤ ks)
    (hcall : nx_Call E.G 49 av Γ M (fun v Γ' M' => v.1 < 3 ∧ lw_W E kc' ks' (301 + 3) ls (v :: st') Γ' M')) : lw_W E kc ks 301 ls st Γ M := by
  subst hst
  intro as H locs cells slots lsC hP hl hs hL g1 g2
  obtain ⟨hx, hb, hml, hown, hts, -, -, -, hKn, hfr, hlo⟩ := id hE.1
  have hs' : ∀ v ∈ st', ms_vok Γ.length v := fun v hv => hs v (List.mem_append_right _ hv)
  have hsa : ∀ v ∈ av, ms_vok Γ.length v := fun v hv => hs v (List.mem_append_left _ (List.mem_reverse.mpr hv))
  have hM := hcall as H.size hP.1 hP.2.2.1 hsa
  have hS := hP.2.2.2.2.2
  have e1 : (av.reverse ++ st').map (ms_cv as) = (av.map (ms_cv as)).reverse ++ st'.map (ms_cv as) := by rw [List.map_append, List.map_reverse]
  rw [e1]
  have hcw : vx_CSW room_1 E.s #[Value.ref E.b] RL 33 yL_node cL_node 5 (some .int) nx_h nx_wd (ms_room 49 1 6) 1 6 4 := by
    refine ⟨⟨rfl, rfl, by show 49 + 2 + 1 ≤ 2048; omega, by show 8 + (5 + 11) + (64 * 49 + 128) ≤ 84000; omega, fun w hw a' U hWU => ?_, List.mem_cons_self⟩, hts _ nx_w8, hts _ nx_w7, ⟨by decide +kernel, by decide +kernel⟩, fun sig h => ?_, hts _ nx_w6, hts _ nx_w5⟩
    · have hwB : w ∈ ms_B := by
        rcases List.mem_cons.mp hw with hw | hw
        · rw [hw]; exact nx_w8
        · exact hw
      exact word_at hWU (good_of_word (List.mem_filter.mp hwB).2) (hts w hwB)
    · have h2 : (parseMethodDescriptor yL_node.desc).map (fun d => d.parameters.length) = some 4 := by decide +kernel
      rw [h] at h2
      exact (Option.some.inj h2).symm
  have hZ : ∀ (C n d : String) (U : State), U.heap = H → E.s.WarmedH U.vm → vx_Zq C n d (ms_A [] E.s.heap.size) E.s E.s.heap → vx_Zq C n d (ms_A as H.size) U U.heap := fun C n d U hU hW hz => by
    rw [hU]
    exact (vx_Zq.moved hW.alike (hz.kept hS.2.1)).narrow (lw_Asub hP)
  have hpre : PreS E.s H (fun v U => ms_Pc E.G as H.size av Γ M v U ∧ nx_K (ms_A as H.size) U) (av.map (ms_cv as)) :=
    ⟨fun a U g mk q => ⟨ms_blind a U g mk q.1, nx_same (s := U) (U := U.calling g mk a) rfl q.2.1, vx_Zq.moved (u := U) (U := U.calling g mk a) (Vm.Alike.refl U.vm) q.2.2.1, vx_Zq.moved (u := U) (U := U.calling g mk a) (Vm.Alike.refl U.vm) q.2.2.2⟩, fun U hU hW => ⟨⟨rfl, by rw [hU], by rw [hU]; exact hP.2.2.2.1, hKn.warm hW, hP.2.2.2.2.1.weaken (fun _ _ _ _ => trivial)⟩, nx_warm hW hX.1, hZ _ _ _ U hU hW hX.2.1, hZ _ _ _ U hU hW hX.2.2⟩⟩
  refine ms_callW (a := (av.map (ms_cv as)).toArray) (vx_runSW (rest := st'.map (ms_cv as)) ⟨hx, hb, hml, hown, hts⟩ hM hcw hpre rfl (by rw [List.length_map]; exact hnav) hL.1 rfl (lv_room (by rw [ms_wt_cat _ hs']; exact hwt)) dL_law_301 ⟨by show cells + 1 ≤ 601024; omega, by show slots + 6 ≤ 7293034; omega⟩) hP (fun v Γ' M' as' H1 locs1 hQ hv hp hP' => ?_)
  have hle := lw_grow hP hP' hp
  have e2 : (ms_rs as' v).toList ++ st'.map (ms_cv as) = (v :: st').map (ms_cv as') := by
    unfold ms_rs
    rw [if_pos hQ.1, List.map_cons]
    have e3 : st'.map (ms_cv as') = st'.map (ms_cv as) := List.map_congr_left (fun u hu => ms_cv_ext hp (by rw [hP.1]; exact hs' u hu))
    rw [e3]
    rfl
  rw [e2]
  refine hQ.2 as' H1 locs1 _ _ lsC hP' (lw_lkm hle hl) (fun u hu => ?_) (lw_lke (by rw [hP.1]; exact hl) hp hL) (by omega) (by omega)
  rcases List.mem_cons.mp hu with hu | hu
  · rw [hu]; exact hv hQ.1
  · exact ms_vok_mono hle (hs' u hu)
end LWT
