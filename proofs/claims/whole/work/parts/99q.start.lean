/-! ===== the law: its loop, its end, its start ===== -/
theorem lw_ins : ∀ (ci : Nat) (r : vw_C), vwCl[ci]? = some r → Cond.instantiable r.1 r.2.2 ∈ lw_tbl := by
  intro ci r h
  match ci, h with
  | 0, h => cases h; exact List.mem_of_getElem? (i := 296) (by decide +kernel)
  | 1, h => cases h; exact List.mem_of_getElem? (i := 277) (by decide +kernel)
  | 2, h => cases h; exact List.mem_of_getElem? (i := 191) (by decide +kernel)
  | 3, h => cases h; exact List.mem_of_getElem? (i := 156) (by decide +kernel)
  | 4, h => cases h; exact List.mem_of_getElem? (i := 105) (by decide +kernel)
  | 5, h => cases h; exact List.mem_of_getElem? (i := 311) (by decide +kernel)
  | 6, h => cases h; exact List.mem_of_getElem? (i := 176) (by decide +kernel)
  | 7, h => cases h; exact List.mem_of_getElem? (i := 202) (by decide +kernel)
  | 8, h => cases h; exact List.mem_of_getElem? (i := 218) (by decide +kernel)
  | 9, h => cases h; exact List.mem_of_getElem? (i := 224) (by decide +kernel)
  | 10, h => cases h; exact List.mem_of_getElem? (i := 267) (by decide +kernel)
  | 11, h => cases h; exact List.mem_of_getElem? (i := 97) (by decide +kernel)
  | 12, h => cases h; exact List.mem_of_getElem? (i := 915) (by decide +kernel)
theorem lw_a0 : Cond.arrayClass .int ∈ lw_tbl := List.mem_of_getElem? (i := 153) (by decide +kernel)
theorem lw_a1 : Cond.arrayClass .long ∈ lw_tbl := List.mem_of_getElem? (i := 200) (by decide +kernel)
theorem lw_a2 : Cond.arrayClass .byte ∈ lw_tbl := List.mem_of_getElem? (i := 216) (by decide +kernel)
theorem lw_a3 : Cond.arrayClass .boolean ∈ lw_tbl := List.mem_of_getElem? (i := 174) (by decide +kernel)
theorem lw_a4 : Cond.arrayOver (.object RX4) ∈ lw_tbl := List.mem_of_getElem? (i := 154) (by decide +kernel)
theorem lw_n0 : Cond.castable nx_N nx_N ∈ lw_tbl := List.mem_of_getElem? (i := 839) (by decide +kernel)
theorem lw_n1 : Cond.declares (Bundle.init0 "java/lang/RuntimeException") ∈ lw_tbl := List.mem_of_getElem? (i := 840) (by decide +kernel)
theorem lw_n2 : Cond.declares (Bundle.init0 "java/lang/Exception") ∈ lw_tbl := List.mem_of_getElem? (i := 842) (by decide +kernel)
theorem lw_n3 : Cond.declares (Bundle.init0 Bundle.tN) ∈ lw_tbl := List.mem_of_getElem? (i := 844) (by decide +kernel)
theorem lw_n4 : Cond.laysStatic Bundle.tN "UNASSIGNED_STACK" Bundle.steD ∈ lw_tbl := List.mem_of_getElem? (i := 864) (by decide +kernel)
theorem lw_n5 : Cond.laysStatic Bundle.tN "SUPPRESSED_SENTINEL" Bundle.listD ∈ lw_tbl := List.mem_of_getElem? (i := 866) (by decide +kernel)
theorem lw_n6 : Cond.initialized Bundle.tN ∈ lw_tbl := List.mem_of_getElem? (i := 92) (by decide +kernel)
/-- the classes and array classes of a state, by numbers -/
theorem lw_kn {l : Launch} {s : State} {a : Array Value} (hts : ∀ w ∈ lw_tbl, w.before a s = true) : ∃ G : ms_G, G.1 = l ∧ ms_Kn G s := by
  have h1 : ∀ c : Nat, ∃ D : ClassId × (Nat → Nat), ∀ q : vw_C, vwCl[c]? = some q → u_Kn s q.1 q.2.1 q.2.2 D.1 D.2 := by
    intro c
    cases hc : vwCl[c]? with
    | none => exact ⟨(0, fun _ => 0), fun q hq => by cases hq⟩
    | some q =>
      obtain ⟨cC, iS, h⟩ := u_known (ws := ms_B) (fun w hw => hts w (List.mem_filter.mp hw).1) (ms_in c q hc) (hts _ (lw_ins c q hc))
      exact ⟨(cC, iS), fun q' hq' => by cases hq'; exact h⟩
  have ha : ∀ ty : FieldType, (Cond.arrayClass ty).before a s = true → ∃ c : ClassId, ArrOfT s c ty ∧ s.vm.findClass ("[" ++ ty.toString) = some c := by
    intro ty h
    obtain ⟨c, k, comp, e1, e2, e3⟩ := Cond.arrayClass_spec h
    exact ⟨c, fun n z => ⟨fun k9 h9 => (by cases h9), k, e2, comp, e3⟩, e1⟩
  obtain ⟨c0, i1, i2⟩ := ha .int (hts _ lw_a0)
  obtain ⟨c1, l1, l2⟩ := ha .long (hts _ lw_a1)
  obtain ⟨c2, b1, b2⟩ := ha .byte (hts _ lw_a2)
  obtain ⟨c3, z1, z2⟩ := ha .boolean (hts _ lw_a3)
  have hao : va_AO RX4 s := va_AO.of (hts _ lw_a4)
  obtain ⟨comp, c4, k4, e1, e2, e3, e4, e5⟩ := Cond.arrayOver_spec hao
  refine ⟨(l, (fun c => (Classical.choose (h1 c)).1, fun c => (Classical.choose (h1 c)).2), fun t => if t = 0 then c0 else if t = 1 then c1 else if t = 2 then c2 else if t = 3 then c3 else c4), rfl, ⟨fun c q hq => Classical.choose_spec (h1 c) q hq, fun k q hk => ?_⟩, hao, fun w hw => ?_⟩
  · unfold ms_tys at hk
    match k, hk with
    | 0, hk => cases hk; exact ⟨i1, i2⟩
    | 1, hk => cases hk; exact ⟨l1, l2⟩
    | 2, hk => cases hk; exact ⟨b1, b2⟩
    | 3, hk => cases hk; exact ⟨z1, z2⟩
    | 4, hk => cases hk; exact ⟨fun n z => ⟨fun k9 h9 => (by cases h9), k4, e3, comp, e4⟩, k4, comp, e3, e4, e1, e5⟩
  · have h2 := (List.mem_filter.mp hw).2
    have h3 := hts w (List.mem_filter.mp hw).1
    cases w with
    | methodLinkNest a i x b => exact va_Nw.of rfl h3
    | _ => exact absurd h2 (by simp [ms_isN])
section LWL
variable {E : lw_E} {Γ : List ms_Sh} {M : ms_M} {S : pw_S}
theorem lw_end (hE : lw_C E) {ls : List (Nat × ms_V)} {kc ks : Nat} : lw_W E kc ks 1205 ls [] Γ M := by
  intro as H locs cells slots lsC hP hl hs hL g1 g2
  refine lv_iconst (v := 1) hE.1.1 hE.1.2.1 dL_law_1205 rfl ?_
  refine va_forget (fun q hq => ?_) ?_
  · rcases hP.2.2.2.2.2.2.2 q hq with h | h
    · exact absurd h List.not_mem_nil
    · exact h
  · refine W.widen (k := 601024) (n := 7293034) (by omega) (by omega) ?_
    exact lw_ret hE.1.1 hE.1.2.1 hE.1.2.2.2.2.2.1 hE.1.2.2.2.2.2.2.1 dL_law_1206
theorem lw_loop (hE : lw_C E) (hX : nx_K (ms_A [] E.s.heap.size) E.s) (htr : E.G.1.stackTraces = false) : ∀ (n i : Nat) (Γ : List ms_Sh) (M : ms_M) (S : pw_S), E.L < i + 7 * n + 7 → i ≤ E.L → pw_G Γ → pw_RC M S → pw_RM M S → pw_SO S → lw_W E (2 * n) (12 * n) 23 (lw_ls i) [] Γ M := by
  have hLL := hE.2.2.2
  intro n
  induction n with
  | zero =>
    intro i Γ M S h1 h2 hG hRC hRM hO
    refine lw_head hE (i := i) (List.mem_of_getElem? (i := 0) rfl) (by omega) (fun h => by omega) (fun _ => lw_end hE)
  | succ n ih =>
    intro i Γ M S h1 h2 hG hRC hRM hO
    refine lw_head hE (i := i) (List.mem_of_getElem? (i := 0) rfl) (by omega) (fun h => ?_) (fun _ => lw_end hE)
    have K : lw_next E (2 * n) (12 * n) i := by
      intro Γ' M' S' hG' hRC' hRM' hO'
      refine lw_inc hE (n := 4) (i := i) (j := 7) (ls' := [(3, (2, 129)), (2, (2, 103)), (1, (2, 0))]) (List.mem_of_getElem? (i := 0) rfl) (by omega) (by omega) (by omega) rfl dL_law_1199 ?_
      refine lw_go hE (tgt := 23) dL_law_1202 rfl ?_
      exact ih (i + 7) Γ' M' S' (by omega) (by omega) hG' hRC' hRM' hO'
    refine lw_key hE (i := i) (List.mem_of_getElem? (i := 0) rfl) (by omega) (fun x => ?_)
    refine lw_swt hE (fun k hk => ?_) (lw_less (by omega) (by omega) (K Γ M S hG hRC hRM hO))
    match k, hk with
    | 0, _ => exact lw_c0 hE h hG hRC hRM hO K
    | 1, _ => exact lw_c1 hE h hG hRC hRM hO K
    | 2, _ => exact lw_c2 hE h hG hRC hRM hO K
    | 3, _ => exact lw_c3 hE hX htr h hG hRC hRM hO K
    | 4, _ => exact lw_c4 hE h hG hRC hRM hO K
    | 5, _ => exact lw_c5 hE h hG hRC hRM hO K
    | 6, _ => exact lw_c6 hE h hG hRC hRM hO K
    | 7, _ => exact lw_c7 hE h hG hRC hRM hO K
    | 8, _ => exact lw_c8 hE h hG hRC hRM hO K
    | 9, _ => exact lw_c9 hE h hG hRC hRM hO K
    | 10, _ => exact lw_c10 hE h hG hRC hRM hO K
    | 11, _ => exact lw_c11 hE h hG hRC hRM hO K
    | 12, _ => exact lw_c12 hE h hG hRC hRM hO K
    | 13, _ => exact lw_c13 hE h hG hRC hRM hO K
    | 14, _ => exact lw_c14 hE h hG hRC hRM hO K
    | 15, _ => exact lw_c15 hE h hG hRC hRM hO K
    | 16, _ => exact lw_c16 hE h hG hRC hRM hO K
    | 17, _ => exact lw_c17 hE h hG hRC hRM hO K
    | 18, _ => exact lw_c18 hE h hG hRC hRM hO K
    | 19, _ => exact lw_c19 hE h hG hRC hRM hO K
    | 20, _ => exact lw_c20 hE h hG hRC hRM hO K
    | 21, _ => exact lw_c21 hE h hG hRC hRM hO K
    | 22, _ => exact lw_c22 hE h hG hRC hRM hO K
    | 23, _ => exact lw_c23 hE h hG hRC hRM hO K
    | 24, _ => exact lw_c24 hE h hG hRC hRM hO K
    | 25, _ => exact lw_c25 hE h hG hRC hRM hO K
    | 26, _ => exact lw_c26 hE h hG hRC hRM hO K
    | k + 27, hk => exact absurd hk (by omega)
theorem lw_RC3 {M' : ms_M} (h : pw_RC M S) (hl : ∀ c, c < 103 → M' c = M c) : pw_RC M' S := pw_RC_fr h (pw_cr_fr h.1 (fun q hq => by rw [hl q.1 (pw_refs_lt q hq)])) (fun c hc => hl c (by omega))
theorem lw_g130 : pw_gam.take 130 = pw_gam := by decide +kernel
theorem lw_gN0 : ([] : List ms_Sh) ++ [(11, 17)] = pw_gam.take 1 := by decide +kernel
theorem lw_gG : pw_G pw_gam := fun _ _ => rfl
set_option maxRecDepth 100000 in
set_option maxHeartbeats 4000000 in
theorem lw_enter (hE : lw_C E) (hX : nx_K (ms_A [] E.s.heap.size) E.s) (htr : E.G.1.stackTraces = false) : lw_W E 2000 100000 0 [] [] [] M := by
  have hLL := hE.2.2.2
  refine lw_new hE (ci := 11) (N := 17) (r := (RX11, TX11, 17)) (kc' := 1999) (ks' := 99983) rfl rfl (by decide) kw_96 kw_97 kw_76 dL_law_0 (by omega) (by omega) ?_
  rw [lw_gN0]
  refine lw_dup hE (by decide) dL_law_3 ?_
  refine lw_ci hE (y' := mX11_init) (nb := 0) (st' := [(2, ((([] : List ms_Sh).length : Nat) : Int))]) (mc' := 102) (ms' := 4398) (kc' := 1897) (ks' := 95585) rfl rfl kw_98 kw_99 kw_76 kw_100 ⟨by decide +kernel, by decide +kernel, by decide +kernel⟩ (by decide) dL_law_4 rfl (by decide) (by omega) (by omega) (c_X11_init (d := 46) (fun M1 a1 a2 a3 a4 a5 a6 a7 a8 => ⟨by decide, ?_⟩))
  have hRC1 := pw_RC0 a1 a2 a3 a4 a5 a6 a7 a8
  refine lw_ast hE (n := 1) (a := 0) (ls' := []) (by omega) rfl (by omega) (by omega) rfl dL_law_7 ?_
  refine lw_new hE (ci := 12) (N := 45) (r := (RX12, TX12, 45)) (kc' := 1896) (ks' := 95540) rfl rfl (by decide) kw_917 kw_915 kw_88 dL_law_8 (by omega) (by omega) ?_
  rw [gT_103, gL_103]
  refine lw_dup hE (by decide) dL_law_11 ?_
  refine lw_ci hE (y' := mX12_init) (nb := 103) (st' := [(2, 103)]) (mc' := 25) (ms' := 63637) (kc' := 1871) (ks' := 31903) rfl rfl kw_918 kw_919 kw_88 kw_920 ⟨by decide +kernel, by decide +kernel, by decide +kernel⟩ (by decide) dL_law_12 rfl (by decide) (by omega) (by omega) (c_X12_init (d := 48) (fun M2 b1 b2 b3 b4 b5 b6 b7 => ⟨by decide, ?_⟩))
  have hRC2 : pw_RC M2 pw_S0 := lw_RC3 hRC1 (fun c hc => by rw [b1 c hc, ms_nw_rne (by omega)])
  have hRM2 : pw_RM M2 pw_S0 := pw_RM0 b2 b3 (by rw [b4, ms_nw_same]; rfl) (by rw [b5, ms_nw_same]; rfl) (by rw [b6, ms_nw_same]; rfl) (by rw [b7, ms_nw_same]; rfl)
  refine lw_ast hE (n := 2) (a := 103) (ls' := [(1, (2, 0))]) (by omega) rfl (by omega) (by omega) rfl dL_law_15 ?_
  refine lw_ici hE (n := 1) (by omega) dL_law_16 ?_
  refine lw_newl hE (kc' := 1870) (ks' := 31902) kw_200 dL_law_17 (by omega) (by omega) ?_
  rw [gT_129, gL_129, lw_g130]
  refine lw_ast hE (n := 3) (a := 129) (ls' := [(2, (2, 103)), (1, (2, 0))]) (by omega) rfl (by omega) (by omega) rfl dL_law_19 ?_
  refine lw_ici hE (n := 0) (by omega) dL_law_20 ?_
  refine lw_ist hE (n := 4) (x := 0) (ls' := [(3, (2, 129)), (2, (2, 103)), (1, (2, 0))]) (by omega) (by omega) rfl dL_law_21 ?_
  refine lw_less (kc' := 2 * 512) (ks' := 12 * 512) (by omega) (by omega) ?_
  exact lw_loop hE hX htr 512 0 pw_gam _ pw_S0 (by omega) (by omega) lw_gG (lw_RC3 hRC2 (fun c hc => ms_nw_rne (by omega))) (pw_RM_nw hRM2 (by omega)) pw_S0_ok
end LWL
