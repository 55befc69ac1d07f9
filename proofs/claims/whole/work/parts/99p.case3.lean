/-! ===== the law: its third case, its switch ===== -/
section LWU
variable {E : lw_E} {kc ks : Nat} {Γ : List ms_Sh} {M : ms_M} {S : pw_S}
set_option maxRecDepth 100000
set_option maxHeartbeats 4000000
theorem pw_hi_tr129 {M M' : ms_M} {x : Int} {S : pw_S} (hRM : pw_RM M S) (hh : pw_hi M M') : pw_RM (ms_up M' 129 0 x) S := pw_RM_fr (pw_RM_hi hRM hh) (fun c hc => ms_up_row (by omega)) (fun j _ => by rw [ms_up_row (by omega)])
theorem pw_RC_129 {M : ms_M} {x : Int} {S : pw_S} (h : pw_RC M S) : pw_RC (ms_up M 129 0 x) S := pw_RC_fr h (pw_cr_fr h.1 (fun q hq => by rw [ms_up_row (by have := pw_refs_lt q hq; omega)])) (fun c hc => ms_up_row (by omega))
/-- behind the calls: what they answered is compared -/
theorem lw_d3 (hE : lw_C E) {i : Nat} {k b : Int} (hG : pw_G Γ) (hRC : pw_RC M S) (hRM : pw_RM M S) (hO : pw_SO S) (hk : M 103 0 = k) (hb : k = 0 → M 129 0 = b) (K : lw_next E kc ks i) : lw_W E kc ks 324 ((6, (0, b)) :: (5, (0, k)) :: lw_ls i) [] Γ M := by
  have hend : lw_W E kc ks 352 ((6, (0, b)) :: (5, (0, k)) :: lw_ls i) [] Γ M := by
    refine lw_go hE (tgt := 1199) dL_law_352 rfl ?_
    refine lw_sub (fun q hq => List.mem_cons_of_mem _ (List.mem_cons_of_mem _ hq)) ?_
    exact K Γ M S hG hRC hRM hO
  refine lw_ald hE (n := 2) (a := 103) (by omega) (List.mem_of_getElem? (i := 4) rfl) rfl dL_law_324 ?_
  refine lw_cv hE (y' := mX12_thrown) (ci := 12) (r := (RX12, TX12, 45)) (n := 0) (nb := 103) (av := []) (st' := []) (kc' := kc) (ks' := ks) rfl rfl kw_904 kw_905 kw_906 kw_88 kw_907 ⟨by decide +kernel, by decide +kernel, by decide +kernel⟩ (by decide) dL_law_325 (lw_cell103 hG) rfl rfl rfl (Nat.le_of_ble_eq_true rfl) (by omega) (by omega) (m_thrown hG ⟨lw_t0, ?_⟩)
  refine lw_ild hE (n := 5) (x := k) (List.mem_of_getElem? (i := 1) rfl) dL_law_328 ?_
  refine lw_ceq hE (tgt := 335) dL_law_330 rfl hk ?_
  refine lw_ild hE (n := 5) (x := k) (List.mem_of_getElem? (i := 1) rfl) dL_law_335 ?_
  refine lw_iif hE (tgt := 352) dL_law_337 rfl (fun _ => hend) (fun h0 => ?_)
  refine lw_ald hE (n := 3) (a := 129) (by omega) (List.mem_of_getElem? (i := 3) rfl) rfl dL_law_340 ?_
  refine lw_ici hE (n := 0) (by omega) dL_law_341 ?_
  refine lw_out hE (n := 129) (lw_cell129 hG) rfl (by decide) dL_law_342 ?_
  refine lw_ild hE (n := 6) (x := b) (List.mem_of_getElem? (i := 0) rfl) dL_law_343 ?_
  refine lw_i2l hE dL_law_345 ?_
  refine lw_leq hE (tgt := 352) dL_law_346 dL_law_347 rfl (hb h0) ?_
  exact hend
/-- the model's call -/
theorem lw_e3 (hE : lw_C E) {i : Nat} {k : Int} (hi : i + 7 ≤ E.L) (hG : pw_G Γ) (hRC : pw_RC M S) (hRM : pw_RM M S) (hO : pw_SO S) (hk : (k = 0 ∧ pw_has S.P (E.xs (i + 1)).toInt ∧ 0 ≤ (E.xs (i + 2)).toInt ∧ (E.xs (i + 2)).toInt ≤ 6 ∧ M 129 0 = pw_anode S (E.xs (i + 1)).toInt (E.xs (i + 2)).toInt) ∨ (k = 1 ∧ ¬ (pw_has S.P (E.xs (i + 1)).toInt ∧ 0 ≤ (E.xs (i + 2)).toInt ∧ (E.xs (i + 2)).toInt ≤ 6))) (K : lw_next E kc ks i) : lw_W E kc ks 304 (lw_ls i) [(0, k)] Γ M := by
  refine lw_ist hE (n := 5) (ls' := lw_ls i) (by omega) (by omega) rfl dL_law_304 ?_
  refine lw_ald hE (n := 2) (a := 103) (by omega) (List.mem_of_getElem? (i := 3) rfl) rfl dL_law_306 ?_
  refine lw_elm hE (i := i) (k := 1) (q := 311) (List.mem_of_getElem? (i := 1) rfl) (by omega) dL_law_307 dL_law_308 (Or.inl ⟨dL_law_310, rfl, rfl⟩) dL_law_311 dL_law_312 ?_
  refine lw_elm hE (i := i) (k := 2) (q := 317) (List.mem_of_getElem? (i := 1) rfl) (by omega) dL_law_313 dL_law_314 (Or.inl ⟨dL_law_316, rfl, rfl⟩) dL_law_317 dL_law_318 ?_
  refine lw_cv hE (y' := mX12_node) (ci := 12) (r := (RX12, TX12, 45)) (n := 2) (nb := 103) (av := [lw_x E i 1, lw_x E i 2]) (st' := []) (kc' := kc) (ks' := ks) rfl rfl kw_1189 kw_1190 kw_1191 kw_88 kw_1192 ⟨by decide +kernel, by decide +kernel, by decide +kernel⟩ (by decide) dL_law_319 (lw_cell103 hG) rfl rfl rfl (Nat.le_of_ble_eq_true rfl) (by omega) (by omega) (m_node hG hRM hO (fun h1 h2 h3 M2 hR2 hL2 h4 => ⟨lw_t0, ?_⟩) (fun h1 M2 hR2 hL2 h4 => ⟨lw_t0, ?_⟩))
  · refine lw_ist hE (n := 6) (ls' := (5, (0, k)) :: lw_ls i) (by omega) (by omega) rfl dL_law_322 ?_
    rcases hk with ⟨rfl, -, -, -, k4⟩ | ⟨rfl, k1⟩
    · refine lw_d3 hE hG (pw_RC_lo hRC hL2) hR2 hO h4 (fun _ => ?_) K
      rw [hL2 129 (by omega)]
      exact k4
    · exact absurd ⟨h1, h2, h3⟩ k1
  · refine lw_ist hE (n := 6) (ls' := (5, (0, k)) :: lw_ls i) (by omega) (by omega) rfl dL_law_322 ?_
    rcases hk with ⟨rfl, k1, k2, k3, -⟩ | ⟨rfl, -⟩
    · exact absurd ⟨k1, k2, k3⟩ h1
    · exact lw_d3 hE hG (pw_RC_lo hRC hL2) hR2 hO h4 (fun z => by omega) K
theorem lw_c3 (hE : lw_C E) (hX : nx_K (ms_A [] E.s.heap.size) E.s) (htr : E.G.1.stackTraces = false) {i : Nat} (hi : i + 7 ≤ E.L) (hG : pw_G Γ) (hRC : pw_RC M S) (hRM : pw_RM M S) (hO : pw_SO S) (K : lw_next E kc ks i) : lw_W E (kc + 2) (ks + 12) 287 (lw_ls i) [] Γ M := by
  refine lw_ald hE (n := 1) (a := 0) (by omega) (List.mem_of_getElem? (i := 3) rfl) rfl dL_law_287 ?_
  refine lw_elm hE (i := i) (k := 1) (q := 292) (List.mem_of_getElem? (i := 0) rfl) (by omega) dL_law_288 dL_law_289 (Or.inl ⟨dL_law_291, rfl, rfl⟩) dL_law_292 dL_law_293 ?_
  refine lw_elm hE (i := i) (k := 2) (q := 298) (List.mem_of_getElem? (i := 0) rfl) (by omega) dL_law_294 dL_law_295 (Or.inl ⟨dL_law_297, rfl, rfl⟩) dL_law_298 dL_law_299 ?_
  refine lw_ald hE (n := 3) (a := 129) (by omega) (List.mem_of_getElem? (i := 1) rfl) rfl dL_law_300 ?_
  refine lw_cs hE hX (kc' := kc) (ks' := ks) (av := [(2, 0), lw_x E i 1, lw_x E i 2, (2, 129)]) (st' := []) rfl rfl (Nat.le_of_ble_eq_true rfl) (by omega) (by omega) (nx_L (d := 44) hG hRC hO htr (fun n0 n1 w0 w1 M1 hR1 hH1 => ⟨lw_t0, ?_⟩) (fun h0 => ⟨lw_t0, ?_⟩))
  · refine lw_e3 hE hi hG (pw_RC_129 hR1) (pw_hi_tr129 hRM hH1) hO (Or.inl ⟨rfl, ⟨n0, n1⟩, w0, w1, ?_⟩) K
    exact ms_up_same
  · refine lw_e3 hE hi hG hRC hRM hO (Or.inr ⟨rfl, fun z => h0 ⟨z.1.1, z.1.2, z.2.1, z.2.2⟩⟩) K
def lw_tg (k : Nat) : Nat := [164, 237, 262, 287, 355, 393, 418, 505, 542, 579, 592, 605, 618, 631, 704, 777, 802, 827, 852, 865, 902, 951, 976, 1013, 1050, 1087, 1112].getD k 0
theorem lw_off : ∀ k : Nat, k < 27 → (#[124, 197, 222, 247, 315, 353, 378, 465, 502, 539, 552, 565, 578, 591, 664, 737, 762, 787, 812, 825, 862, 911, 936, 973, 1010, 1047, 1072] : Array Int)[k]? = some ((lw_tg k : Int) - 40) := by decide +kernel
theorem lw_swt {ls : List (Nat × ms_V)} {st : List ms_V} (hE : lw_C E) {x : Int} (K : ∀ k : Nat, k < 27 → lw_W E kc ks (lw_tg k) ls st Γ M) (K0 : lw_W E kc ks 1199 ls st Γ M) : lw_W E kc ks 40 ls ((0, x) :: st) Γ M := by
  intro as H locs cells slots lsC hP hl hs hL g1 g2
  have hr : -2147483648 ≤ x ∧ x < 2147483648 := hs _ List.mem_cons_self
  have hs' : ∀ v ∈ st, ms_vok Γ.length v := fun v hv => hs v (List.mem_cons_of_mem _ hv)
  by_cases h : x < 0 ∨ 26 < x
  · exact lv_tableOut (x := Int32.ofInt x) (rest := st.map (ms_cv as)) (tgt := 1199) hE.1.1 hE.1.2.1 dL_law_40 (by rw [w32_toInt hr]; exact h) rfl (K0 as H locs cells slots lsC hP hl hs' hL g1 g2)
  · have hk : x.toNat < 27 := by omega
    refine lv_tableIn (x := Int32.ofInt x) (rest := st.map (ms_cv as)) (off := (lw_tg x.toNat : Int) - 40) (tgt := lw_tg x.toNat) hE.1.1 hE.1.2.1 dL_law_40 (by rw [w32_toInt hr]; omega) (by rw [w32_toInt hr]; omega) ?_ ?_ (K x.toNat hk as H locs cells slots lsC hP hl hs' hL g1 g2)
    · rw [w32_toInt hr, Int.sub_zero]
      exact lw_off x.toNat hk
    · show (40 : Int) + ((lw_tg x.toNat : Int) - 40) = _
      omega
end LWU
