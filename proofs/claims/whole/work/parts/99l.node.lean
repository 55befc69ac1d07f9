/-! ===== node: what it throws ===== -/
def nx_N : String := "java/util/NoSuchElementException"
abbrev nx_s : List String := ["java/lang/RuntimeException", "java/lang/Exception"]
def nx_W : List Cond := [.castable nx_N nx_N, .declares (Bundle.init0 "java/lang/RuntimeException"), .declares (Bundle.init0 "java/lang/Exception"), .declares (Bundle.init0 Bundle.tN)]
def nx_K (A : Nat → Prop) (U : State) : Prop := (∀ w ∈ nx_W, va_Nw w U) ∧ vx_Zq Bundle.tN "UNASSIGNED_STACK" Bundle.steD A U U.heap ∧ vx_Zq Bundle.tN "SUPPRESSED_SENTINEL" Bundle.listD A U U.heap
theorem nx_good : GoodIn lw_tbl ((vx_at0 RX11 161 nx_N nx_s).filter goodWord) := goodIn_r _ [92, 859, 868, 870, 873, 875, 860, 861, 102, 103, 862, 867, 871, 887, 849, 888, 851, 889, 853, 863, 865, 855, 877, 878, 879, 880, 880, 881, 882, 883, 883, 884, 885, 860, 876, 838, 846, 847, 848, 850, 852, 854, 858, 857, 856] (by decide +kernel) (by decide +kernel)
theorem nx_bad : ∀ w ∈ (vx_at0 RX11 161 nx_N nx_s).filter (fun w => !goodWord w), w ∈ nx_W := by decide +kernel
theorem nx_ot : ∀ w ∈ Cond.classLink RX11 159 nx_N :: Cond.initialized nx_N :: vx_at0 RX11 161 nx_N nx_s, vx_ot w = true := by decide +kernel
theorem nx_w1 : Cond.classLink RX11 159 nx_N ∈ ms_B := ms_memB 837 (by decide +kernel) (by decide +kernel)
theorem nx_w2 : Cond.initialized nx_N ∈ ms_B := ms_memB 95 (by decide +kernel) (by decide +kernel)
theorem nx_w3 : Cond.classLink RL 13 nx_N ∈ ms_B := ms_memB 832 (by decide +kernel) (by decide +kernel)
theorem nx_wot : ∀ w ∈ nx_W, w.onTables = true := by decide +kernel
theorem nx_at {args : Array Value} {s : State} (hts : ∀ w ∈ ms_B, w.before args s = true) (hK : ∀ w ∈ nx_W, va_Nw w s) : ∀ w ∈ vx_at0 RX11 161 nx_N nx_s, w.before args s = true := by
  refine vx_hat (fun w hw => ?_) nx_bad (fun w hw => va_Nw.use (nx_wot w hw) (hK w hw))
  exact hts w (List.mem_filter.mpr ⟨(nx_good w hw).1, (List.mem_filter.mp hw).2⟩)
theorem nx_warm {s U : State} (hW : s.WarmedH U.vm) (h : ∀ w ∈ nx_W, va_Nw w s) : ∀ w ∈ nx_W, va_Nw w U := by
  intro w hw
  have h1 := h w hw
  unfold nx_W at hw
  rcases List.mem_cons.mp hw with hw | hw
  · rw [hw] at h1 ⊢; exact va_Nw.warmC hW h1
  · rcases List.mem_cons.mp hw with hw | hw
    · rw [hw] at h1 ⊢; exact va_Nw.warmD hW h1
    · rcases List.mem_cons.mp hw with hw | hw
      · rw [hw] at h1 ⊢; exact va_Nw.warmD hW h1
      · rcases List.mem_cons.mp hw with hw | hw
        · rw [hw] at h1 ⊢; exact va_Nw.warmD hW h1
        · exact absurd hw List.not_mem_nil
theorem nx_same {s U : State} (hv : s.vm = U.vm) (h : ∀ w ∈ nx_W, va_Nw w s) : ∀ w ∈ nx_W, va_Nw w U := fun w hw => va_Nw.same (nx_wot w hw) hv (h w hw)
theorem nx_inv {G : ms_G} {Q : ms_Q} {d : Nat} {y y' : ms_Y} {ci n mc' ms' idx nb pc : Nat} {r : vw_C} {av : List ms_V} {p : Program} {e : Env} {R : Room} {s : State} {m : MethodId} {args : Array Value} {below : List Frame} {meth : Method} {c : Code} {as0 as : List Nat} {Γ : List ms_Sh} {M : ms_M} {H : Heap} {locs : List Loc} {cells slots : Nat} {lsC : Array Slot} {Z : State → Prop} {rest : List Value} {sh : ms_Sh}
    (hc : vwCl[ci]? = some r) (hC' : y'.1.cls = r.1) (h1 : Cond.methodLink y.1.cls idx y'.1 ∈ ms_B) (h2 : Cond.instanceMethod y'.1 ∈ ms_B) (h5 : Cond.selects y'.1.cls y'.1 y'.1 ∈ ms_B) (h3 : Cond.initialized y'.1.cls ∈ ms_B) (h4 : Cond.code y'.1 y'.2.1 y'.2.2.1 y'.2.2.2 ∈ ms_B) (hd' : y'.1.cls ≠ "java/lang/invoke/MethodHandle" ∧ y'.1.cls ≠ "java/lang/invoke/VarHandle" ∧ (parseMethodDescriptor y'.1.desc).map (fun d => d.parameters.length) = some n) (hm : y'.2.2.1 ≤ 45) (hd : decode y.2.1 pc = .ok (.invokevirtual idx, 3))
    (hC : ms_Ctx G y (d + 1) p R s m args meth c) (hP : ms_Rep G s as0 as Γ M H locs) (hg : Γ[nb]? = some sh) (hs1 : sh.1 = ci) (hsa : ∀ v ∈ ((2, (nb : Int)) :: av : List ms_V), ms_vok Γ.length v) (hnav : av.length = n) (hsz : lsC.size = y.2.2.1) (hwt : (rest.map fun v => v.category).sum ≤ 8) (hcall : ms_Call G y' d mc' ms' ((2, (nb : Int)) :: av) Γ M Q) (hroom : cells + mc' ≤ R.cells ∧ slots + ms' ≤ R.slots)
    (kk : ∀ (v : ms_V) (Γ' : List ms_Sh) (M' : ms_M) (as' : List Nat) (H1 : Heap) (locs1 : List Loc), Q v Γ' M' → ms_lok Γ'.length v → as <+: as' → ms_Rep G s as0 as' Γ' M' H1 locs1 → W p G.1 e R s m args below meth c H1 locs1 (cells + mc') (slots + ms') Z (F0 m (pc + 3) lsC ((ms_rs as' v).toList ++ rest))) : W p G.1 e R s m args below meth c H locs cells slots Z (F0 m pc lsC ((av.map (ms_cv as)).reverse ++ .ref (as.getD nb 0) :: rest)) := by
  obtain ⟨hx, hb, hml, hown, hts, -, -, -, hKn, hfr, hlo⟩ := id hC
  have hM := hcall as H.size hP.1 hP.2.2.1 hsa
  have hat : (ms_ws G as Γ M)[nb]? = some (as.getD nb 0, .inr (ci, ms_fs as M nb ci sh.2)) := by rw [ms_ws_at hg, ms_cell_obj hs1 (by have := ms_cls_lt hc; omega)]
  have hrecv := va_recv hKn.1 hP.2.2.2.1 hc hat
  rw [← hC'] at hrecv
  refine ms_callW (a := (Value.ref (as.getD nb 0) :: av.map (ms_cv as)).toArray) ?_ hP kk
  exact va_runV (C := y'.1.cls) (b := as.getD nb 0) (As := av.map (ms_cv as)) ⟨hx, hb, hml, hown, hts⟩ hM ⟨callB_of n hts (ms_good h4) rfl rfl rfl (hts _ h3) (hts _ h1) hd' ⟨by show d + 2 + 1 ≤ R.frames; omega, by show 8 + (y'.2.2.1 + 11) + (64 * d + 128) ≤ R.locals; omega⟩, hts _ h2, hts _ h5⟩ ⟨ms_blind, hrecv, fun U hU hW => ⟨by rw [List.map_cons, ms_cv2], by rw [hU], by rw [hU]; exact hP.2.2.2.1, hKn.warm hW, hP.2.2.2.2.1.weaken (fun _ _ _ _ => trivial)⟩⟩ rfl (by rw [List.length_map]; exact hnav) hsz rfl (lv_room hwt) hd hroom
theorem nx_cell1 {Γ : List ms_Sh} (hG : pw_G Γ) : Γ[1]? = some (4, 6) := (hG 1 (by omega)).trans (by decide +kernel)
theorem nx_own {as : List Nat} {sz : Nat} {G : ms_G} {Γ : List ms_Sh} {M : ms_M} (hlen : as.length = Γ.length) (hD : va_D (fun _ => True) (ms_ws G as Γ M)) : va_D (ms_A as sz) (ms_ws G as Γ M) := by
  refine ⟨hD.1, fun k q hk => ?_⟩
  obtain ⟨sh, h1, rfl⟩ := ms_ws_inv hk
  exact Or.inl (ms_in_as (by rw [hlen]; exact (List.getElem?_eq_some_iff.mp h1).1))
abbrev nx_X (G : ms_G) (as : List Nat) (sz : Nat) (Γ : List ms_Sh) (M : ms_M) : String → State → State → Prop := fun E st t => E = nx_N ∧ va_P G.2.1 vwCl (ms_ws G as Γ M) t.heap ∧ va_F (ms_A as sz) st t
set_option maxRecDepth 100000 in
set_option maxHeartbeats 4000000 in
theorem nx_node {G : ms_G} {Γ : List ms_Sh} {M : ms_M} {S : pw_S} {d : Nat} {n w : Int} (hG : pw_G Γ) (hR : pw_RC M S) (hO : pw_SO S) (hno : ¬ (0 ≤ n ∧ n < S.P.1 + S.P.2.1 ∧ 0 ≤ w ∧ w ≤ 6)) (htr : G.1.stackTraces = false) {as : List Nat} {sz : Nat} (hlen : as.length = Γ.length) (hM : ms_Mok Γ M) (hn : -2147483648 ≤ n ∧ n < 2147483648) (hw : -2147483648 ≤ w ∧ w < 2147483648) : vx_Met G.1 yX11_node (ms_wd mX11_node) (ms_room (d + 4) 1 6) (fun v U => ms_Pc G as sz [(2, 0), (0, n), (0, w)] Γ M v U ∧ nx_K (ms_A as sz) U) (fun _ _ _ _ => False) (nx_X G as sz Γ M) 1 6 (ms_A as sz) := by
  refine vx_ofW (cc := cX11_node) (maxL := 3) (ret := some .int) (by decide +kernel) rfl ?_
  intro p e s m args below meth c s₁ B hml htab hv
  obtain ⟨⟨ha, rfl, hP, hK, hD⟩, hW, hU, hN⟩ := hv
  have ea : [((2, 0) : ms_V), (0, n), (0, w)].map (ms_cv as) = [.ref (as.getD 0 0), .int (Int32.ofInt n), .int (Int32.ofInt w)] := by
    show [ms_cv as (2, ((0 : Nat) : Int)), _, _] = _
    rw [ms_cv2]
    rfl
  rw [ea] at ha
  subst ha
  have hts := atoms_spec (ws := ms_wd mX11_node) B.pre
  have hlk := B.notSynchronized
  have hC : ms_Ctx G mX11_node (d + 3 + 1) p (headSpec (ms_wd mX11_node) (ms_room (d + 4) 1 6)).room s m [Value.ref (as.getD 0 0), .int (Int32.ofInt n), .int (Int32.ofInt w)].toArray meth c := ⟨B.exec, B.bytes, hml, findClass_of_methodNamed B.named, fun w hw => hts w (List.mem_cons_of_mem _ hw), B.returns, hlk, (name_of_methodNamed B.named B.method).1, hK, Nat.le_refl _, Nat.le_refl _⟩
  obtain ⟨hx, hb, -, hown, htsB, -⟩ := id hC
  have hRep : ms_Rep G s as as Γ M s.heap [] := ⟨hlen, List.prefix_refl _, hM, hP, nx_own hlen hD, va_S.rf⟩
  have hl := lv_entry ([.ref (as.getD 0 0), .int (Int32.ofInt n), .int (Int32.ofInt w)]) (n := 3) (Nat.le_of_ble_eq_true rfl)
  rw [lg_entry_eq]
  generalize (lg_sl ([.ref (as.getD 0 0), .int (Int32.ofInt n), .int (Int32.ofInt w)]) ++ List.replicate (3 - (lg_sl ([.ref (as.getD 0 0), .int (Int32.ofInt n), .int (Int32.ofInt w)])).length) Slot.unset).toArray = lsC at hl ⊢
  have hl : lv_has lsC 3 [(0, .ref (as.getD 0 0)), (1, .int (Int32.ofInt n)), (2, .int (Int32.ofInt w))] := hl
  have hat : (ms_ws G as Γ M)[0]? = some (as.getD 0 0, .inr (11, ms_fs as M 0 11 17)) := by rw [ms_ws_at (lw_cell0 hG), ms_cell_obj rfl (by decide)]
  have e1 : ms_cv as (2, M 0 0) = .ref (as.getD 1 0) := by
    rw [pw_r0_0 hR.1]
    exact ms_cv2 (k := 1)
  refine lv_aload_n hx hb dX11_node_0 rfl (lv_at hl 0 rfl) ?_
  refine va_get (v := .ref (as.getD 1 0)) hx hb htsB (ms_in 11 (RX11, TX11, 17) rfl) hown hK.1 hP 0 hat rfl 0 (by decide) (htsB _ kw_338) (fun x h => h) (by rw [ms_fs_at (by decide), ← e1]; rfl) dX11_node_1 ?_
  refine lv_iload_n hx hb dX11_node_4 rfl (lv_at hl 1 rfl) ?_
  have hg1 : Γ[1]? = some (4, 6) := nx_cell1 hG
  have hl1 : 1 < Γ.length := (List.getElem?_eq_some_iff.mp hg1).1
  refine nx_inv (d := d + 3) (y := mX11_node) (y' := mX4_has) (ci := 4) (r := (RX4, TX4, 6)) (n := 1) (nb := 1) (av := [(0, n)]) (rest := []) (mc' := 0) (ms' := 0) (Q := fun v Γ' M' => Γ' = Γ ∧ M' = M ∧ ((v = (0, 1) ∧ 0 ≤ n ∧ n < S.P.1 + S.P.2.1) ∨ v = (0, 0))) rfl rfl kw_584 kw_585 kw_586 kw_77 kw_587 ⟨by decide +kernel, by decide +kernel, by decide +kernel⟩ (by decide) dX11_node_5 hC hRep hg1 rfl (fun v hv => ?_) rfl hl.1 (by decide) (c_has (d := d + 1) hG pw_pid1 hR.2.1 hO.1.1 (fun a b => ⟨rfl, rfl, Or.inl ⟨rfl, a, b⟩⟩) (fun a => ⟨rfl, rfl, Or.inr rfl⟩)) ⟨by show 0 + 0 ≤ 1; omega, by show 0 + 0 ≤ 6; omega⟩ (fun v Γ' M' as' H1 locs1 hQ hv hp hP' => ?_)
  · rcases List.mem_cons.mp hv with hv | hv
    · rw [hv]
      show ((1 : Nat) : Int) < (Γ.length : Int)
      omega
    · rw [List.mem_singleton.mp hv]
      exact hn
  · obtain ⟨rfl, rfl, hQ⟩ := hQ
    have eas : as = as' := hp.eq_of_length (hlen.trans hP'.1.symm)
    subst eas
    have hS := hP'.2.2.2.2.2
    have hend : W p G.1 e (headSpec (ms_wd mX11_node) (ms_room (d + 4) 1 6)).room s m [Value.ref (as.getD 0 0), .int (Int32.ofInt n), .int (Int32.ofInt w)].toArray below meth c H1 locs1 (0 + 0) (0 + 0) (vx_MQ below (fun _ _ _ _ => False) (nx_X G as s.heap.size Γ' M') [Value.ref (as.getD 0 0), .int (Int32.ofInt n), .int (Int32.ofInt w)].toArray s 1 6 (ms_A as s.heap.size)) (F0 m 21 lsC []) := by
      refine vx_throw0 (own := RX11) (cls := nx_N) (names := nx_s) (ik := 159) (ic := 161) (A := ms_A as s.heap.size) hx hb htr hown (by decide +kernel) (by decide +kernel) (htsB _ nx_w1) (htsB _ nx_w2) (nx_at htsB hW) nx_ot hU hN hS (hl.1.trans hml.symm) dX11_node_21 dX11_node_24 dX11_node_25 dX11_node_28 (fun x hx => absurd (htab x hx) id) (by show 2 + 3 < d + 4 + 2; omega) (by show 0 + (13 * (2 + 1) + 42) ≤ 64 * (d + 4) + 128; omega) (by show 0 + 0 + 1 ≤ 1; omega) (by show 0 + 0 + 6 ≤ 6; omega) hlk (fun t ht1 ht2 ht3 => ⟨rfl, ?_, ?_⟩) hS.2.2 (by omega) (by omega)
      · exact hP'.2.2.2.1.kept (fun k x hx => ht3 x.1 (vx_lt hP'.2.2.2.1 hx))
      · exact ⟨Nat.le_trans hS.1 ht2, fun q q1 q2 => (ht3 q (Nat.lt_of_lt_of_le q1 hS.1)).trans (hS.2.1 q q1 q2)⟩
    rcases hQ with ⟨rfl, n0, n1⟩ | rfl
    · refine lv_if_eq (x := Int32.ofInt 1) (rest := []) (tgt := 21) hx hb dX11_node_8 rfl (fun q => absurd q (by decide)) (fun _ => ?_)
      refine lv_iload_n hx hb dX11_node_11 rfl (lv_at hl 2 rfl) ?_
      refine lv_if_lt (rest := []) (tgt := 21) hx hb dX11_node_12 rfl (fun _ => hend) (fun q => ?_)
      rw [← w32_z, w32_lt hw (by omega)] at q
      refine lv_iload_n hx hb dX11_node_15 rfl (lv_at hl 2 rfl) ?_
      refine lv_bipush (v := Int32.ofInt 6) hx hb dX11_node_16 rfl ?_
      refine lv_icmp_le (rest := []) (tgt := 29) hx hb dX11_node_18 rfl (fun q2 => ?_) (fun _ => hend)
      exfalso
      have q3 : ¬ Int32.ofInt 6 < Int32.ofInt w := fun z => by
        rw [Int32.lt_iff_toInt_lt] at z
        rw [Int32.le_iff_toInt_le] at q2
        omega
      rw [w32_lt (by omega) hw] at q3
      exact hno ⟨n0, n1, by omega, by omega⟩
    · refine lv_if_eq (x := Int32.ofInt 0) (rest := []) (tgt := 21) hx hb dX11_node_8 rfl (fun _ => hend) (fun q => absurd rfl q)
