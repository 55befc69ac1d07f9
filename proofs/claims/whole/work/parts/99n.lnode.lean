/-! ===== the law's own node: it returns, or catches ===== -/
abbrev nx_h : List (Nat × Nat × Nat × Nat) := [(0, 10, 13, 13)]
def nx_wd : List Cond := Cond.codeWith yL_node cL_node 5 (some .int) nx_h :: ms_B
def nx_Call (G : ms_G) (d : Nat) (av : List ms_V) (Γ : List ms_Sh) (M : ms_M) (Q : ms_Q) : Prop :=
  ∀ (as : List Nat) (sz : Nat), as.length = Γ.length → ms_Mok Γ M → (∀ v ∈ av, ms_vok Γ.length v) → Met G.1 yL_node nx_wd (ms_room d 1 6) (fun v U => ms_Pc G as sz av Γ M v U ∧ nx_K (ms_A as sz) U) (ms_Qc G Q as sz) 1 6 (ms_A as sz)
theorem nx_ofWH {l : Launch} {y : MethodName} {ws ws' : List Cond} {rm : Room} {Pc : Array Value → State → Prop} {Qc : Array Value → State → Outcome → State → Prop} {mc ms : Nat} {free : Addr → Prop} {cc : ByteArray} {maxL : Nat} {ret : Option FieldType} {hh : List (Nat × Nat × Nat × Nat)}
    (hy : plainName y.cls = true) (hw : ws = Cond.codeWith y cc maxL ret hh :: ws')
    (body : ∀ p e s m args below meth c s₁, BodyLoose p l y (headSpec ws rm) cc maxL ret e s m args below meth c s₁ → c.maxLocals = maxL → Pc args s →
      W p l e (headSpec ws rm).room s m args below meth c s.heap [] 0 0 (MQ below Qc args s mc ms free) (entryFrame m args maxL)) : Met l y ws rm Pc Qc mc ms free := by
  refine MetFree.of_bodyS (code := cc) (maxLocals := maxL) (ret := ret) hy ?_ ?_
  · intro args s m h hn
    obtain ⟨m9, meth, c, hn9, h1, h2, h3, h4, -, h5, h6, -⟩ := Cond.codeWith_spec (atoms_spec (ws := ws) h _ (by rw [hw]; exact List.mem_cons_self))
    cases hn.symm.trans hn9
    exact ⟨meth, c, h1, h2, h3, h4, h5, h6⟩
  · intro p e s m args below meth c s₁ B hml hP _
    have hh0 : s₁.heap = s.heap := by rw [B.state]; rfl
    obtain ⟨t, a1, o, b1, b2, b3⟩ := body p e s m args below meth c s₁ B hml hP s₁ hh0 (Stand.of_body B)
    exact ⟨t, o, a1, b1, b2, b3⟩
set_option maxHeartbeats 4000000 in
theorem nx_ofAt {G : ms_G} {d : Nat} {av : List ms_V} {Γ : List ms_Sh} {M : ms_M} {Q : ms_Q} {ls : List ms_V} (hn : (ms_fl av).length ≤ 5) (hls : ms_ini 5 av = ls) (h : ms_Mok Γ M → (∀ v ∈ av, ms_vok Γ.length v) → ms_At G Q mL_node d 1 6 0 ls [] Γ M) : nx_Call G d av Γ M Q := by
  subst hls
  intro as sz hl hM hav
  refine nx_ofWH (cc := cL_node) (maxL := 5) (ret := some .int) (hh := nx_h) (by decide +kernel) rfl ?_
  intro p e s m args below meth c s₁ B hml hv
  obtain ⟨⟨rfl, rfl, hP, hK, hD⟩, -⟩ := hv
  have hts := atoms_spec (ws := nx_wd) B.pre
  have hlk := B.notSynchronized
  have hC : ms_Ctx G mL_node d p (headSpec nx_wd (ms_room d 1 6)).room s m (av.map (ms_cv as)).toArray meth c := ⟨B.exec, B.bytes, hml, findClass_of_methodNamed B.named, fun w hw => hts w (List.mem_cons_of_mem _ hw), B.returns, hlk, (name_of_methodNamed B.named B.method).1, hK, Nat.le_refl _, Nat.le_refl _⟩
  have hlen := ms_sl_len (as := as) av hav
  have hent := lv_entry (av.map (ms_cv as)) (n := 5) (by rw [hlen]; exact hn)
  rw [lg_entry_eq]
  refine h hM hav p e _ s m _ below meth c as as s.heap [] 0 0 _ 1 6 _ hC ?_ ⟨hl, List.prefix_refl _, hM, hP, nx_own hl hD, va_S.rf⟩ ?_ (fun v hv => absurd hv List.not_mem_nil) ?_ ?_ (by omega) (by omega) (Nat.le_refl _) (Nat.le_refl _)
  · intro v Γ' M' as' H locs cells slots lsC pc i hQ hR hlok hrok hdec hc1 hs1
    obtain ⟨e1, e2, e3, e4, e5, e6⟩ := hR
    refine W.widen hc1 hs1 ?_
    have hq : ∀ t : State, t.heap = H → ms_Qc G Q as s.heap.size (av.map (ms_cv as)).toArray s (.returned (ms_rs as' v)) t := fun t ht => ⟨⟨v, Γ', M', as', rfl, hQ, hlok, e1, e2, e3, by rw [ht]; exact e4, e5⟩, e6.F ht⟩
    rcases hrok with ⟨hv, rfl, hr⟩ | ⟨hv, rfl, hr⟩ | ⟨rfl, rfl, hr⟩
    · obtain ⟨t, x⟩ := v
      have hv : t = 0 := hv
      subst hv
      rcases hr with hr | ⟨hr, hx⟩
      · exact W.iret B.exec B.bytes (B.returns.trans hr) (fun t ht _ => hq t ht) e6.2.2 hdec hlk
      · cases hr
    · cases hr
    · cases hr
  · intro v hv
    rcases List.mem_append.mp hv with hv | hv
    · exact ms_fl_lok av hav v hv
    · rw [(List.mem_replicate.mp hv).2]
      intro q
      simp only at q
      omega
  · refine ⟨hent.1, hent.2.1, fun q hq => hent.2.2 q ?_⟩
    obtain ⟨v, h1, h2, h3⟩ := ms_ll_mem.mp hq
    have := ms_args_mem (as := as) av hav 0 q.1 (5 - (ms_fl av).length) v h1 h2
    rw [Nat.zero_add, ← h3] at this
    exact this
  · unfold ms_ini
    rw [List.length_append, List.length_replicate]
    show (ms_fl av).length + (5 - (ms_fl av).length) = 5
    omega
section NXL
variable {G : ms_G} {Γ : List ms_Sh} {M : ms_M} {Q : ms_Q} {d : Nat} {S : pw_S}
set_option maxRecDepth 100000
set_option maxHeartbeats 4000000
theorem nx_ret {n w : Int} (hG : pw_G Γ) (hR : pw_RC M S) (hO : pw_SO S) (n0 : 0 ≤ n) (n1 : n < S.P.1 + S.P.2.1) (w0 : 0 ≤ w) (w1 : w ≤ 6) (K : ∀ M', pw_RC M' S → pw_hi M M' → Q (0, 0) Γ (ms_up M' 129 0 (pw_anode S n w))) : nx_Call G (d + 5) [(2, 0), (0, n), (0, w), (2, 129)] Γ M Q := by
  refine nx_ofAt (ls := [(2, 0), (0, n), (0, w), (2, 129), (3, 0)]) (Nat.le_of_ble_eq_true rfl) rfl (fun hM hv => ?_)
  refine ms_gq (kL_node G Q (d + 4)) rfl ?_
  simp only [x_run, x_ci, x_cl, x_bin, x_dv, x_lbin, x_ldv, x_un, x_lcmp, x_lshl, x_dup0, x_dup2r, x_dup2, x_pop0, x_go, x_if1, x_if2, x_retf, x_rett, x_lret, x_vret, x_ald, x_bald, x_ast, x_bast, x_aast, x_oi, x_mx, x_acp, x_new, x_newa, x_anew, x_wt0, x_wti, x_wtl, x_wtr, x_lst4, x_lst8, x_ld0, x_st0, x_inc0, x_ld1, x_st1, x_inc1, x_ld2, x_st2, x_inc2, x_ld3, x_st3, x_inc3, x_ld4, x_st4, x_inc4, x_ld5, x_st5, x_inc5, x_ld6, x_st6, x_inc6, x_ld7, x_st7, x_inc7, x_ld8, x_st8, x_inc8, x_ld9, x_st9, x_inc9, x_ld10, x_st10, x_inc10, x_ld11, x_st11, x_inc11, x_ld12, x_st12, x_inc12, x_ld13, x_st13, x_inc13, x_get_0, x_put_0, x_get_1, x_put_1, x_get_2, x_put_2, x_get_3, x_put_3, x_get_4, x_put_4, x_get_5, x_put_5, x_get_6, x_put_6, x_get_7, x_put_7, x_get_8, x_put_8, x_get_9, x_put_9, x_get_10, x_put_10, x_get_11, x_put_11, x_get_12, x_put_12, x_get_13, x_put_13, x_get_14, x_put_14, x_get_15, x_put_15, x_get_16, x_put_16, x_get_17, x_put_17, x_get_18, x_put_18, x_get_19, x_put_19, x_get_20, x_put_20, x_get_21, x_put_21, x_get_22, x_put_22, x_get_23, x_put_23, x_get_24, x_put_24, x_get_25, x_put_25, x_get_26, x_put_26, x_get_27, x_put_27, x_get_28, x_put_28, x_get_29, x_put_29, x_get_30, x_put_30, x_get_31, x_put_31, x_get_32, x_put_32, x_get_33, x_put_33, x_get_34, x_put_34, x_get_35, x_put_35, x_get_36, x_put_36, x_get_37, x_put_37, x_get_38, x_put_38, x_get_39, x_put_39, x_get_40, x_put_40, x_get_41, x_put_41, x_get_42, x_put_42, x_get_43, x_put_43, x_get_44, x_put_44, x_invS0, x_invV0, x_invS1, x_invV1, x_invS2, x_invV2, x_invS3, x_invV3, x_invS4, x_invV4, x_invS5, x_invV5, x_invS6, x_invV6, x_invS7, x_invV7, true_and, and_true, true_or, or_true, false_or, or_false, ne_eq, not_true_eq_false, not_false_eq_true, implies_true, true_implies, false_implies, Nat.zero_le, Nat.le_refl, Nat.sub_self, Nat.sub_zero, if_true, if_false, reduceIte, Nat.reduceAdd, Nat.reduceSub, Nat.reduceLeDiff, Nat.reduceLT, Nat.reduceEqDiff, Int.reduceEq, Int.reduceNeg, Int.reduceLT, Int.reduceLE, pw_k0 hG, pw_k129 hG, pw_l129 hG]
  refine c_node hG hR hO n0 n1 w0 w1 (fun M1 h1 h2 => ?_)
  simp only [x_run, x_ci, x_cl, x_bin, x_dv, x_lbin, x_ldv, x_un, x_lcmp, x_lshl, x_dup0, x_dup2r, x_dup2, x_pop0, x_go, x_if1, x_if2, x_retf, x_rett, x_lret, x_vret, x_ald, x_bald, x_ast, x_bast, x_aast, x_oi, x_mx, x_acp, x_new, x_newa, x_anew, x_wt0, x_wti, x_wtl, x_wtr, x_lst4, x_lst8, x_ld0, x_st0, x_inc0, x_ld1, x_st1, x_inc1, x_ld2, x_st2, x_inc2, x_ld3, x_st3, x_inc3, x_ld4, x_st4, x_inc4, x_ld5, x_st5, x_inc5, x_ld6, x_st6, x_inc6, x_ld7, x_st7, x_inc7, x_ld8, x_st8, x_inc8, x_ld9, x_st9, x_inc9, x_ld10, x_st10, x_inc10, x_ld11, x_st11, x_inc11, x_ld12, x_st12, x_inc12, x_ld13, x_st13, x_inc13, x_get_0, x_put_0, x_get_1, x_put_1, x_get_2, x_put_2, x_get_3, x_put_3, x_get_4, x_put_4, x_get_5, x_put_5, x_get_6, x_put_6, x_get_7, x_put_7, x_get_8, x_put_8, x_get_9, x_put_9, x_get_10, x_put_10, x_get_11, x_put_11, x_get_12, x_put_12, x_get_13, x_put_13, x_get_14, x_put_14, x_get_15, x_put_15, x_get_16, x_put_16, x_get_17, x_put_17, x_get_18, x_put_18, x_get_19, x_put_19, x_get_20, x_put_20, x_get_21, x_put_21, x_get_22, x_put_22, x_get_23, x_put_23, x_get_24, x_put_24, x_get_25, x_put_25, x_get_26, x_put_26, x_get_27, x_put_27, x_get_28, x_put_28, x_get_29, x_put_29, x_get_30, x_put_30, x_get_31, x_put_31, x_get_32, x_put_32, x_get_33, x_put_33, x_get_34, x_put_34, x_get_35, x_put_35, x_get_36, x_put_36, x_get_37, x_put_37, x_get_38, x_put_38, x_get_39, x_put_39, x_get_40, x_put_40, x_get_41, x_put_41, x_get_42, x_put_42, x_get_43, x_put_43, x_get_44, x_put_44, x_invS0, x_invV0, x_invS1, x_invV1, x_invS2, x_invV2, x_invS3, x_invV3, x_invS4, x_invV4, x_invS5, x_invV5, x_invS6, x_invV6, x_invS7, x_invV7, true_and, and_true, true_or, or_true, false_or, or_false, ne_eq, not_true_eq_false, not_false_eq_true, implies_true, true_implies, false_implies, Nat.zero_le, Nat.le_refl, Nat.sub_self, Nat.sub_zero, if_true, if_false, reduceIte, Nat.reduceAdd, Nat.reduceSub, Nat.reduceLeDiff, Nat.reduceLT, Nat.reduceEqDiff, Int.reduceEq, Int.reduceNeg, Int.reduceLT, Int.reduceLE, pw_k0 hG, pw_k129 hG, pw_l129 hG]
  refine ms_gq (kL_node G Q (d + 4)) rfl ?_
  simp only [x_run, x_ci, x_cl, x_bin, x_dv, x_lbin, x_ldv, x_un, x_lcmp, x_lshl, x_dup0, x_dup2r, x_dup2, x_pop0, x_go, x_if1, x_if2, x_retf, x_rett, x_lret, x_vret, x_ald, x_bald, x_ast, x_bast, x_aast, x_oi, x_mx, x_acp, x_new, x_newa, x_anew, x_wt0, x_wti, x_wtl, x_wtr, x_lst4, x_lst8, x_ld0, x_st0, x_inc0, x_ld1, x_st1, x_inc1, x_ld2, x_st2, x_inc2, x_ld3, x_st3, x_inc3, x_ld4, x_st4, x_inc4, x_ld5, x_st5, x_inc5, x_ld6, x_st6, x_inc6, x_ld7, x_st7, x_inc7, x_ld8, x_st8, x_inc8, x_ld9, x_st9, x_inc9, x_ld10, x_st10, x_inc10, x_ld11, x_st11, x_inc11, x_ld12, x_st12, x_inc12, x_ld13, x_st13, x_inc13, x_get_0, x_put_0, x_get_1, x_put_1, x_get_2, x_put_2, x_get_3, x_put_3, x_get_4, x_put_4, x_get_5, x_put_5, x_get_6, x_put_6, x_get_7, x_put_7, x_get_8, x_put_8, x_get_9, x_put_9, x_get_10, x_put_10, x_get_11, x_put_11, x_get_12, x_put_12, x_get_13, x_put_13, x_get_14, x_put_14, x_get_15, x_put_15, x_get_16, x_put_16, x_get_17, x_put_17, x_get_18, x_put_18, x_get_19, x_put_19, x_get_20, x_put_20, x_get_21, x_put_21, x_get_22, x_put_22, x_get_23, x_put_23, x_get_24, x_put_24, x_get_25, x_put_25, x_get_26, x_put_26, x_get_27, x_put_27, x_get_28, x_put_28, x_get_29, x_put_29, x_get_30, x_put_30, x_get_31, x_put_31, x_get_32, x_put_32, x_get_33, x_put_33, x_get_34, x_put_34, x_get_35, x_put_35, x_get_36, x_put_36, x_get_37, x_put_37, x_get_38, x_put_38, x_get_39, x_put_39, x_get_40, x_put_40, x_get_41, x_put_41, x_get_42, x_put_42, x_get_43, x_put_43, x_get_44, x_put_44, x_invS0, x_invV0, x_invS1, x_invV1, x_invS2, x_invV2, x_invS3, x_invV3, x_invS4, x_invV4, x_invS5, x_invV5, x_invS6, x_invV6, x_invS7, x_invV7, true_and, and_true, true_or, or_true, false_or, or_false, ne_eq, not_true_eq_false, not_false_eq_true, implies_true, true_implies, false_implies, Nat.zero_le, Nat.le_refl, Nat.sub_self, Nat.sub_zero, if_true, if_false, reduceIte, Nat.reduceAdd, Nat.reduceSub, Nat.reduceLeDiff, Nat.reduceLT, Nat.reduceEqDiff, Int.reduceEq, Int.reduceNeg, Int.reduceLT, Int.reduceLE]
  exact K M1 h1 h2
theorem nx_thr {n w : Int} (hG : pw_G Γ) (hR : pw_RC M S) (hO : pw_SO S) (hno : ¬ (0 ≤ n ∧ n < S.P.1 + S.P.2.1 ∧ 0 ≤ w ∧ w ≤ 6)) (htr : G.1.stackTraces = false) (K : Q (0, 1) Γ M) : nx_Call G (d + 5) [(2, 0), (0, n), (0, w), (2, 129)] Γ M Q := by
  intro as sz hlen hM hav
  have hn : -2147483648 ≤ n ∧ n < 2147483648 := hav (0, n) (by simp)
  have hw : -2147483648 ≤ w ∧ w < 2147483648 := hav (0, w) (by simp)
  refine nx_ofWH (cc := cL_node) (maxL := 5) (ret := some .int) (hh := nx_h) (by decide +kernel) rfl ?_
  intro p e s m args below meth c s₁ B hml hv
  obtain ⟨⟨ha, rfl, hP, hK, hD⟩, hW, hU, hN⟩ := hv
  have ea : [((2, 0) : ms_V), (0, n), (0, w), (2, 129)].map (ms_cv as) = [.ref (as.getD 0 0), .int (Int32.ofInt n), .int (Int32.ofInt w), .ref (as.getD 129 0)] := by
    show [ms_cv as (2, ((0 : Nat) : Int)), _, _, ms_cv as (2, ((129 : Nat) : Int))] = _
    rw [ms_cv2, ms_cv2]
    rfl
  rw [ea] at ha
  subst ha
  have hts := atoms_spec (ws := nx_wd) B.pre
  have hlk := B.notSynchronized
  have hx := B.exec
  have hb := B.bytes
  have htsB : ∀ w9 ∈ ms_B, w9.before [Value.ref (as.getD 0 0), .int (Int32.ofInt n), .int (Int32.ofInt w), .ref (as.getD 129 0)].toArray s = true := fun w9 hw9 => hts w9 (List.mem_cons_of_mem _ hw9)
  have hown : s.vm.findClass RL = some m.cls := findClass_of_methodNamed B.named
  have htab : c.exceptionTable.toList = [] ++ (⟨0, 10, 13, 13⟩ : ExceptionTableEntry) :: [] := vx_table (x := yL_node) B (hts (Cond.codeWith yL_node cL_node 5 (some .int) nx_h) List.mem_cons_self)
  have hl := lv_entry ([.ref (as.getD 0 0), .int (Int32.ofInt n), .int (Int32.ofInt w), .ref (as.getD 129 0)]) (n := 5) (Nat.le_of_ble_eq_true rfl)
  rw [lg_entry_eq]
  generalize (lg_sl ([.ref (as.getD 0 0), .int (Int32.ofInt n), .int (Int32.ofInt w), .ref (as.getD 129 0)]) ++ List.replicate (5 - (lg_sl ([.ref (as.getD 0 0), .int (Int32.ofInt n), .int (Int32.ofInt w), .ref (as.getD 129 0)])).length) Slot.unset).toArray = lsC at hl ⊢
  have hl : lv_has lsC 5 [(0, .ref (as.getD 0 0)), (1, .int (Int32.ofInt n)), (2, .int (Int32.ofInt w)), (3, .ref (as.getD 129 0))] := hl
  have hat : (ms_ws G as Γ M)[0]? = some (as.getD 0 0, .inr (11, ms_fs as M 0 11 17)) := by rw [ms_ws_at (lw_cell0 hG), ms_cell_obj rfl (by decide)]
  have hrecv := va_recv hK.1 hP (q := (RX11, TX11, 17)) rfl hat
  refine lv_aload_n hx hb dL_node_0 rfl (lv_at hl 3 rfl) ?_
  refine lv_iconst (v := Int32.ofInt 0) hx hb dL_node_1 rfl ?_
  refine lv_aload_n hx hb dL_node_2 rfl (lv_at hl 0 rfl) ?_
  refine lv_iload_n hx hb dL_node_3 rfl (lv_at hl 1 rfl) ?_
  refine lv_iload_n hx hb dL_node_4 rfl (lv_at hl 2 rfl) ?_
  have hpre : PreV s s.heap RX11 (as.getD 0 0) (fun v U => ms_Pc G as s.heap.size [(2, 0), (0, n), (0, w)] Γ M v U ∧ nx_K (ms_A as s.heap.size) U) [.int (Int32.ofInt n), .int (Int32.ofInt w)] := by
    refine ⟨fun a U g mk q => ⟨ms_blind a U g mk q.1, nx_same (s := U) (U := U.calling g mk a) rfl q.2.1, vx_Zq.moved (u := U) (U := U.calling g mk a) (Vm.Alike.refl U.vm) q.2.2.1, vx_Zq.moved (u := U) (U := U.calling g mk a) (Vm.Alike.refl U.vm) q.2.2.2⟩, hrecv, fun U hU9 hW' => ⟨⟨?_, by rw [hU9], by rw [hU9]; exact hP, hK.warm hW', hD⟩, nx_warm hW' hW, by rw [hU9]; exact vx_Zq.moved hW'.alike hU, by rw [hU9]; exact vx_Zq.moved hW'.alike hN⟩⟩
    show [Value.ref (as.getD 0 0), .int (Int32.ofInt n), .int (Int32.ofInt w)].toArray = ([ms_cv as (2, ((0 : Nat) : Int)), _, _]).toArray
    rw [ms_cv2]
    rfl
  have hr := vx_runV (e := e) (below := below) (meth := meth) (locs := []) (cells := 0) (slots := 0) (R := (headSpec nx_wd (ms_room (d + 5) 1 6)).room) (H := s.heap) (C := RX11) (b := as.getD 0 0) (As := [.int (Int32.ofInt n), .int (Int32.ofInt w)]) (rest := [.int (Int32.ofInt 0), .ref (as.getD 129 0)]) (g := F0 m 5 lsC [.int (Int32.ofInt w), .int (Int32.ofInt n), .ref (as.getD 0 0), .int (Int32.ofInt 0), .ref (as.getD 129 0)]) ⟨hx, hb, hml, hown, htsB⟩ (nx_node (d := d) (sz := s.heap.size) hG hR hO hno htr hlen hM hn hw) ⟨callB_of 2 htsB (ms_good kw_836) rfl rfl rfl (htsB _ kw_76) (htsB _ kw_833) ⟨by decide +kernel, by decide +kernel, by decide +kernel⟩ ⟨by show d + 4 + 2 + 1 ≤ d + 5 + 2; omega, by show 8 + (3 + 11) + (64 * (d + 4) + 128) ≤ 64 * (d + 5) + 128; omega⟩, htsB _ kw_834, htsB _ kw_835⟩ hpre rfl rfl hl.1 rfl (lv_room (Nat.le_of_ble_eq_true rfl)) dL_node_5 ⟨by show 0 + 1 ≤ 1; omega, by show 0 + 6 ≤ 6; omega⟩
  intro T hT X
  rcases hr T hT X with ⟨v, st₀, t, T', L, h0, X', hL, e1, e2, hq, st⟩ | ⟨q, st₀, t, T', L, N9, ce, h0, X', hL, e1, e2, ⟨rfl, hPt, hF⟩, hce, hcv, hcl, st⟩
  · exact absurd hq id
  · have hw9 : vx_W p G.1 e (headSpec nx_wd (ms_room (d + 5) 1 6)).room s m [Value.ref (as.getD 0 0), .int (Int32.ofInt n), .int (Int32.ofInt w), .ref (as.getD 129 0)].toArray below meth c T'.heap ([] ++ L) (0 + 1) (0 + 6) (MQ below (ms_Qc G Q as s.heap.size) [Value.ref (as.getD 0 0), .int (Int32.ofInt n), .int (Int32.ofInt w), .ref (as.getD 129 0)].toArray s 1 6 (ms_A as s.heap.size)) (F0 m 5 lsC [.int (Int32.ofInt 0), .ref (as.getD 129 0)]) q := by
      refine vx_catch (E := nx_N) (name := nx_N) hown [] ⟨0, 10, 13, 13⟩ [] htab (fun z hz => absurd hz List.not_mem_nil) (by decide) (by decide) (htsB _ nx_w3) (va_Nw.use rfl (hW _ List.mem_cons_self)) (by rw [e1]; exact hce) hcv hcl ?_
      refine lv_astore (rest := []) (i := 4) hx hb dL_node_13 hl (by decide) rfl (fun ls' _ => ?_)
      refine lv_iconst (v := Int32.ofInt 1) hx hb dL_node_15 rfl ?_
      refine W.iret (v := Int32.ofInt 1) hx hb B.returns (fun t9 ht9 _ => ⟨⟨(0, 1), Γ, M, as, rfl, K, fun _ => ?_, hlen, List.prefix_refl _, hM, by rw [ht9, e1]; exact hPt, nx_own hlen hD⟩, ?_, fun z z1 z2 => ?_⟩) (fun z hz => hL z hz) dL_node_16 hlk
      · show (-2147483648 : Int) ≤ 1 ∧ (1 : Int) < 2147483648
        omega
      · rw [ht9, e1, ← h0]
        exact hF.1
      · rw [ht9, e1, hF.2 z (by rw [h0]; exact z1) z2, h0]
    obtain ⟨t2, a1, b1⟩ := hw9 T' rfl X'
    exact ⟨t2, st.trans a1, b1⟩
theorem nx_L {n w : Int} (hG : pw_G Γ) (hR : pw_RC M S) (hO : pw_SO S) (htr : G.1.stackTraces = false) (K1 : 0 ≤ n → n < S.P.1 + S.P.2.1 → 0 ≤ w → w ≤ 6 → ∀ M', pw_RC M' S → pw_hi M M' → Q (0, 0) Γ (ms_up M' 129 0 (pw_anode S n w))) (K0 : ¬ (0 ≤ n ∧ n < S.P.1 + S.P.2.1 ∧ 0 ≤ w ∧ w ≤ 6) → Q (0, 1) Γ M) : nx_Call G (d + 5) [(2, 0), (0, n), (0, w), (2, 129)] Γ M Q := by
  by_cases h : 0 ≤ n ∧ n < S.P.1 + S.P.2.1 ∧ 0 ≤ w ∧ w ≤ 6
  · exact nx_ret hG hR hO h.1 h.2.1 h.2.2.1 h.2.2.2 (K1 h.1 h.2.1 h.2.2.1 h.2.2.2)
  · exact nx_thr hG hR hO h htr (K0 h)
end NXL
