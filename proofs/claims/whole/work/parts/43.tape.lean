/-! ===== methods of a class some of whose others are run otherwise (Math) ===== -/
theorem ms_metF {l : Launch} {y : MethodName} {ws ws' : List Cond} {rm : Room} {Pc : Array Value → State → Prop} {Qc : Array Value → State → Outcome → State → Prop} {mc ms : Nat} {free : Addr → Prop} {cc : ByteArray} {maxL : Nat} {ret : Option FieldType}
    (hy : plainFor y = true) (hw : ws = Cond.code y cc maxL ret :: ws')
    (body : ∀ p e s m args below meth c s₁, BodyLoose p l y (headSpec ws rm) cc maxL ret e s m args below meth c s₁ → c.maxLocals = maxL → Pc args s →
      W p l e (headSpec ws rm).room s m args below meth c s.heap [] 0 0 (MQ below Qc args s mc ms free) (entryFrame m args maxL)) : Met l y ws rm Pc Qc mc ms free := by
  refine MetFree.of_bodySF (code := cc) (maxLocals := maxL) (ret := ret) hy (fun args s m h hn => ?_) (fun p e s m args below meth c s₁ B hml hP _ => ?_)
  · have h9 := Cond.code_spec hn (atoms_spec (ws := ws) h _ (by rw [hw]; exact List.mem_cons_self))
    exact h9.imp fun meth q => q.imp fun c z => ⟨z.1, z.2.1, z.2.2.1, z.2.2.2.1, z.2.2.2.2.1, z.2.2.2.2.2.1⟩
  · have hh0 : s₁.heap = s.heap := by rw [B.state]; rfl
    exact (body p e s m args below meth c s₁ B hml hP s₁ hh0 (Stand.of_body B)).elim fun t z => z.2.elim fun o w => ⟨t, o, z.1, w.1, w.2.1, ⟨w.2.2.1, w.2.2.2⟩⟩
set_option maxHeartbeats 4000000 in
theorem ms_Call.ofAtF {G : ms_G} {y : ms_Y} {d mc ms : Nat} {av : List ms_V} {Γ : List ms_Sh} {M : ms_M} {Q : ms_Q} (hy : plainFor y.1 = true) (hn : (ms_fl av).length ≤ y.2.2.1) (h : ms_Mok Γ M → (∀ v ∈ av, ms_vok Γ.length v) → ms_At G Q y d mc ms 0 (ms_ini y.2.2.1 av) [] Γ M) : ms_Call G y d mc ms av Γ M Q := by
  intro as sz hl hM hav
  refine ms_metF (cc := y.2.1) (maxL := y.2.2.1) (ret := y.2.2.2) hy rfl ?_
  intro p e s m args below meth c s₁ B hml hv
  obtain ⟨rfl, rfl, hP, hK, hD⟩ := hv
  have hts := atoms_spec (ws := ms_wd y) B.pre
  have hlk := B.notSynchronized
  have hC : ms_Ctx G y d p (headSpec (ms_wd y) (ms_room d mc ms)).room s m (av.map (ms_cv as)).toArray meth c := ⟨B.exec, B.bytes, hml, findClass_of_methodNamed B.named, fun w hw => hts w (List.mem_cons_of_mem _ hw), B.returns, hlk, (name_of_methodNamed B.named B.method).1, hK, Nat.le_refl _, Nat.le_refl _⟩
  have hlen := ms_sl_len (as := as) av hav
  have hent := lv_entry (av.map (ms_cv as)) (n := y.2.2.1) (by rw [hlen]; exact hn)
  rw [lg_entry_eq]
  refine h hM hav p e _ s m _ below meth c as as s.heap [] 0 0 _ mc ms _ hC ?_ ⟨hl, List.prefix_refl _, hM, hP, ?_, va_S.rf⟩ ?_ (fun v hv => absurd hv List.not_mem_nil) ?_ ?_ (by omega) (by omega) (Nat.le_refl _) (Nat.le_refl _)
  · intro v Γ' M' as' H locs cells slots lsC pc i hQ hR hlok hrok hdec hc1 hs1
    obtain ⟨e1, e2, e3, e4, e5, e6⟩ := hR
    refine W.widen hc1 hs1 ?_
    have hq : ∀ t : State, t.heap = H → ms_Qc G Q as s.heap.size (av.map (ms_cv as)).toArray s (.returned (ms_rs as' v)) t := fun t ht => ⟨⟨v, Γ', M', as', rfl, hQ, hlok, e1, e2, e3, by rw [ht]; exact e4, e5⟩, e6.F ht⟩
    rcases hrok with ⟨hv, rfl, hr⟩ | ⟨hv, rfl, hr⟩ | ⟨rfl, rfl, hr⟩
    · obtain ⟨t, x⟩ := v
      have hv : t = 0 := hv
      subst hv
      rcases hr with hr | ⟨hr, hx⟩
      · exact W.iret B.exec B.bytes (B.returns.trans hr) (fun t ht _ => hq t ht) e6.2.2 hdec hlk
      · refine W.zret (v := Int32.ofInt x) (ty := .boolean) B.exec B.bytes (B.returns.trans hr) ?_ (fun t ht _ => hq t ht) e6.2.2 hdec hlk
        rcases hx with hx | hx
        · have hx : x = 0 := hx
          subst hx
          rfl
        · have hx : x = 1 := hx
          subst hx
          rfl
    · obtain ⟨t, x⟩ := v
      have hv : t = 1 := hv
      subst hv
      exact W.lret (v := Int64.ofInt x) B.exec B.bytes (B.returns.trans hr) (fun t ht _ => hq t ht) e6.2.2 hdec hlk
    · exact W.vret B.exec B.bytes (B.returns.trans hr) (fun t ht _ => hq t ht) e6.2.2 hdec hlk
  · refine ⟨hD.1, fun k q hk => ?_⟩
    obtain ⟨sh, h1, rfl⟩ := ms_ws_inv hk
    exact Or.inl (ms_in_as (by rw [hl]; exact (List.getElem?_eq_some_iff.mp h1).1))
  · intro v hv
    rcases List.mem_append.mp hv with hv | hv
    · exact ms_fl_lok av hav v hv
    · rw [(List.mem_replicate.mp hv).2]
      intro q
      simp only at q
      omega
  · refine ⟨hent.1, hent.2.1, fun q hq => hent.2.2 q ?_⟩
    obtain ⟨v, h1, h2, h3⟩ := ms_ll_mem.mp hq
    have := ms_args_mem (as := as) av hav 0 q.1 (y.2.2.1 - (ms_fl av).length) v h1 h2
    rw [Nat.zero_add, ← h3] at this
    exact this
  · unfold ms_ini
    rw [List.length_append, List.length_replicate]
    omega
theorem ms_Call.ofF {G : ms_G} {y : ms_Y} {d mc ms : Nat} {av ls : List ms_V} {Γ : List ms_Sh} {M : ms_M} {Q : ms_Q} (hy : plainFor y.1 = true) (hn : (ms_fl av).length ≤ y.2.2.1) (hi : ms_ini y.2.2.1 av = ls) (h : ms_Mok Γ M → (∀ v ∈ av, ms_vok Γ.length v) → ms_At G Q y d mc ms 0 ls [] Γ M) : ms_Call G y d mc ms av Γ M Q := ms_Call.ofAtF hy hn (by rw [hi]; exact h)
theorem wbyte_i2b (x : Int) : wbyte (wi2b x) = wi2b x := by
  unfold wbyte wi2b
  rw [Int32.ofInt_toInt, Int8.toInt8_toInt32]
/-! ===== Math.floorMod; the tape ===== -/
theorem wrem_any {a b : Int} (ha : -2147483648 ≤ a) (ha1 : a < 2147483648) (hb : 0 < b) (hb1 : b < 2147483648) : wrem a b = Int.tmod a b := by
  have hq : -2147483648 ≤ a.tdiv b ∧ a.tdiv b < 2147483648 := by
    rcases Int.le_total 0 a with h | h
    · rw [Int.tdiv_eq_ediv_of_nonneg h]
      have h1 : 0 ≤ a / b := Int.ediv_nonneg h (by omega)
      have h2 : a / b ≤ a := Int.ediv_le_self b h
      omega
    · have e : a.tdiv b = -((-a) / b) := by
        rw [← Int.tdiv_eq_ediv_of_nonneg (by omega : 0 ≤ -a), Int.neg_tdiv]
        omega
      have h1 : 0 ≤ (-a) / b := Int.ediv_nonneg (by omega) (by omega)
      have h2 : (-a) / b ≤ -a := Int.ediv_le_self b (by omega)
      omega
  have h2 : Int32.ofInt a / Int32.ofInt b = Int32.ofInt (a.tdiv b) := by
    have e : (Int32.ofInt a / Int32.ofInt b).toInt = a.tdiv b := by
      rw [Int32.toInt_div, w32_toInt (by omega), w32_toInt (by omega)]
      exact bmod32 (by omega) (by omega)
    rw [← e, Int32.ofInt_toInt]
  unfold wrem
  rw [h2, ← Int32.ofInt_mul, ← Int32.ofInt_sub, w32_eq]
  have e : a - a.tdiv b * b = Int.tmod a b := by
    rw [Int.tmod_def, Int.mul_comm]
  rw [e]
  have h3 : -b < Int.tmod a b ∧ Int.tmod a b < b := by
    refine ⟨?_, Int.tmod_lt_of_pos a hb⟩
    have := Int.lt_tmod_of_pos a hb
    omega
  exact w32_id (by omega) (by omega)
theorem wxor_sign {a b : Int} (ha : -2147483648 ≤ a) (ha1 : a < 2147483648) (hb : 0 < b) (hb1 : b < 2147483648) : 0 ≤ wxor a b ↔ 0 ≤ a := by
  have e : wxor a b = ((Int32.ofInt a).toBitVec ^^^ (Int32.ofInt b).toBitVec).toInt := rfl
  have m1 : (Int32.ofInt a).toBitVec.msb = decide (a < 0) := by
    rw [BitVec.msb_eq_toInt, show (Int32.ofInt a).toBitVec.toInt = (Int32.ofInt a).toInt from rfl, w32_toInt ⟨ha, ha1⟩]
  have m2 : (Int32.ofInt b).toBitVec.msb = false := by
    rw [BitVec.msb_eq_toInt, show (Int32.ofInt b).toBitVec.toInt = (Int32.ofInt b).toInt from rfl, w32_toInt ⟨by omega, hb1⟩]
    exact decide_eq_false (by omega)
  have m3 := BitVec.msb_eq_toInt (x := (Int32.ofInt a).toBitVec ^^^ (Int32.ofInt b).toBitVec)
  rw [BitVec.msb_xor, m1, m2, Bool.xor_false, ← e] at m3
  have := (decide_eq_decide.mp m3)
  omega
theorem tmod_emod {a b : Int} (hb : 0 < b) : a % b = if 0 ≤ a then Int.tmod a b else if Int.tmod a b = 0 then 0 else Int.tmod a b + b := by
  by_cases h : 0 ≤ a
  · rw [if_pos h, Int.tmod_eq_emod_of_nonneg h]
  · rw [if_neg h]
    have e : Int.tmod a b = -((-a) % b) := by
      rw [← Int.tmod_eq_emod_of_nonneg (by omega : 0 ≤ -a), Int.neg_tmod]
      omega
    rw [e]
    have h1 := Int.emod_nonneg (-a) (by omega : b ≠ 0)
    have h2 := Int.emod_lt_of_pos (-a) hb
    have h3 := Int.emod_add_mul_ediv (-a) b
    by_cases h0 : -((-a) % b) = 0
    · rw [if_pos h0]
      have : a = b * (-((-a) / b)) := by rw [Int.mul_neg]; omega
      rw [this]
      exact Int.mul_emod_right b _
    · rw [if_neg h0]
      have : a = (-((-a) % b) + b) + b * (-((-a) / b) - 1) := by rw [Int.mul_sub, Int.mul_neg]; omega
      rw [this, Int.add_mul_emod_self_left]
      rw [← this]
      exact Int.emod_eq_of_lt (by omega) (by omega)
def pw_tp (b : Int → Int) (l w : Int) : Int → Int := fun j => if l ≤ j ∧ j < l + 4 then wi2b (wshr w (24 - 8 * (j - l))) else b j
section CTP
variable {G : ms_G} {Γ : List ms_Sh} {M : ms_M} {Q : ms_Q} {d : Nat}
set_option maxRecDepth 100000
set_option maxHeartbeats 4000000
theorem c_floorMod {x m : Int} (h0 : -2147483648 ≤ x) (h1 : x < 2147483648) (m0 : 2 ≤ m) (m1 : m ≤ 1000000000) (K : Q (0, x % m) Γ M) : ms_Call G mJ9_floorMod_7cf53 (d + 1) 0 0 [(0, x), (0, m)] Γ M Q := by
  have hx := tmod_emod (a := x) (b := m) (by omega)
  have hs := wxor_sign (a := x) (b := m) h0 h1 (by omega) (by omega)
  have hb1 := Int.lt_tmod_of_pos x (show 0 < m by omega)
  have hb2 := Int.tmod_lt_of_pos x (show 0 < m by omega)
  refine ms_Call.ofF (ls := [(0, x), (0, m), (3, 0)]) (by decide +kernel) (Nat.le_of_ble_eq_true rfl) rfl (fun hM hv => ?_)
  have r18 : ∀ z : Int, z = x % m → ms_At G Q mJ9_floorMod_7cf53 (d + 1) 0 0 18 [(0, x), (0, m), (0, z)] [] Γ M := by
    intro z hz
    refine ms_gq (kJ9_floorMod_7cf53 G Q d) rfl ?_
    simp only [x_run, x_ci, x_cl, x_bin, x_dv, x_lbin, x_ldv, x_un, x_lcmp, x_lshl, x_dup0, x_dup2r, x_dup2, x_pop0, x_go, x_if1, x_if2, x_retf, x_rett, x_lret, x_vret, x_ald, x_bald, x_ast, x_bast, x_aast, x_oi, x_mx, x_acp, x_new, x_newa, x_anew, x_wt0, x_wti, x_wtl, x_wtr, x_lst4, x_lst8, x_ld0, x_st0, x_inc0, x_ld1, x_st1, x_inc1, x_ld2, x_st2, x_inc2, x_ld3, x_st3, x_inc3, x_ld4, x_st4, x_inc4, x_ld5, x_st5, x_inc5, x_ld6, x_st6, x_inc6, x_ld7, x_st7, x_inc7, x_ld8, x_st8, x_inc8, x_ld9, x_st9, x_inc9, x_ld10, x_st10, x_inc10, x_ld11, x_st11, x_inc11, x_ld12, x_st12, x_inc12, x_ld13, x_st13, x_inc13, x_get_0, x_put_0, x_get_1, x_put_1, x_get_2, x_put_2, x_get_3, x_put_3, x_get_4, x_put_4, x_get_5, x_put_5, x_get_6, x_put_6, x_get_7, x_put_7, x_get_8, x_put_8, x_get_9, x_put_9, x_get_10, x_put_10, x_get_11, x_put_11, x_get_12, x_put_12, x_get_13, x_put_13, x_get_14, x_put_14, x_get_15, x_put_15, x_get_16, x_put_16, x_get_17, x_put_17, x_get_18, x_put_18, x_get_19, x_put_19, x_get_20, x_put_20, x_get_21, x_put_21, x_get_22, x_put_22, x_get_23, x_put_23, x_get_24, x_put_24, x_get_25, x_put_25, x_get_26, x_put_26, x_get_27, x_put_27, x_get_28, x_put_28, x_get_29, x_put_29, x_get_30, x_put_30, x_get_31, x_put_31, x_get_32, x_put_32, x_get_33, x_put_33, x_get_34, x_put_34, x_get_35, x_put_35, x_get_36, x_put_36, x_get_37, x_put_37, x_get_38, x_put_38, x_get_39, x_put_39, x_get_40, x_put_40, x_get_41, x_put_41, x_get_42, x_put_42, x_get_43, x_put_43, x_get_44, x_put_44, x_invS0, x_invV0, x_invS1, x_invV1, x_invS2, x_invV2, x_invS3, x_invV3, x_invS4, x_invV4, x_invS5, x_invV5, x_invS6, x_invV6, x_invS7, x_invV7, true_and, and_true, true_or, or_true, false_or, or_false, ne_eq, not_true_eq_false, not_false_eq_true, implies_true, true_implies, false_implies, Nat.zero_le, Nat.le_refl, Nat.sub_self, Nat.sub_zero, if_true, if_false, reduceIte, Nat.reduceAdd, Nat.reduceSub, Nat.reduceLeDiff, Nat.reduceLT, Nat.reduceEqDiff, Int.reduceEq, Int.reduceNeg, Int.reduceLT, Int.reduceLE]
    rw [hz]
    exact K
  refine ms_gq (kJ9_floorMod_7cf53 G Q d) rfl ?_
  simp only [x_run, x_ci, x_cl, x_bin, x_dv, x_lbin, x_ldv, x_un, x_lcmp, x_lshl, x_dup0, x_dup2r, x_dup2, x_pop0, x_go, x_if1, x_if2, x_retf, x_rett, x_lret, x_vret, x_ald, x_bald, x_ast, x_bast, x_aast, x_oi, x_mx, x_acp, x_new, x_newa, x_anew, x_wt0, x_wti, x_wtl, x_wtr, x_lst4, x_lst8, x_ld0, x_st0, x_inc0, x_ld1, x_st1, x_inc1, x_ld2, x_st2, x_inc2, x_ld3, x_st3, x_inc3, x_ld4, x_st4, x_inc4, x_ld5, x_st5, x_inc5, x_ld6, x_st6, x_inc6, x_ld7, x_st7, x_inc7, x_ld8, x_st8, x_inc8, x_ld9, x_st9, x_inc9, x_ld10, x_st10, x_inc10, x_ld11, x_st11, x_inc11, x_ld12, x_st12, x_inc12, x_ld13, x_st13, x_inc13, x_get_0, x_put_0, x_get_1, x_put_1, x_get_2, x_put_2, x_get_3, x_put_3, x_get_4, x_put_4, x_get_5, x_put_5, x_get_6, x_put_6, x_get_7, x_put_7, x_get_8, x_put_8, x_get_9, x_put_9, x_get_10, x_put_10, x_get_11, x_put_11, x_get_12, x_put_12, x_get_13, x_put_13, x_get_14, x_put_14, x_get_15, x_put_15, x_get_16, x_put_16, x_get_17, x_put_17, x_get_18, x_put_18, x_get_19, x_put_19, x_get_20, x_put_20, x_get_21, x_put_21, x_get_22, x_put_22, x_get_23, x_put_23, x_get_24, x_put_24, x_get_25, x_put_25, x_get_26, x_put_26, x_get_27, x_put_27, x_get_28, x_put_28, x_get_29, x_put_29, x_get_30, x_put_30, x_get_31, x_put_31, x_get_32, x_put_32, x_get_33, x_put_33, x_get_34, x_put_34, x_get_35, x_put_35, x_get_36, x_put_36, x_get_37, x_put_37, x_get_38, x_put_38, x_get_39, x_put_39, x_get_40, x_put_40, x_get_41, x_put_41, x_get_42, x_put_42, x_get_43, x_put_43, x_get_44, x_put_44, x_invS0, x_invV0, x_invS1, x_invV1, x_invS2, x_invV2, x_invS3, x_invV3, x_invS4, x_invV4, x_invS5, x_invV5, x_invS6, x_invV6, x_invS7, x_invV7, true_and, and_true, true_or, or_true, false_or, or_false, ne_eq, not_true_eq_false, not_false_eq_true, implies_true, true_implies, false_implies, Nat.zero_le, Nat.le_refl, Nat.sub_self, Nat.sub_zero, if_true, if_false, reduceIte, Nat.reduceAdd, Nat.reduceSub, Nat.reduceLeDiff, Nat.reduceLT, Nat.reduceEqDiff, Int.reduceEq, Int.reduceNeg, Int.reduceLT, Int.reduceLE]
  rw [wrem_any h0 h1 (by omega) (by omega)]
  refine ⟨by omega, fun q => r18 _ ?_, fun q => ?_⟩
  · rw [hx, if_pos (hs.mp q)]
  · rw [if_neg (fun z => q (hs.mpr z))] at hx
    refine ⟨fun q1 => r18 _ ?_, fun q1 => ?_⟩
    · rw [hx, if_pos q1]; exact q1
    · rw [w32_id (by omega) (by omega)]
      rw [hx, if_neg q1] at K
      exact K
theorem c_tape {l w : Int} (hG : pw_G Γ) (h0 : M 74 0 = 75) (h1 : M 74 1 = l) (l0 : 0 ≤ l) (l1 : l + 4 ≤ 500) (K : ∀ M', (∀ c, c ≠ 74 → c ≠ 75 → M' c = M c) → M' 74 0 = 75 → M' 74 1 = l + 4 → M' 75 = pw_tp (M 75) l w → Q (3, 0) Γ M') : ms_Call G mX7_append (d + 1) 0 0 [(2, 74), (0, w)] Γ M Q := by
  refine ms_Call.of (ls := [(2, 74), (0, w), (3, 0)]) (by decide +kernel) (Nat.le_of_ble_eq_true rfl) rfl (fun hM hv => ?_)
  have loop := pw_up (hi := 4) (p := fun i => 0 ≤ i → ∀ M1 : ms_M, (∀ c, c ≠ 74 → c ≠ 75 → M1 c = M c) → M1 74 0 = 75 → M1 74 1 = l + i → (∀ j, M1 75 j = if l ≤ j ∧ j < l + i then wi2b (wshr w (24 - 8 * (j - l))) else M 75 j) → ms_At G Q mX7_append (d + 1) 0 0 3 [(2, 74), (0, w), (0, 24 - 8 * i)] [] Γ M1) (by
    intro i hi ih hi0 M1 hf e0 e1 hr
    have u1 : ∀ j v, ms_up M1 75 j v 74 1 = l + i := fun j v => by rw [ms_up_a (by omega)]; exact e1
    refine ms_gq (kX7_append G Q d) rfl ?_
    simp only [x_run, x_ci, x_cl, x_bin, x_dv, x_lbin, x_ldv, x_un, x_lcmp, x_lshl, x_dup0, x_dup2r, x_dup2, x_pop0, x_go, x_if1, x_if2, x_retf, x_rett, x_lret, x_vret, x_ald, x_bald, x_ast, x_bast, x_aast, x_oi, x_mx, x_acp, x_new, x_newa, x_anew, x_wt0, x_wti, x_wtl, x_wtr, x_lst4, x_lst8, x_ld0, x_st0, x_inc0, x_ld1, x_st1, x_inc1, x_ld2, x_st2, x_inc2, x_ld3, x_st3, x_inc3, x_ld4, x_st4, x_inc4, x_ld5, x_st5, x_inc5, x_ld6, x_st6, x_inc6, x_ld7, x_st7, x_inc7, x_ld8, x_st8, x_inc8, x_ld9, x_st9, x_inc9, x_ld10, x_st10, x_inc10, x_ld11, x_st11, x_inc11, x_ld12, x_st12, x_inc12, x_ld13, x_st13, x_inc13, x_get_0, x_put_0, x_get_1, x_put_1, x_get_2, x_put_2, x_get_3, x_put_3, x_get_4, x_put_4, x_get_5, x_put_5, x_get_6, x_put_6, x_get_7, x_put_7, x_get_8, x_put_8, x_get_9, x_put_9, x_get_10, x_put_10, x_get_11, x_put_11, x_get_12, x_put_12, x_get_13, x_put_13, x_get_14, x_put_14, x_get_15, x_put_15, x_get_16, x_put_16, x_get_17, x_put_17, x_get_18, x_put_18, x_get_19, x_put_19, x_get_20, x_put_20, x_get_21, x_put_21, x_get_22, x_put_22, x_get_23, x_put_23, x_get_24, x_put_24, x_get_25, x_put_25, x_get_26, x_put_26, x_get_27, x_put_27, x_get_28, x_put_28, x_get_29, x_put_29, x_get_30, x_put_30, x_get_31, x_put_31, x_get_32, x_put_32, x_get_33, x_put_33, x_get_34, x_put_34, x_get_35, x_put_35, x_get_36, x_put_36, x_get_37, x_put_37, x_get_38, x_put_38, x_get_39, x_put_39, x_get_40, x_put_40, x_get_41, x_put_41, x_get_42, x_put_42, x_get_43, x_put_43, x_get_44, x_put_44, x_invS0, x_invV0, x_invS1, x_invV1, x_invS2, x_invV2, x_invS3, x_invV3, x_invS4, x_invV4, x_invS5, x_invV5, x_invS6, x_invV6, x_invS7, x_invV7, true_and, and_true, true_or, or_true, false_or, or_false, ne_eq, not_true_eq_false, not_false_eq_true, implies_true, true_implies, false_implies, Nat.zero_le, Nat.le_refl, Nat.sub_self, Nat.sub_zero, if_true, if_false, reduceIte, Nat.reduceAdd, Nat.reduceSub, Nat.reduceLeDiff, Nat.reduceLT, Nat.reduceEqDiff, Int.reduceEq, Int.reduceNeg, Int.reduceLT, Int.reduceLE, pw_k74 hG, pw_k75 hG, pw_l75 hG, e0, e1, u1]
    refine ⟨fun q => ms_gq (kX7_append G Q d) rfl ?_, fun q => ⟨fun q1 => by omega, fun q1 => ⟨by omega, by omega, ?_⟩⟩⟩
    · simp only [x_run, x_ci, x_cl, x_bin, x_dv, x_lbin, x_ldv, x_un, x_lcmp, x_lshl, x_dup0, x_dup2r, x_dup2, x_pop0, x_go, x_if1, x_if2, x_retf, x_rett, x_lret, x_vret, x_ald, x_bald, x_ast, x_bast, x_aast, x_oi, x_mx, x_acp, x_new, x_newa, x_anew, x_wt0, x_wti, x_wtl, x_wtr, x_lst4, x_lst8, x_ld0, x_st0, x_inc0, x_ld1, x_st1, x_inc1, x_ld2, x_st2, x_inc2, x_ld3, x_st3, x_inc3, x_ld4, x_st4, x_inc4, x_ld5, x_st5, x_inc5, x_ld6, x_st6, x_inc6, x_ld7, x_st7, x_inc7, x_ld8, x_st8, x_inc8, x_ld9, x_st9, x_inc9, x_ld10, x_st10, x_inc10, x_ld11, x_st11, x_inc11, x_ld12, x_st12, x_inc12, x_ld13, x_st13, x_inc13, x_get_0, x_put_0, x_get_1, x_put_1, x_get_2, x_put_2, x_get_3, x_put_3, x_get_4, x_put_4, x_get_5, x_put_5, x_get_6, x_put_6, x_get_7, x_put_7, x_get_8, x_put_8, x_get_9, x_put_9, x_get_10, x_put_10, x_get_11, x_put_11, x_get_12, x_put_12, x_get_13, x_put_13, x_get_14, x_put_14, x_get_15, x_put_15, x_get_16, x_put_16, x_get_17, x_put_17, x_get_18, x_put_18, x_get_19, x_put_19, x_get_20, x_put_20, x_get_21, x_put_21, x_get_22, x_put_22, x_get_23, x_put_23, x_get_24, x_put_24, x_get_25, x_put_25, x_get_26, x_put_26, x_get_27, x_put_27, x_get_28, x_put_28, x_get_29, x_put_29, x_get_30, x_put_30, x_get_31, x_put_31, x_get_32, x_put_32, x_get_33, x_put_33, x_get_34, x_put_34, x_get_35, x_put_35, x_get_36, x_put_36, x_get_37, x_put_37, x_get_38, x_put_38, x_get_39, x_put_39, x_get_40, x_put_40, x_get_41, x_put_41, x_get_42, x_put_42, x_get_43, x_put_43, x_get_44, x_put_44, x_invS0, x_invV0, x_invS1, x_invV1, x_invS2, x_invV2, x_invS3, x_invV3, x_invS4, x_invV4, x_invS5, x_invV5, x_invS6, x_invV6, x_invS7, x_invV7, true_and, and_true, true_or, or_true, false_or, or_false, ne_eq, not_true_eq_false, not_false_eq_true, implies_true, true_implies, false_implies, Nat.zero_le, Nat.le_refl, Nat.sub_self, Nat.sub_zero, if_true, if_false, reduceIte, Nat.reduceAdd, Nat.reduceSub, Nat.reduceLeDiff, Nat.reduceLT, Nat.reduceEqDiff, Int.reduceEq, Int.reduceNeg, Int.reduceLT, Int.reduceLE]
      have : i = 4 := by omega
      subst this
      exact K M1 hf e0 e1 (funext hr)
    · rw [w32_id (by omega) (by omega), w32_id (by omega) (by omega), show 24 - 8 * i + -8 = 24 - 8 * (i + 1) by omega]
      refine ih (i + 1) (by omega) (by omega) (by omega) _ (fun c c1 c2 => ?_) ?_ ?_ (fun j => ?_)
      · rw [ms_up_row c1, ms_up_row c2]; exact hf c c1 c2
      · rw [ms_up_j (by omega), ms_up_a (by omega)]; exact e0
      · rw [ms_up_same]; omega
      · rw [ms_up_a (by omega)]
        by_cases hj : j = l + i
        · rw [hj, ms_up_same, if_pos (by omega), show l + i - l = i by omega, wbyte_i2b]
        · rw [ms_up_j hj, hr j]
          by_cases hj2 : l ≤ j ∧ j < l + i
          · rw [if_pos hj2, if_pos (by omega)]
          · rw [if_neg hj2, if_neg (by omega)])
  refine ms_gq (kX7_append G Q d) rfl ?_
  simp only [x_run, x_ci, x_cl, x_bin, x_dv, x_lbin, x_ldv, x_un, x_lcmp, x_lshl, x_dup0, x_dup2r, x_dup2, x_pop0, x_go, x_if1, x_if2, x_retf, x_rett, x_lret, x_vret, x_ald, x_bald, x_ast, x_bast, x_aast, x_oi, x_mx, x_acp, x_new, x_newa, x_anew, x_wt0, x_wti, x_wtl, x_wtr, x_lst4, x_lst8, x_ld0, x_st0, x_inc0, x_ld1, x_st1, x_inc1, x_ld2, x_st2, x_inc2, x_ld3, x_st3, x_inc3, x_ld4, x_st4, x_inc4, x_ld5, x_st5, x_inc5, x_ld6, x_st6, x_inc6, x_ld7, x_st7, x_inc7, x_ld8, x_st8, x_inc8, x_ld9, x_st9, x_inc9, x_ld10, x_st10, x_inc10, x_ld11, x_st11, x_inc11, x_ld12, x_st12, x_inc12, x_ld13, x_st13, x_inc13, x_get_0, x_put_0, x_get_1, x_put_1, x_get_2, x_put_2, x_get_3, x_put_3, x_get_4, x_put_4, x_get_5, x_put_5, x_get_6, x_put_6, x_get_7, x_put_7, x_get_8, x_put_8, x_get_9, x_put_9, x_get_10, x_put_10, x_get_11, x_put_11, x_get_12, x_put_12, x_get_13, x_put_13, x_get_14, x_put_14, x_get_15, x_put_15, x_get_16, x_put_16, x_get_17, x_put_17, x_get_18, x_put_18, x_get_19, x_put_19, x_get_20, x_put_20, x_get_21, x_put_21, x_get_22, x_put_22, x_get_23, x_put_23, x_get_24, x_put_24, x_get_25, x_put_25, x_get_26, x_put_26, x_get_27, x_put_27, x_get_28, x_put_28, x_get_29, x_put_29, x_get_30, x_put_30, x_get_31, x_put_31, x_get_32, x_put_32, x_get_33, x_put_33, x_get_34, x_put_34, x_get_35, x_put_35, x_get_36, x_put_36, x_get_37, x_put_37, x_get_38, x_put_38, x_get_39, x_put_39, x_get_40, x_put_40, x_get_41, x_put_41, x_get_42, x_put_42, x_get_43, x_put_43, x_get_44, x_put_44, x_invS0, x_invV0, x_invS1, x_invV1, x_invS2, x_invV2, x_invS3, x_invV3, x_invS4, x_invV4, x_invS5, x_invV5, x_invS6, x_invV6, x_invS7, x_invV7, true_and, and_true, true_or, or_true, false_or, or_false, ne_eq, not_true_eq_false, not_false_eq_true, implies_true, true_implies, false_implies, Nat.zero_le, Nat.le_refl, Nat.sub_self, Nat.sub_zero, if_true, if_false, reduceIte, Nat.reduceAdd, Nat.reduceSub, Nat.reduceLeDiff, Nat.reduceLT, Nat.reduceEqDiff, Int.reduceEq, Int.reduceNeg, Int.reduceLT, Int.reduceLE]
  exact loop 0 (by omega) (by omega) M (fun _ _ _ => rfl) h0 (by omega) (fun j => by rw [if_neg (by omega)])
end CTP
