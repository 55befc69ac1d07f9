/-! ===== calls ===== -/
theorem ms_good {y' : ms_Y} (h : Cond.code y'.1 y'.2.1 y'.2.2.1 y'.2.2.2 ∈ ms_B) : GoodIn ms_B (ms_wd y') := fun w hw => by
  have hm : w ∈ ms_B := (List.mem_cons.mp hw).elim (fun q => by rw [q]; exact h) (fun q => q)
  exact ⟨hm, good_of_word (List.mem_filter.mp hm).2⟩
theorem ms_blind {G : ms_G} {as : List Nat} {sz : Nat} {av : List ms_V} {Γ : List ms_Sh} {M : ms_M} : FrameBlind (ms_Pc G as sz av Γ M) := fun a U g mk q => by
  obtain ⟨q0, q1, qP, qK, qD⟩ := q
  exact ⟨q0, q1, qP, ms_Kn.same (s := U) (U := U.calling g mk a) rfl qK, qD⟩
def ms_wt (st : List ms_V) : Nat := match st with
  | [] => 0
  | v :: r => (if v.1 = 1 then 2 else 1) + ms_wt r
theorem ms_wt_cat {as : List Nat} {N : Nat} : ∀ (st : List ms_V), (∀ v ∈ st, ms_vok N v) → ((st.map (ms_cv as)).map fun v => v.category).sum = ms_wt st
  | [], _ => rfl
  | u :: r, h => by
    have ih := ms_wt_cat (as := as) r (fun v hv => h v (List.mem_cons_of_mem _ hv))
    have e : ms_wt (u :: r) = (if u.1 = 1 then 2 else 1) + ms_wt r := rfl
    rw [List.map_cons, List.map_cons, List.sum_cons, ih, e]
    have hu := h u List.mem_cons_self
    by_cases h1 : u.1 = 1
    · rw [if_pos h1, (ms_cat (ms_vok_lt hu)).mpr h1]
    · rw [if_neg h1, ms_cat1 hu h1]
section MSC
variable {G : ms_G} {Q : ms_Q} {y : ms_Y} {d pc : Nat}
theorem ms_back {K : ms_K} (hK : ∀ kc ks ls st Γ M, K kc ks ls st Γ M → ms_At G Q y d kc ks (pc + 3) ls st Γ M) {kc ks mc' ms' : Nat} {ls rest : List ms_V} {Γ : List ms_Sh} {M : ms_M} {p : Program} {e : Env} {R : Room} {s : State} {m : MethodId} {args : Array Value} {below : List Frame} {meth : Method} {c : Code} {as0 as : List Nat} {H : Heap} {locs : List Loc} {cells slots : Nat} {lsC : Array Slot} {mc ms : Nat} {Z : State → Prop} {a : Array Value} {st0 : List Value}
    (hC : ms_Ctx G y d p R s m args meth c) (hR : ms_Ret G Q y p e R s m args below meth c as0 mc ms Z) (hP : ms_Rep G s as0 as Γ M H locs) (hl : ∀ v ∈ ls, ms_lok Γ.length v) (hs : ∀ v ∈ rest, ms_vok Γ.length v) (hL : lv_has lsC y.2.2.1 (ms_ll as ls)) (hn : ls.length = y.2.2.1) (h1 : cells + kc ≤ mc) (h2 : slots + ks ≤ ms) (h3 : mc ≤ R.cells) (h4 : ms ≤ R.slots) (hk1 : mc' ≤ kc) (hk2 : ms' ≤ ks)
    (hrun : va_Run p G.1 e R s m args below meth c H locs cells slots mc' ms' (F0 m pc lsC st0) (rest.map (ms_cv as)) (ms_Qc G (fun v Γ' M' => K (kc - mc') (ks - ms') ls (if v.1 < 3 then v :: rest else rest) Γ' M') as H.size a) (ms_A as H.size)) : W p G.1 e R s m args below meth c H locs cells slots Z (F0 m pc lsC st0) := by
  refine ms_callW hrun hP (fun v Γ' M' as' H1 locs1 hQ hlok hpre hRep => ?_)
  have hlen : Γ.length ≤ Γ'.length := by
    have := hpre.length_le
    rw [hP.1, hRep.1] at this
    exact this
  have em : rest.map (ms_cv as) = rest.map (ms_cv as') := List.map_congr_left (fun v hv => (ms_cv_ext hpre (by rw [hP.1]; exact hs v hv)).symm)
  have es : (ms_rs as' v).toList ++ rest.map (ms_cv as) = (if v.1 < 3 then v :: rest else rest).map (ms_cv as') := by
    unfold ms_rs
    by_cases hv : v.1 < 3
    · rw [if_pos hv, if_pos hv, em]; rfl
    · rw [if_neg hv, if_neg hv, em]; rfl
  rw [es]
  refine hK _ _ _ _ _ _ hQ p e R s m args below meth c as0 as' H1 locs1 (cells + mc') (slots + ms') lsC mc ms Z hC hR hRep (fun v hv q => ms_vok_mono hlen (hl v hv q)) (fun u hu => ?_) (ms_ll_ext hpre (fun v hv => by rw [hP.1]; exact hl v hv) hL) hn (by omega) (by omega) h3 h4
  by_cases hv : v.1 < 3
  · rw [if_pos hv] at hu
    rcases List.mem_cons.mp hu with hu | hu
    · rw [hu]; exact hlok hv
    · exact ms_vok_mono hlen (hs u hu)
  · rw [if_neg hv] at hu
    exact ms_vok_mono hlen (hs u hu)
theorem ms_len {N : Nat} {st : List ms_V} {n : Nat} (h : n ≤ st.length) : (st.take n).reverse.length = n := by
  rw [List.length_reverse, List.length_take]
  omega
/-- a call of a static method -/
def o_invS (G : ms_G) (d : Nat) (y' : ms_Y) (n mc ms : Nat) : ms_T := fun K kc ks ls st Γ M => mc ≤ kc ∧ ms ≤ ks ∧ n ≤ st.length ∧ ms_wt (st.drop n) ≤ 8 ∧ ms_Call G y' d mc ms (st.take n).reverse Γ M (fun v Γ' M' => K (kc - mc) (ks - ms) ls (if v.1 < 3 then v :: st.drop n else st.drop n) Γ' M')
theorem ms_split {as : List Nat} {st : List ms_V} {n : Nat} : st.map (ms_cv as) = (((st.take n).reverse).map (ms_cv as)).reverse ++ (st.drop n).map (ms_cv as) := by
  rw [← List.map_reverse, List.reverse_reverse, ← List.map_append, List.take_append_drop]
theorem s_invS {y' : ms_Y} {n mc' ms' idx : Nat} (h1 : Cond.methodLink y.1.cls idx y'.1 ∈ ms_B) (h2 : Cond.static y'.1 ∈ ms_B) (h3 : Cond.initialized y'.1.cls ∈ ms_B) (h4 : Cond.code y'.1 y'.2.1 y'.2.2.1 y'.2.2.2 ∈ ms_B) (hd' : y'.1.cls ≠ "java/lang/invoke/MethodHandle" ∧ y'.1.cls ≠ "java/lang/invoke/VarHandle" ∧ (parseMethodDescriptor y'.1.desc).map (fun d => d.parameters.length) = some n) (hm : y'.2.2.1 ≤ 45) (hd : decode y.2.1 pc = .ok (.invokestatic idx, 3)) : ms_Snd G Q y (d + 1) pc (pc + 3) (o_invS G d y' n mc' ms') := by
  intro K hK kc ks ls st Γ M h
  obtain ⟨hk1, hk2, hn', hwt, hcall⟩ := h
  intro p e R s m args below meth c as0 as H locs cells slots lsC mc ms Z hC hR hP hl hs hL hn g1 g2 g3 g4
  obtain ⟨hx, hb, hml, hown, hts, -, -, -, hKn, hfr, hlo⟩ := id hC
  have hsr : ∀ v ∈ st.drop n, ms_vok Γ.length v := fun v hv => hs v (List.mem_of_mem_drop hv)
  have hsa : ∀ v ∈ (st.take n).reverse, ms_vok Γ.length v := fun v hv => hs v (List.mem_of_mem_take (List.mem_reverse.mp hv))
  refine ms_back (a := (((st.take n).reverse).map (ms_cv as)).toArray) hK hC hR hP hl hsr hL hn g1 g2 g3 g4 hk1 hk2 ?_
  exact va_runS (As := ((st.take n).reverse).map (ms_cv as)) ⟨hx, hb, hml, hown, hts⟩ (hcall as H.size hP.1 hP.2.2.1 hsa) ⟨callB_of n hts (ms_good h4) rfl rfl rfl (hts _ h3) (hts _ h1) hd' ⟨by show d + 2 + 1 ≤ R.frames; omega, by show 8 + (y'.2.2.1 + 11) + (64 * d + 128) ≤ R.locals; omega⟩, hts _ h2⟩ ⟨ms_blind, fun U hU hW => ⟨rfl, by rw [hU], by rw [hU]; exact hP.2.2.2.1, hKn.warm hW, hP.2.2.2.2.1.weaken (fun _ _ _ _ => trivial)⟩⟩ rfl (by rw [List.length_map]; exact ms_len (N := 0) hn') (hL.1) ms_split (lv_room (by rw [ms_wt_cat _ hsr]; exact hwt)) hd ⟨by omega, by omega⟩
theorem s_invSN {y' : ms_Y} {n mc' ms' idx : Nat} {host : String} (h1 : Cond.methodLinkNest y.1.cls idx y'.1 host ∈ ms_N) (h2 : Cond.static y'.1 ∈ ms_B) (h3 : Cond.initialized y'.1.cls ∈ ms_B) (h4 : Cond.code y'.1 y'.2.1 y'.2.2.1 y'.2.2.2 ∈ ms_B) (hd' : y'.1.cls ≠ "java/lang/invoke/MethodHandle" ∧ y'.1.cls ≠ "java/lang/invoke/VarHandle" ∧ (parseMethodDescriptor y'.1.desc).map (fun d => d.parameters.length) = some n) (hm : y'.2.2.1 ≤ 45) (hd : decode y.2.1 pc = .ok (.invokestatic idx, 3)) : ms_Snd G Q y (d + 1) pc (pc + 3) (o_invS G d y' n mc' ms') := by
  intro K hK kc ks ls st Γ M h
  obtain ⟨hk1, hk2, hn', hwt, hcall⟩ := h
  intro p e R s m args below meth c as0 as H locs cells slots lsC mc ms Z hC hR hP hl hs hL hn g1 g2 g3 g4
  obtain ⟨hx, hb, hml, hown, hts, -, -, -, hKn, hfr, hlo⟩ := id hC
  have hsr : ∀ v ∈ st.drop n, ms_vok Γ.length v := fun v hv => hs v (List.mem_of_mem_drop hv)
  have hsa : ∀ v ∈ (st.take n).reverse, ms_vok Γ.length v := fun v hv => hs v (List.mem_of_mem_take (List.mem_reverse.mp hv))
  refine ms_back (a := (((st.take n).reverse).map (ms_cv as)).toArray) hK hC hR hP hl hsr hL hn g1 g2 g3 g4 hk1 hk2 ?_
  exact va_runSN (As := ((st.take n).reverse).map (ms_cv as)) ⟨hx, hb, hml, hown, hts⟩ (hcall as H.size hP.1 hP.2.2.1 hsa) ⟨va_cnB n hts (ms_good h4) rfl rfl rfl (hKn.2.2 _ h1) (hts _ h3) hd' ⟨by show d + 2 + 1 ≤ R.frames; omega, by show 8 + (y'.2.2.1 + 11) + (64 * d + 128) ≤ R.locals; omega⟩, hts _ h2, trivial⟩ ⟨ms_blind, fun U hU hW => ⟨rfl, by rw [hU], by rw [hU]; exact hP.2.2.2.1, hKn.warm hW, hP.2.2.2.2.1.weaken (fun _ _ _ _ => trivial)⟩⟩ rfl (by rw [List.length_map]; exact ms_len (N := 0) hn') (hL.1) ms_split (lv_room (by rw [ms_wt_cat _ hsr]; exact hwt)) hd ⟨by omega, by omega⟩
/-- a call on an object: its class ci -/
def o_invV (G : ms_G) (d : Nat) (y' : ms_Y) (ci n mc ms : Nat) : ms_T := fun K kc ks ls st Γ M => match st.drop n with
  | (2, b) :: rest => mc ≤ kc ∧ ms ≤ ks ∧ ms_kd Γ b = ci ∧ ms_wt rest ≤ 8 ∧ ms_Call G y' d mc ms ((2, b) :: (st.take n).reverse) Γ M (fun v Γ' M' => K (kc - mc) (ks - ms) ls (if v.1 < 3 then v :: rest else rest) Γ' M')
  | _ => False
theorem ms_split2 {as : List Nat} {st rest : List ms_V} {n nb : Nat} (h : st.drop n = (2, (nb : Int)) :: rest) : st.map (ms_cv as) = (((st.take n).reverse).map (ms_cv as)).reverse ++ .ref (as.getD nb 0) :: rest.map (ms_cv as) := by
  rw [ms_split (n := n), h, List.map_cons, ms_cv2]
theorem ms_dropn {st rest : List ms_V} {n : Nat} {v : ms_V} (h : st.drop n = v :: rest) : n ≤ st.length := by
  rcases Nat.lt_or_ge st.length n with q | q
  · rw [List.drop_eq_nil_of_le (Nat.le_of_lt q)] at h
    cases h
  · exact q
theorem s_invV {y' : ms_Y} {ci n mc' ms' idx : Nat} {r : vw_C} (hc : vwCl[ci]? = some r) (hC' : y'.1.cls = r.1) (h1 : Cond.methodLink y.1.cls idx y'.1 ∈ ms_B) (h2 : Cond.instanceMethod y'.1 ∈ ms_B) (h5 : Cond.selects y'.1.cls y'.1 y'.1 ∈ ms_B) (h3 : Cond.initialized y'.1.cls ∈ ms_B) (h4 : Cond.code y'.1 y'.2.1 y'.2.2.1 y'.2.2.2 ∈ ms_B) (hd' : y'.1.cls ≠ "java/lang/invoke/MethodHandle" ∧ y'.1.cls ≠ "java/lang/invoke/VarHandle" ∧ (parseMethodDescriptor y'.1.desc).map (fun d => d.parameters.length) = some n) (hm : y'.2.2.1 ≤ 45) (hd : decode y.2.1 pc = .ok (.invokevirtual idx, 3)) : ms_Snd G Q y (d + 1) pc (pc + 3) (o_invV G d y' ci n mc' ms') := by
  intro K hK kc ks ls st Γ M h
  unfold o_invV at h
  split at h
  · rename_i b rest hdrop
    obtain ⟨hk1, hk2, hkd, hwt, hcall⟩ := h
    obtain ⟨nb, rfl, sh, hg, hs1, hs2⟩ := ms_kd_some hkd (by have := ms_cls_lt hc; omega)
    intro p e R s m args below meth c as0 as H locs cells slots lsC mc ms Z hC hR hP hl hs hL hn g1 g2 g3 g4
    obtain ⟨hx, hb, hml, hown, hts, -, -, -, hKn, hfr, hlo⟩ := id hC
    have hsd : ∀ v ∈ st.drop n, ms_vok Γ.length v := fun v hv => hs v (List.mem_of_mem_drop hv)
    rw [hdrop] at hsd
    have hsr : ∀ v ∈ rest, ms_vok Γ.length v := fun v hv => hsd v (List.mem_cons_of_mem _ hv)
    have hsa : ∀ v ∈ (2, (nb : Int)) :: (st.take n).reverse, ms_vok Γ.length v := fun v hv => (List.mem_cons.mp hv).elim (fun q => by rw [q]; exact hsd _ List.mem_cons_self) (fun q => hs v (List.mem_of_mem_take (List.mem_reverse.mp q)))
    have hM := hcall as H.size hP.1 hP.2.2.1 hsa
    have hat : (ms_ws G as Γ M)[nb]? = some (as.getD nb 0, .inr (ci, ms_fs as M nb ci sh.2)) := by rw [ms_ws_at hg, ms_cell_obj hs1 (by have := ms_cls_lt hc; omega)]
    refine ms_back (a := (Value.ref (as.getD nb 0) :: ((st.take n).reverse).map (ms_cv as)).toArray) hK hC hR hP hl hsr hL hn g1 g2 g3 g4 hk1 hk2 ?_
    have hrecv := va_recv hKn.1 hP.2.2.2.1 hc hat
    rw [← hC'] at hrecv
    exact va_runV (C := y'.1.cls) (b := as.getD nb 0) (As := ((st.take n).reverse).map (ms_cv as)) ⟨hx, hb, hml, hown, hts⟩ hM ⟨callB_of n hts (ms_good h4) rfl rfl rfl (hts _ h3) (hts _ h1) hd' ⟨by show d + 2 + 1 ≤ R.frames; omega, by show 8 + (y'.2.2.1 + 11) + (64 * d + 128) ≤ R.locals; omega⟩, hts _ h2, hts _ h5⟩ ⟨ms_blind, hrecv, fun U hU hW => ⟨by rw [List.map_cons, ms_cv2], by rw [hU], by rw [hU]; exact hP.2.2.2.1, hKn.warm hW, hP.2.2.2.2.1.weaken (fun _ _ _ _ => trivial)⟩⟩ rfl (by rw [List.length_map]; exact ms_len (N := 0) (ms_dropn hdrop)) (hL.1) (ms_split2 hdrop) (lv_room (by rw [ms_wt_cat _ hsr]; exact hwt)) hd ⟨by omega, by omega⟩
  · exact False.elim h
/-- a constructor's call -/
theorem s_invI {y' : ms_Y} {ci n mc' ms' idx : Nat} (hci : ci < 100) (hret : y'.2.2.2 = none) (hy1 : y'.1.name = "<init>") (h1 : Cond.methodLink y.1.cls idx y'.1 ∈ ms_B) (h2 : Cond.instanceMethod y'.1 ∈ ms_B) (h3 : Cond.initialized y'.1.cls ∈ ms_B) (h4 : Cond.code y'.1 y'.2.1 y'.2.2.1 y'.2.2.2 ∈ ms_B) (hd' : y'.1.cls ≠ "java/lang/invoke/MethodHandle" ∧ y'.1.cls ≠ "java/lang/invoke/VarHandle" ∧ (parseMethodDescriptor y'.1.desc).map (fun d => d.parameters.length) = some n) (hm : y'.2.2.1 ≤ 45) (hd : decode y.2.1 pc = .ok (.invokespecial idx, 3)) : ms_Snd G Q y (d + 1) pc (pc + 3) (o_invV G d y' ci n mc' ms') := by
  intro K hK kc ks ls st Γ M h
  unfold o_invV at h
  split at h
  · rename_i b rest hdrop
    obtain ⟨hk1, hk2, hkd, hwt, hcall⟩ := h
    obtain ⟨nb, rfl, sh, hg, hs1, hs2⟩ := ms_kd_some hkd (by omega)
    intro p e R s m args below meth c as0 as H locs cells slots lsC mc ms Z hC hR hP hl hs hL hn g1 g2 g3 g4
    obtain ⟨hx, hb, hml, hown, hts, -, -, -, hKn, hfr, hlo⟩ := id hC
    have hsd : ∀ v ∈ st.drop n, ms_vok Γ.length v := fun v hv => hs v (List.mem_of_mem_drop hv)
    rw [hdrop] at hsd
    have hsr : ∀ v ∈ rest, ms_vok Γ.length v := fun v hv => hsd v (List.mem_cons_of_mem _ hv)
    have hsa : ∀ v ∈ (2, (nb : Int)) :: (st.take n).reverse, ms_vok Γ.length v := fun v hv => (List.mem_cons.mp hv).elim (fun q => by rw [q]; exact hsd _ List.mem_cons_self) (fun q => hs v (List.mem_of_mem_take (List.mem_reverse.mp q)))
    have hM := hcall as H.size hP.1 hP.2.2.1 hsa
    refine ms_back (a := (Value.ref (as.getD nb 0) :: ((st.take n).reverse).map (ms_cv as)).toArray) hK hC hR hP hl hsr hL hn g1 g2 g3 g4 hk1 hk2 ?_
    have hcb := callB_of (R := R) (ret := y'.2.2.2) n hts (ms_good h4) (rm := ms_room d mc' ms') rfl rfl rfl (hts _ h3) (hts _ h1) hd' ⟨by show d + 2 + 1 ≤ R.frames; omega, by show 8 + (y'.2.2.1 + 11) + (64 * d + 128) ≤ R.locals; omega⟩
    rw [hret] at hcb
    exact va_runI (b := as.getD nb 0) (As := ((st.take n).reverse).map (ms_cv as)) ⟨hx, hb, hml, hown, hts⟩ hM ⟨hcb, hy1, hts _ h2⟩ ⟨ms_blind, fun U hU hW => ⟨by rw [List.map_cons, ms_cv2], by rw [hU], by rw [hU]; exact hP.2.2.2.1, hKn.warm hW, hP.2.2.2.2.1.weaken (fun _ _ _ _ => trivial)⟩⟩ rfl (by rw [List.length_map]; exact ms_len (N := 0) (ms_dropn hdrop)) (hL.1) (ms_split2 hdrop) (lv_room (by rw [ms_wt_cat _ hsr]; exact hwt)) hd ⟨by omega, by omega⟩
  · exact False.elim h
theorem s_invIN {y' : ms_Y} {ci n mc' ms' idx : Nat} {host : String} (hci : ci < 100) (hret : y'.2.2.2 = none) (hy1 : y'.1.name = "<init>") (h1 : Cond.methodLinkNest y.1.cls idx y'.1 host ∈ ms_N) (h2 : Cond.instanceMethod y'.1 ∈ ms_B) (h3 : Cond.initialized y'.1.cls ∈ ms_B) (h4 : Cond.code y'.1 y'.2.1 y'.2.2.1 y'.2.2.2 ∈ ms_B) (hd' : y'.1.cls ≠ "java/lang/invoke/MethodHandle" ∧ y'.1.cls ≠ "java/lang/invoke/VarHandle" ∧ (parseMethodDescriptor y'.1.desc).map (fun d => d.parameters.length) = some n) (hm : y'.2.2.1 ≤ 45) (hd : decode y.2.1 pc = .ok (.invokespecial idx, 3)) : ms_Snd G Q y (d + 1) pc (pc + 3) (o_invV G d y' ci n mc' ms') := by
  intro K hK kc ks ls st Γ M h
  unfold o_invV at h
  split at h
  · rename_i b rest hdrop
    obtain ⟨hk1, hk2, hkd, hwt, hcall⟩ := h
    obtain ⟨nb, rfl, sh, hg, hs1, hs2⟩ := ms_kd_some hkd (by omega)
    intro p e R s m args below meth c as0 as H locs cells slots lsC mc ms Z hC hR hP hl hs hL hn g1 g2 g3 g4
    obtain ⟨hx, hb, hml, hown, hts, -, -, -, hKn, hfr, hlo⟩ := id hC
    have hsd : ∀ v ∈ st.drop n, ms_vok Γ.length v := fun v hv => hs v (List.mem_of_mem_drop hv)
    rw [hdrop] at hsd
    have hsr : ∀ v ∈ rest, ms_vok Γ.length v := fun v hv => hsd v (List.mem_cons_of_mem _ hv)
    have hsa : ∀ v ∈ (2, (nb : Int)) :: (st.take n).reverse, ms_vok Γ.length v := fun v hv => (List.mem_cons.mp hv).elim (fun q => by rw [q]; exact hsd _ List.mem_cons_self) (fun q => hs v (List.mem_of_mem_take (List.mem_reverse.mp q)))
    have hM := hcall as H.size hP.1 hP.2.2.1 hsa
    refine ms_back (a := (Value.ref (as.getD nb 0) :: ((st.take n).reverse).map (ms_cv as)).toArray) hK hC hR hP hl hsr hL hn g1 g2 g3 g4 hk1 hk2 ?_
    have hcb := va_cnB (R := R) (ret := y'.2.2.2) n hts (ms_good h4) (rm := ms_room d mc' ms') rfl rfl rfl (hKn.2.2 _ h1) (hts _ h3) hd' ⟨by show d + 2 + 1 ≤ R.frames; omega, by show 8 + (y'.2.2.1 + 11) + (64 * d + 128) ≤ R.locals; omega⟩
    rw [hret] at hcb
    exact va_runIN (b := as.getD nb 0) (As := ((st.take n).reverse).map (ms_cv as)) ⟨hx, hb, hml, hown, hts⟩ hM ⟨hcb, hy1, hts _ h2⟩ ⟨ms_blind, fun U hU hW => ⟨by rw [List.map_cons, ms_cv2], by rw [hU], by rw [hU]; exact hP.2.2.2.1, hKn.warm hW, hP.2.2.2.2.1.weaken (fun _ _ _ _ => trivial)⟩⟩ rfl (by rw [List.length_map]; exact ms_len (N := 0) (ms_dropn hdrop)) (hL.1) (ms_split2 hdrop) (lv_room (by rw [ms_wt_cat _ hsr]; exact hwt)) hd ⟨by omega, by omega⟩
  · exact False.elim h
/-! Object's constructor, Math.max, Math.min, System.arraycopy -/
def o_oi : ms_T := fun K kc ks ls st Γ M => match st with
  | (2, a) :: st' => 0 ≤ a ∧ ms_wt st' ≤ 8 ∧ K kc ks ls st' Γ M
  | _ => False
theorem s_oi {idx : Nat} (h1 : Cond.methodLink y.1.cls idx Lib.objectInit ∈ ms_B) (h2 : Cond.instanceMethod Lib.objectInit ∈ ms_B) (h3 : Cond.code Lib.objectInit ⟨#[0xb1]⟩ 1 none ∈ ms_B) (hd : decode y.2.1 pc = .ok (.invokespecial idx, 3)) : ms_Snd G Q y d pc (pc + 3) o_oi := by
  intro K hK kc ks ls st Γ M h
  unfold o_oi at h
  split at h
  · rename_i a st'
    obtain ⟨ha, hwt, h⟩ := h
    obtain ⟨n, rfl⟩ : ∃ n : Nat, a = (n : Int) := ⟨a.toNat, by omega⟩
    intro p e R s m args below meth c as0 as H locs cells slots lsC mc ms Z hC hR hP hl hs hL hn g1 g2 g3 g4
    obtain ⟨hx, hb, hml, hown, hts, -, -, -, hKn, hfr, hlo⟩ := id hC
    have hsr : ∀ v ∈ st', ms_vok Γ.length v := fun v hv => hs v (List.mem_cons_of_mem _ hv)
    rw [List.map_cons, ms_cv2]
    have hw := ms_wt_cat (as := as) _ hsr
    refine W.objInit hx hb hown (hts _ h1) (hts _ h2) (hts _ h3) (g := F0 m pc lsC (.ref (as.getD n 0) :: st'.map (ms_cv as))) rfl (by rw [hml]; exact hL.1) rfl hd (by omega) (by show 2 * 0 + _ + 12 ≤ _; rw [hw]; omega) ?_
    exact hK _ _ _ _ _ _ h p e R s m args below meth c as0 as H locs cells slots lsC mc ms Z hC hR hP hl hsr hL hn g1 g2 g3 g4
  · exact False.elim h
def o_mx (f : Int → Int → Int) : ms_T := fun K kc ks ls st Γ M => match st with
  | (0, b) :: (0, a) :: st' => ms_wt st' ≤ 8 ∧ K kc ks ls ((0, f a b) :: st') Γ M
  | _ => False
theorem s_mmax {idx : Nat} (h1 : Cond.methodLink y.1.cls idx Lib.Math.max.name ∈ ms_B) (h2 : Cond.static Lib.Math.max.name ∈ ms_B) (h3 : Cond.initialized "java/lang/Math" ∈ ms_B) (h4 : Cond.code Lib.Math.max.name Lib.Math.max.code 2 (some .int) ∈ ms_B) (hd : decode y.2.1 pc = .ok (.invokestatic idx, 3)) : ms_Snd G Q y d pc (pc + 3) (o_mx (fun a b => if a < b then b else a)) := by
  intro K hK kc ks ls st Γ M h
  unfold o_mx at h
  split at h
  · rename_i b a st'
    obtain ⟨hwt, h⟩ := h
    intro p e R s m args below meth c as0 as H locs cells slots lsC mc ms Z hC hR hP hl hs hL hn g1 g2 g3 g4
    obtain ⟨hx, hb, hml, hown, hts, -, -, -, hKn, hfr, hlo⟩ := id hC
    have hsr : ∀ v ∈ st', ms_vok Γ.length v := fun v hv => hs v (List.mem_cons_of_mem _ (List.mem_cons_of_mem _ hv))
    have hb0 : -2147483648 ≤ b ∧ b < 2147483648 := hs (0, b) List.mem_cons_self
    have ha0 : -2147483648 ≤ a ∧ a < 2147483648 := hs (0, a) (List.mem_cons_of_mem _ List.mem_cons_self)
    have hw := ms_wt_cat (as := as) _ hsr
    refine va_mmax (x := Int32.ofInt a) (y := Int32.ofInt b) (rest := st'.map (ms_cv as)) hx hb (by rw [hml]; exact hL.1.symm) hown (hts _ h1) (hts _ h2) (hts _ h3) (hts _ h4) (by omega) (by rw [hw]; omega) (by omega) (by omega) hd ?_
    have e1 : (if Int32.ofInt a < Int32.ofInt b then Int32.ofInt b else Int32.ofInt a) = Int32.ofInt (if a < b then b else a) := by
      by_cases hab : a < b
      · rw [if_pos hab, if_pos ((w32_lt ha0 hb0).mpr hab)]
      · rw [if_neg hab, if_neg (fun q => hab ((w32_lt ha0 hb0).mp q))]
    rw [e1]
    refine hK _ _ _ _ _ _ h p e R s m args below meth c as0 as H locs cells slots lsC mc ms Z hC hR hP hl (fun u hu => (List.mem_cons.mp hu).elim (fun q => ?_) (fun q => hsr u q)) hL hn g1 g2 g3 g4
    rw [q]
    show -2147483648 ≤ (if a < b then b else a) ∧ (if a < b then b else a) < 2147483648
    split <;> assumption
  · exact False.elim h
theorem s_mmin {idx : Nat} (h1 : Cond.methodLink y.1.cls idx Lib.Math.min.name ∈ ms_B) (h2 : Cond.static Lib.Math.min.name ∈ ms_B) (h3 : Cond.initialized "java/lang/Math" ∈ ms_B) (h4 : Cond.code Lib.Math.min.name Lib.Math.min.code 2 (some .int) ∈ ms_B) (hd : decode y.2.1 pc = .ok (.invokestatic idx, 3)) : ms_Snd G Q y d pc (pc + 3) (o_mx (fun a b => if b < a then b else a)) := by
  intro K hK kc ks ls st Γ M h
  unfold o_mx at h
  split at h
  · rename_i b a st'
    obtain ⟨hwt, h⟩ := h
    intro p e R s m args below meth c as0 as H locs cells slots lsC mc ms Z hC hR hP hl hs hL hn g1 g2 g3 g4
    obtain ⟨hx, hb, hml, hown, hts, -, -, -, hKn, hfr, hlo⟩ := id hC
    have hsr : ∀ v ∈ st', ms_vok Γ.length v := fun v hv => hs v (List.mem_cons_of_mem _ (List.mem_cons_of_mem _ hv))
    have hb0 : -2147483648 ≤ b ∧ b < 2147483648 := hs (0, b) List.mem_cons_self
    have ha0 : -2147483648 ≤ a ∧ a < 2147483648 := hs (0, a) (List.mem_cons_of_mem _ List.mem_cons_self)
    have hw := ms_wt_cat (as := as) _ hsr
    refine va_mmin (x := Int32.ofInt a) (y := Int32.ofInt b) (rest := st'.map (ms_cv as)) hx hb (by rw [hml]; exact hL.1.symm) hown (hts _ h1) (hts _ h2) (hts _ h3) (hts _ h4) (by omega) (by rw [hw]; omega) (by omega) (by omega) hd ?_
    have e1 : (if Int32.ofInt b < Int32.ofInt a then Int32.ofInt b else Int32.ofInt a) = Int32.ofInt (if b < a then b else a) := by
      by_cases hab : b < a
      · rw [if_pos hab, if_pos ((w32_lt hb0 ha0).mpr hab)]
      · rw [if_neg hab, if_neg (fun q => hab ((w32_lt hb0 ha0).mp q))]
    rw [e1]
    refine hK _ _ _ _ _ _ h p e R s m args below meth c as0 as H locs cells slots lsC mc ms Z hC hR hP hl (fun u hu => (List.mem_cons.mp hu).elim (fun q => ?_) (fun q => hsr u q)) hL hn g1 g2 g3 g4
    rw [q]
    show -2147483648 ≤ (if b < a then b else a) ∧ (if b < a then b else a) < 2147483648
    split <;> assumption
  · exact False.elim h
def ms_cp (M : ms_M) (a sp b dp n : Int) : ms_M := fun c j => if c = b ∧ dp ≤ j ∧ j < dp + n then M a (sp + (j - dp)) else M c j
def o_acp : ms_T := fun K kc ks ls st Γ M => match st with
  | (0, n) :: (0, dp) :: (2, b) :: (0, sp) :: (2, a) :: st' => ms_kd Γ a = 100 ∧ ms_kd Γ b = 100 ∧ 0 ≤ sp ∧ 0 ≤ dp ∧ 0 ≤ n ∧ sp + n ≤ ms_ln Γ a ∧ dp + n ≤ ms_ln Γ b ∧ ms_wt st' ≤ 8 ∧ K kc ks ls st' Γ (ms_cp M a sp b dp n)
  | _ => False
theorem s_acp {idx : Nat} (h1 : Cond.methodLink y.1.cls idx arraycopyName ∈ ms_B) (h2 : Cond.native arraycopyName ∈ ms_B) (h3 : Cond.static arraycopyName ∈ ms_B) (h4 : Cond.initialized "java/lang/System" ∈ ms_B) (hw0 : nativeFrameWords "java/lang/System" "arraycopy" 5 ≤ 80) (hd : decode y.2.1 pc = .ok (.invokestatic idx, 3)) : ms_Snd G Q y d pc (pc + 3) o_acp := by
  intro K hK kc ks ls st Γ M h
  unfold o_acp at h
  split at h
  · rename_i n dp b sp a st'
    obtain ⟨hka, hkb, hsp, hdp, hn0, hna, hnb, hwt, h⟩ := h
    obtain ⟨ka, rfl, sha, hga, hsa1, hsa2⟩ := ms_kd_some hka (by omega)
    obtain ⟨kb, rfl, shb, hgb, hsb1, hsb2⟩ := ms_kd_some hkb (by omega)
    rw [hsa2] at hna
    rw [hsb2] at hnb
    intro p e R s m args below meth c as0 as H locs cells slots lsC mc ms Z hC hR hP hl hs hL hn g1 g2 g3 g4
    obtain ⟨hx, hb, hml, hown, hts, -, -, -, hKn, hfr, hlo⟩ := id hC
    obtain ⟨f1, f2, f3, f4, f5, f6⟩ := id hP
    have hsr : ∀ v ∈ st', ms_vok Γ.length v := fun v hv => hs v (by simp [hv])
    have hn1 : -2147483648 ≤ n ∧ n < 2147483648 := hs (0, n) (by simp)
    have hdp1 : -2147483648 ≤ dp ∧ dp < 2147483648 := hs (0, dp) (by simp)
    have hsp1 : -2147483648 ≤ sp ∧ sp < 2147483648 := hs (0, sp) (by simp)
    have hw := ms_wt_cat (as := as) _ hsr
    have hz : ∀ x : Int, -2147483648 ≤ x ∧ x < 2147483648 → 0 ≤ x → ¬ Int32.ofInt x < 0 := fun x hx h0 q => by
      rw [← w32_z, w32_lt hx (by omega)] at q
      omega
    rw [List.map_cons, List.map_cons, List.map_cons, List.map_cons, List.map_cons, ms_cv2, ms_cv2]
    have c1 := w32_clamp hn1
    have c2 := w32_clamp hdp1
    have c3 := w32_clamp hsp1
    refine va_copyi (sp := Int32.ofInt sp) (dp := Int32.ofInt dp) (n := Int32.ofInt n) (f := fun j => Int32.ofInt (M ka j)) (g := fun j => Int32.ofInt (M kb j)) (ty := .int) (rest := st'.map (ms_cv as)) hx hb (by rw [hml]; exact hL.1.symm) hown (hts _ h1) (hts _ h2) (hts _ h3) (hts _ h4) hKn.1 f4 f5 f6 ka kb 0 0 (by rw [ms_ws_at hga, ms_cell_i (t := 0) (by omega) (Or.inl rfl)]) (by rw [ms_ws_at hgb, ms_cell_i (t := 0) (by omega) (Or.inl rfl)]) (ms_tysat G).1 (ms_tysat G).1 rfl (hz _ hsp1 hsp) (hz _ hdp1 hdp) (hz _ hn1 hn0) (by rw [c3, c1]; omega) (by rw [c2, c1]; omega) (fun i hi => rfl) (by omega) (by rw [hw]; omega) hd (fun H1 locs1 q1 q2 q3 => ?_)
    have e1 : va_cpy (fun j : Nat => Int32.ofInt (M ka j)) (fun j : Nat => Int32.ofInt (M kb j)) (Int32.ofInt sp).toNatClampNeg (Int32.ofInt dp).toNatClampNeg (Int32.ofInt n).toNatClampNeg = fun j : Nat => Int32.ofInt (ms_cp M ka sp kb dp n kb j) := by
      funext j
      rw [c1, c2, c3]
      unfold va_cpy ms_cp
      by_cases hj : dp.toNat ≤ j ∧ j < dp.toNat + n.toNat
      · rw [if_pos hj, if_pos (by omega)]
        simp only
        congr 2
        omega
      · rw [if_neg hj, if_neg (by omega)]
    rw [e1, ← ms_cell_i (as := as) (sh := shb) (t := 0) (by omega) (Or.inl rfl), ← ms_ws_set hgb (fun i' k' hi' => by unfold ms_cp; rw [if_neg (by omega)])] at q1 q2
    refine hK _ _ _ _ _ _ h p e R s m args below meth c as0 as H1 locs1 cells slots lsC mc ms Z hC hR ⟨f1, f2, fun k sh hg => ?_, q1, q2, q3⟩ hl hsr hL hn g1 g2 g3 g4
    obtain ⟨i1, i2, i3⟩ := f3 k sh hg
    refine ⟨i1, fun j hj => ?_, fun q j => ?_⟩
    · unfold ms_cp
      by_cases hc : (k : Int) = (kb : Int) ∧ dp ≤ (j : Int) ∧ (j : Int) < dp + n
      · rw [if_pos hc]
        have hkk : k = kb := by omega
        subst hkk
        rw [hgb] at hg
        cases hg
        have := (f3 ka sha hga).2.1 (sp + (j - dp)).toNat (by omega)
        rw [show (((sp + (j - dp)).toNat : Nat) : Int) = sp + (j - dp) by omega] at this
        unfold ms_eok at this ⊢
        simp [hsa1] at this
        simp [hsb1]
        exact this
      · rw [if_neg hc]
        exact i2 j hj
    · unfold ms_cp
      rw [if_neg (fun hc => by
        have hkk : k = kb := by omega
        subst hkk
        rw [hgb] at hg
        cases hg
        omega)]
      exact i3 q j
  · exact False.elim h
end MSC
