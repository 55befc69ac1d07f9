/-! ===== locals, branches, returns ===== -/
section MSL
variable {G : ms_G} {Q : ms_Q} {y : ms_Y} {d pc : Nat}
def o_ld (i t : Nat) : ms_T := fun K kc ks ls st Γ M => match ls[i]? with
  | some v => v.1 = t ∧ K kc ks ls (v :: st) Γ M
  | none => False
theorem ms_ld {i t n : Nat} (ht : t < 3) (row : ∀ (p : Program) (e : Env) (R : Room) (s : State) (m : MethodId) (args : Array Value) (below : List Frame) (meth : Method) (c : Code) (H : Heap) (locs : List Loc) (cells slots : Nat) (Z : State → Prop) (lsC : Array Slot) (rest : List Value) (as : List Nat) (x : Int), p.tables.exec = Jvm.exec → c.code = y.2.1 → lsC[i]? = some (.val (ms_cv as (t, x))) → W p G.1 e R s m args below meth c H locs cells slots Z (F0 m (pc + n) lsC (ms_cv as (t, x) :: rest)) → W p G.1 e R s m args below meth c H locs cells slots Z (F0 m pc lsC rest)) : ms_Snd G Q y d pc (pc + n) (o_ld i t) := by
  intro K hK kc ks ls st Γ M h
  unfold o_ld at h
  split at h
  · rename_i v hv
    obtain ⟨t', x⟩ := v
    obtain ⟨ht', h⟩ := h
    have ht' : t' = t := ht'
    subst ht'
    intro p e R s m args below meth c as0 as H locs cells slots lsC mc ms Z hC hR hP hl hs hL hn h1 h2 h3 h4
    have hmem := List.mem_of_getElem? hv
    refine row p e R s m args below meth c H locs cells slots Z lsC (st.map (ms_cv as)) as x hC.1 hC.2.1 (hL.2.2 (i, ms_cv as (t', x)) (ms_ll_mem.mpr ⟨_, hv, ht, rfl⟩)) ?_
    exact hK _ _ _ _ _ _ h p e R s m args below meth c as0 as H locs cells slots lsC mc ms Z hC hR hP hl (fun u hu => (List.mem_cons.mp hu).elim (fun q => by rw [q]; exact hl _ hmem ht) (hs u)) hL hn h1 h2 h3 h4
  · exact False.elim h
theorem s_iload_n {k : Fin 4} {i : Nat} (hi : (k : Nat) = i) (hd : decode y.2.1 pc = .ok (.iload_n k, 1)) : ms_Snd G Q y d pc (pc + 1) (o_ld i 0) := ms_ld (by omega) (fun _ _ _ _ _ _ _ _ _ _ _ _ _ _ _ _ _ _ hx hb hl k => lv_iload_n hx hb hd hi hl k)
theorem s_iload {i : Nat} (hd : decode y.2.1 pc = .ok (.iload i, 2)) : ms_Snd G Q y d pc (pc + 2) (o_ld i 0) := ms_ld (by omega) (fun _ _ _ _ _ _ _ _ _ _ _ _ _ _ _ _ _ _ hx hb hl k => lv_iload hx hb hd hl k)
theorem s_lload_n {k : Fin 4} {i : Nat} (hi : (k : Nat) = i) (hd : decode y.2.1 pc = .ok (.lload_n k, 1)) : ms_Snd G Q y d pc (pc + 1) (o_ld i 1) := ms_ld (by omega) (fun _ _ _ _ _ _ _ _ _ _ _ _ _ _ _ _ _ _ hx hb hl k => lv_lload_n hx hb hd hi hl k)
theorem s_lload {i : Nat} (hd : decode y.2.1 pc = .ok (.lload i, 2)) : ms_Snd G Q y d pc (pc + 2) (o_ld i 1) := ms_ld (by omega) (fun _ _ _ _ _ _ _ _ _ _ _ _ _ _ _ _ _ _ hx hb hl k => lv_lload hx hb hd hl k)
theorem s_aload_n {k : Fin 4} {i : Nat} (hi : (k : Nat) = i) (hd : decode y.2.1 pc = .ok (.aload_n k, 1)) : ms_Snd G Q y d pc (pc + 1) (o_ld i 2) := ms_ld (by omega) (fun _ _ _ _ _ _ _ _ _ _ _ _ _ _ _ _ as x hx hb hl k => by
  rw [show ms_cv as (2, x) = va_rf (ms_ro as x) from rfl] at hl k
  cases hr : ms_ro as x with
  | none => rw [hr] at hl k; exact lv_aload_nN hx hb hd hi hl k
  | some a => rw [hr] at hl k; exact lv_aload_n hx hb hd hi hl k)
theorem s_aload {i : Nat} (hd : decode y.2.1 pc = .ok (.aload i, 2)) : ms_Snd G Q y d pc (pc + 2) (o_ld i 2) := ms_ld (by omega) (fun _ _ _ _ _ _ _ _ _ _ _ _ _ _ _ _ as x hx hb hl k => by
  rw [show ms_cv as (2, x) = va_rf (ms_ro as x) from rfl] at hl k
  cases hr : ms_ro as x with
  | none => rw [hr] at hl k; exact lv_aloadN hx hb hd hl k
  | some a => rw [hr] at hl k; exact lv_aload hx hb hd hl k)
/-- the local at j isn't a long -/
def ms_nl (ls : List ms_V) (j : Nat) : Prop := ∀ u, ls[j]? = some u → u.1 ≠ 1
theorem ms_set1 {as : List Nat} {ls : List ms_V} {v : ms_V} {i n N : Nat} {slots : Array Slot} (hi : ms_nl ls (i - 1)) (hv : v.1 < 3) (hlok : ∀ u ∈ ls, ms_lok N u) (h : lv_has slots n ((i, ms_cv as v) :: (ms_ll as ls).filter (fun q => !(q.1 == i) && !(q.1 + 1 == i && q.2.category == 2)))) : lv_has slots n (ms_ll as (ls.set i v)) := by
  refine ⟨h.1, h.2.1, fun q hq => h.2.2 q ?_⟩
  obtain ⟨u, h1, h2, h3⟩ := ms_ll_mem.mp hq
  by_cases hqi : q.1 = i
  · have hlt : i < ls.length := by
      have := (List.getElem?_eq_some_iff.mp h1).1
      rw [List.length_set] at this
      omega
    rw [hqi, List.getElem?_set_self hlt] at h1
    cases h1
    exact List.mem_cons.mpr (Or.inl (Prod.ext hqi h3))
  · rw [List.getElem?_set_ne (Ne.symm hqi)] at h1
    refine List.mem_cons_of_mem _ (List.mem_filter.mpr ⟨ms_ll_mem.mpr ⟨u, h1, h2, h3⟩, ?_⟩)
    by_cases hq2 : q.1 + 1 = i
    · have hu := hi u (by rw [show i - 1 = q.1 by omega]; exact h1)
      have hc : (ms_cv as u).category = 1 := ms_cat1 (hlok u (List.mem_of_getElem? h1) h2) hu
      rw [h3, hc]
      simp [hqi]
    · simp [hqi, hq2]
def o_st (i t : Nat) : ms_T := fun K kc ks ls st Γ M => match st with
  | (u, x) :: st' => u = t ∧ ms_nl ls (i - 1) ∧ K kc ks (ls.set i (u, x)) st' Γ M
  | [] => False
theorem ms_st {i t n : Nat} (ht : t = 0 ∨ t = 2) (row : ∀ (p : Program) (e : Env) (R : Room) (s : State) (m : MethodId) (args : Array Value) (below : List Frame) (meth : Method) (c : Code) (H : Heap) (locs : List Loc) (cells slots : Nat) (Z : State → Prop) (lsC : Array Slot) (rest : List Value) (as : List Nat) (x : Int) (lv : List (Nat × Value)), p.tables.exec = Jvm.exec → c.code = y.2.1 → lv_has lsC y.2.2.1 lv → (∀ ls' : Array Slot, lv_has ls' y.2.2.1 ((i, ms_cv as (t, x)) :: lv.filter (fun q => !(q.1 == i) && !(q.1 + 1 == i && q.2.category == 2))) → W p G.1 e R s m args below meth c H locs cells slots Z (F0 m (pc + n) ls' rest)) → W p G.1 e R s m args below meth c H locs cells slots Z (F0 m pc lsC (ms_cv as (t, x) :: rest))) : ms_Snd G Q y d pc (pc + n) (o_st i t) := by
  intro K hK kc ks ls st Γ M h
  unfold o_st at h
  split at h
  · rename_i u x st'
    obtain ⟨rfl, hnl, h⟩ := h
    intro p e R s m args below meth c as0 as H locs cells slots lsC mc ms Z hC hR hP hl hs hL hn h1 h2 h3 h4
    refine row p e R s m args below meth c H locs cells slots Z lsC (st'.map (ms_cv as)) as x (ms_ll as ls) hC.1 hC.2.1 hL (fun ls' hl' => ?_)
    have hv : (((u, x) : ms_V)).1 < 3 := by
      show u < 3
      omega
    refine hK _ _ _ _ _ _ h p e R s m args below meth c as0 as H locs cells slots ls' mc ms Z hC hR hP (fun w hw => ?_) (fun w hw => hs w (List.mem_cons_of_mem _ hw)) (ms_set1 hnl hv hl hl') (by rw [List.length_set]; exact hn) h1 h2 h3 h4
    rcases List.mem_or_eq_of_mem_set hw with hw | hw
    · exact hl w hw
    · rw [hw]
      exact fun _ => hs _ List.mem_cons_self
  · exact False.elim h
theorem s_istore_n {k : Fin 4} {i : Nat} (hi : (k : Nat) = i) (hn : i < y.2.2.1) (hd : decode y.2.1 pc = .ok (.istore_n k, 1)) : ms_Snd G Q y d pc (pc + 1) (o_st i 0) := ms_st (Or.inl rfl) (fun _ _ _ _ _ _ _ _ _ _ _ _ _ _ _ _ _ _ _ hx hb hl k => lv_istore_n hx hb hd hi hl hn rfl k)
theorem s_istore {i : Nat} (hn : i < y.2.2.1) (hd : decode y.2.1 pc = .ok (.istore i, 2)) : ms_Snd G Q y d pc (pc + 2) (o_st i 0) := ms_st (Or.inl rfl) (fun _ _ _ _ _ _ _ _ _ _ _ _ _ _ _ _ _ _ _ hx hb hl k => lv_istore hx hb hd hl hn rfl k)
theorem s_astore_n {k : Fin 4} {i : Nat} (hi : (k : Nat) = i) (hn : i < y.2.2.1) (hd : decode y.2.1 pc = .ok (.astore_n k, 1)) : ms_Snd G Q y d pc (pc + 1) (o_st i 2) := ms_st (Or.inr rfl) (fun _ _ _ _ _ _ _ _ _ _ _ _ _ _ _ _ as x lv hx hb hl k => by
  rw [show ms_cv as (2, x) = va_rf (ms_ro as x) from rfl] at k ⊢
  cases hr : ms_ro as x with
  | none => rw [hr] at k; exact lv_astore_nN hx hb hd hi hl hn rfl k
  | some a => rw [hr] at k; exact lv_astore_n hx hb hd hi hl hn rfl k)
theorem s_astore {i : Nat} (hn : i < y.2.2.1) (hd : decode y.2.1 pc = .ok (.astore i, 2)) : ms_Snd G Q y d pc (pc + 2) (o_st i 2) := ms_st (Or.inr rfl) (fun _ _ _ _ _ _ _ _ _ _ _ _ _ _ _ _ as x lv hx hb hl k => by
  rw [show ms_cv as (2, x) = va_rf (ms_ro as x) from rfl] at k ⊢
  cases hr : ms_ro as x with
  | none => rw [hr] at k; exact lv_astoreN hx hb hd hl hn rfl k
  | some a => rw [hr] at k; exact lv_astore hx hb hd hl hn rfl k)
def o_lst (i : Nat) : ms_T := fun K kc ks ls st Γ M => match st with
  | (1, x) :: st' => ms_nl ls (i - 1) ∧ K kc ks ((ls.set i (1, x)).set (i + 1) (3, 0)) st' Γ M
  | _ => False
theorem s_lstore {i : Nat} (hn : i + 1 < y.2.2.1) (hd : decode y.2.1 pc = .ok (.lstore i, 2)) : ms_Snd G Q y d pc (pc + 2) (o_lst i) := by
  intro K hK kc ks ls st Γ M h
  unfold o_lst at h
  split at h
  · rename_i x st'
    obtain ⟨hnl, h⟩ := h
    intro p e R s m args below meth c as0 as H locs cells slots lsC mc ms Z hC hR hP hl hs hL hnn h1 h2 h3 h4
    refine lv_lstore (x := Int64.ofInt x) (rest := st'.map (ms_cv as)) hC.1 hC.2.1 hd hL hn rfl (fun ls' hl' => ?_)
    refine hK _ _ _ _ _ _ h p e R s m args below meth c as0 as H locs cells slots ls' mc ms Z hC hR hP (fun w hw => ?_) (fun w hw => hs w (List.mem_cons_of_mem _ hw)) ⟨hl'.1, hl'.2.1, fun q hq => hl'.2.2 q ?_⟩ (by rw [List.length_set, List.length_set]; exact hnn) h1 h2 h3 h4
    · rcases List.mem_or_eq_of_mem_set hw with hw | hw
      · rcases List.mem_or_eq_of_mem_set hw with hw | hw
        · exact hl w hw
        · rw [hw]
          exact fun _ => hs _ List.mem_cons_self
      · rw [hw]
        intro q
        simp only at q
        omega
    · obtain ⟨u, e1, e2, e3⟩ := ms_ll_mem.mp hq
      by_cases hq1 : q.1 = i + 1
      · rw [hq1, List.getElem?_set_self (by rw [List.length_set]; omega)] at e1
        cases e1
        simp only at e2
        omega
      · rw [List.getElem?_set_ne (Ne.symm hq1)] at e1
        by_cases hqi : q.1 = i
        · rw [hqi, List.getElem?_set_self (by omega)] at e1
          cases e1
          exact List.mem_cons.mpr (Or.inl (Prod.ext hqi e3))
        · rw [List.getElem?_set_ne (Ne.symm hqi)] at e1
          refine List.mem_cons_of_mem _ (List.mem_filter.mpr ⟨ms_ll_mem.mpr ⟨u, e1, e2, e3⟩, ?_⟩)
          by_cases hq2 : q.1 + 1 = i
          · have hu := hnl u (by rw [show i - 1 = q.1 by omega]; exact e1)
            have hc : (ms_cv as u).category = 1 := ms_cat1 (hl u (List.mem_of_getElem? e1) e2) hu
            rw [e3, hc]
            simp [hqi, hq1]
          · simp [hqi, hq2, hq1]
  · exact False.elim h
def o_inc (i : Nat) (n : Int) : ms_T := fun K kc ks ls st Γ M => match ls[i]? with
  | some (0, x) => ms_nl ls (i - 1) ∧ K kc ks (ls.set i (0, w32 (x + n))) st Γ M
  | _ => False
theorem s_iinc {i : Nat} {n : Int} (hn : i < y.2.2.1) (hd : decode y.2.1 pc = .ok (.iinc i n, 3)) : ms_Snd G Q y d pc (pc + 3) (o_inc i n) := by
  intro K hK kc ks ls st Γ M h
  unfold o_inc at h
  split at h
  · rename_i x hx
    obtain ⟨hnl, h⟩ := h
    intro p e R s m args below meth c as0 as H locs cells slots lsC mc ms Z hC hR hP hl hs hL hnn h1 h2 h3 h4
    have hmem : (i, ms_cv as (0, x)) ∈ ms_ll as ls := ms_ll_mem.mpr ⟨_, hx, (by simp), rfl⟩
    obtain ⟨k, hk⟩ := List.getElem?_of_mem hmem
    refine lv_iinc (v := Int32.ofInt (w32 (x + n))) hC.1 hC.2.1 hd hL hk (by rw [w32_of, Int32.ofInt_add]) hn rfl (fun ls' hl' => ?_)
    refine hK _ _ _ _ _ _ h p e R s m args below meth c as0 as H locs cells slots ls' mc ms Z hC hR hP (fun w hw => ?_) hs (ms_set1 (v := (0, w32 (x + n))) hnl (by simp) hl hl') (by rw [List.length_set]; exact hnn) h1 h2 h3 h4
    rcases List.mem_or_eq_of_mem_set hw with hw | hw
    · exact hl w hw
    · rw [hw]
      exact fun _ => w32_in _
  · exact False.elim h
def o_go (G : ms_G) (Q : ms_Q) (y : ms_Y) (d tgt : Nat) : ms_T := fun _ kc ks ls st Γ M => ms_At G Q y d kc ks tgt ls st Γ M
theorem s_goto {off : Int} {tgt pc' : Nat} (ht : (pc : Int) + off = (tgt : Int)) (hd : decode y.2.1 pc = .ok (.goto off, 3)) : ms_Snd G Q y d pc pc' (o_go G Q y d tgt) := by
  intro K hK kc ks ls st Γ M h
  exact ms_stk (st' := st) (fun p e R s m args below meth c H locs cells slots Z lsC as hx hb _ _ _ k => lv_goto hx hb hd ht k) (fun hs => hs) h
def o_if1 (G : ms_G) (Q : ms_Q) (y : ms_Y) (d : Nat) (c : Int → Prop) (tgt : Nat) : ms_T := fun K kc ks ls st Γ M => match st with
  | (0, x) :: st' => (c x → ms_At G Q y d kc ks tgt ls st' Γ M) ∧ (¬ c x → K kc ks ls st' Γ M)
  | _ => False
theorem ms_if1 {c : Int → Prop} {tgt : Nat} (row : ∀ (p : Program) (e : Env) (R : Room) (s : State) (m : MethodId) (args : Array Value) (below : List Frame) (meth : Method) (cd : Code) (H : Heap) (locs : List Loc) (cells slots : Nat) (Z : State → Prop) (lsC : Array Slot) (rest : List Value) (x : Int), p.tables.exec = Jvm.exec → cd.code = y.2.1 → -2147483648 ≤ x ∧ x < 2147483648 → (c x → W p G.1 e R s m args below meth cd H locs cells slots Z (F0 m tgt lsC rest)) → (¬ c x → W p G.1 e R s m args below meth cd H locs cells slots Z (F0 m (pc + 3) lsC rest)) → W p G.1 e R s m args below meth cd H locs cells slots Z (F0 m pc lsC (.int (Int32.ofInt x) :: rest))) : ms_Snd G Q y d pc (pc + 3) (o_if1 G Q y d c tgt) := by
  intro K hK kc ks ls st Γ M h
  unfold o_if1 at h
  split at h
  · rename_i x st'
    intro p e R s m args below meth cd as0 as H locs cells slots lsC mc ms Z hC hR hP hl hs hL hn h1 h2 h3 h4
    refine row p e R s m args below meth cd H locs cells slots Z lsC (st'.map (ms_cv as)) x hC.1 hC.2.1 (hs (0, x) List.mem_cons_self) (fun hc => ?_) (fun hc => ?_)
    · exact h.1 hc p e R s m args below meth cd as0 as H locs cells slots lsC mc ms Z hC hR hP hl (fun u hu => hs u (List.mem_cons_of_mem _ hu)) hL hn h1 h2 h3 h4
    · exact hK _ _ _ _ _ _ (h.2 hc) p e R s m args below meth cd as0 as H locs cells slots lsC mc ms Z hC hR hP hl (fun u hu => hs u (List.mem_cons_of_mem _ hu)) hL hn h1 h2 h3 h4
  · exact False.elim h
theorem w32_z : Int32.ofInt 0 = 0 := rfl
theorem s_ifeq {off : Int} {tgt : Nat} (ht : (pc : Int) + off = (tgt : Int)) (hd : decode y.2.1 pc = .ok (.ifCond .eq off, 3)) : ms_Snd G Q y d pc (pc + 3) (o_if1 G Q y d (fun x => x = 0) tgt) := ms_if1 (fun _ _ _ _ _ _ _ _ _ _ _ _ _ _ _ _ x hx hb hr kt kf => by
  have e : (Int32.ofInt x = 0) ↔ x = 0 := by rw [← w32_z]; exact w32_inj hr (by omega)
  exact lv_if_eq hx hb hd ht (fun q => kt (e.mp q)) (fun q => kf (fun z => q (e.mpr z))))
theorem s_ifne {off : Int} {tgt : Nat} (ht : (pc : Int) + off = (tgt : Int)) (hd : decode y.2.1 pc = .ok (.ifCond .ne off, 3)) : ms_Snd G Q y d pc (pc + 3) (o_if1 G Q y d (fun x => ¬ x = 0) tgt) := ms_if1 (fun _ _ _ _ _ _ _ _ _ _ _ _ _ _ _ _ x hx hb hr kt kf => by
  have e : (Int32.ofInt x = 0) ↔ x = 0 := by rw [← w32_z]; exact w32_inj hr (by omega)
  exact lv_if_ne hx hb hd ht (fun q => kt (fun z => q (e.mpr z))) (fun q => kf (fun z => z (e.mp q))))
theorem s_iflt {off : Int} {tgt : Nat} (ht : (pc : Int) + off = (tgt : Int)) (hd : decode y.2.1 pc = .ok (.ifCond .lt off, 3)) : ms_Snd G Q y d pc (pc + 3) (o_if1 G Q y d (fun x => x < 0) tgt) := ms_if1 (fun _ _ _ _ _ _ _ _ _ _ _ _ _ _ _ _ x hx hb hr kt kf => by
  have e : (Int32.ofInt x < 0) ↔ x < 0 := by rw [← w32_z]; exact w32_lt hr (by omega)
  exact lv_if_lt hx hb hd ht (fun q => kt (e.mp q)) (fun q => kf (fun z => q (e.mpr z))))
theorem s_ifge {off : Int} {tgt : Nat} (ht : (pc : Int) + off = (tgt : Int)) (hd : decode y.2.1 pc = .ok (.ifCond .ge off, 3)) : ms_Snd G Q y d pc (pc + 3) (o_if1 G Q y d (fun x => 0 ≤ x) tgt) := ms_if1 (fun _ _ _ _ _ _ _ _ _ _ _ _ _ _ _ _ x hx hb hr kt kf => by
  have e : (0 ≤ Int32.ofInt x) ↔ 0 ≤ x := by rw [← w32_z]; exact w32_le (by omega) hr
  exact lv_if_ge hx hb hd ht (fun q => kt (e.mp q)) (fun q => kf (fun z => q (e.mpr z))))
theorem s_ifgt {off : Int} {tgt : Nat} (ht : (pc : Int) + off = (tgt : Int)) (hd : decode y.2.1 pc = .ok (.ifCond .gt off, 3)) : ms_Snd G Q y d pc (pc + 3) (o_if1 G Q y d (fun x => 0 < x) tgt) := ms_if1 (fun _ _ _ _ _ _ _ _ _ _ _ _ _ _ _ _ x hx hb hr kt kf => by
  have e : (0 < Int32.ofInt x) ↔ 0 < x := by rw [← w32_z]; exact w32_lt (by omega) hr
  exact lv_if_gt hx hb hd ht (fun q => kt (e.mp q)) (fun q => kf (fun z => q (e.mpr z))))
theorem s_ifle {off : Int} {tgt : Nat} (ht : (pc : Int) + off = (tgt : Int)) (hd : decode y.2.1 pc = .ok (.ifCond .le off, 3)) : ms_Snd G Q y d pc (pc + 3) (o_if1 G Q y d (fun x => x ≤ 0) tgt) := ms_if1 (fun _ _ _ _ _ _ _ _ _ _ _ _ _ _ _ _ x hx hb hr kt kf => by
  have e : (Int32.ofInt x ≤ 0) ↔ x ≤ 0 := by rw [← w32_z]; exact w32_le hr (by omega)
  exact lv_if_le hx hb hd ht (fun q => kt (e.mp q)) (fun q => kf (fun z => q (e.mpr z))))
def o_if2 (G : ms_G) (Q : ms_Q) (y : ms_Y) (d : Nat) (c : Int → Int → Prop) (tgt : Nat) : ms_T := fun K kc ks ls st Γ M => match st with
  | (0, b) :: (0, a) :: st' => (c a b → ms_At G Q y d kc ks tgt ls st' Γ M) ∧ (¬ c a b → K kc ks ls st' Γ M)
  | _ => False
theorem ms_if2 {c : Int → Int → Prop} {tgt : Nat} (row : ∀ (p : Program) (e : Env) (R : Room) (s : State) (m : MethodId) (args : Array Value) (below : List Frame) (meth : Method) (cd : Code) (H : Heap) (locs : List Loc) (cells slots : Nat) (Z : State → Prop) (lsC : Array Slot) (rest : List Value) (a b : Int), p.tables.exec = Jvm.exec → cd.code = y.2.1 → -2147483648 ≤ a ∧ a < 2147483648 → -2147483648 ≤ b ∧ b < 2147483648 → (c a b → W p G.1 e R s m args below meth cd H locs cells slots Z (F0 m tgt lsC rest)) → (¬ c a b → W p G.1 e R s m args below meth cd H locs cells slots Z (F0 m (pc + 3) lsC rest)) → W p G.1 e R s m args below meth cd H locs cells slots Z (F0 m pc lsC (.int (Int32.ofInt b) :: .int (Int32.ofInt a) :: rest))) : ms_Snd G Q y d pc (pc + 3) (o_if2 G Q y d c tgt) := by
  intro K hK kc ks ls st Γ M h
  unfold o_if2 at h
  split at h
  · rename_i b a st'
    intro p e R s m args below meth cd as0 as H locs cells slots lsC mc ms Z hC hR hP hl hs hL hn h1 h2 h3 h4
    refine row p e R s m args below meth cd H locs cells slots Z lsC (st'.map (ms_cv as)) a b hC.1 hC.2.1 (hs (0, a) (List.mem_cons_of_mem _ List.mem_cons_self)) (hs (0, b) List.mem_cons_self) (fun hc => ?_) (fun hc => ?_)
    · exact h.1 hc p e R s m args below meth cd as0 as H locs cells slots lsC mc ms Z hC hR hP hl (fun u hu => hs u (List.mem_cons_of_mem _ (List.mem_cons_of_mem _ hu))) hL hn h1 h2 h3 h4
    · exact hK _ _ _ _ _ _ (h.2 hc) p e R s m args below meth cd as0 as H locs cells slots lsC mc ms Z hC hR hP hl (fun u hu => hs u (List.mem_cons_of_mem _ (List.mem_cons_of_mem _ hu))) hL hn h1 h2 h3 h4
  · exact False.elim h
theorem s_icmpeq {off : Int} {tgt : Nat} (ht : (pc : Int) + off = (tgt : Int)) (hd : decode y.2.1 pc = .ok (.if_icmp .eq off, 3)) : ms_Snd G Q y d pc (pc + 3) (o_if2 G Q y d (fun a b => a = b) tgt) := ms_if2 (fun _ _ _ _ _ _ _ _ _ _ _ _ _ _ _ _ a b hx hb ha hb' kt kf => by
  have e := w32_inj ha hb'
  exact lv_icmp_eq hx hb hd ht (fun q => kt (e.mp q)) (fun q => kf (fun z => q (e.mpr z))))
theorem s_icmpne {off : Int} {tgt : Nat} (ht : (pc : Int) + off = (tgt : Int)) (hd : decode y.2.1 pc = .ok (.if_icmp .ne off, 3)) : ms_Snd G Q y d pc (pc + 3) (o_if2 G Q y d (fun a b => ¬ a = b) tgt) := ms_if2 (fun _ _ _ _ _ _ _ _ _ _ _ _ _ _ _ _ a b hx hb ha hb' kt kf => by
  have e := w32_inj ha hb'
  exact lv_icmp_ne hx hb hd ht (fun q => kt (fun z => q (e.mpr z))) (fun q => kf (fun z => z (e.mp q))))
theorem s_icmplt {off : Int} {tgt : Nat} (ht : (pc : Int) + off = (tgt : Int)) (hd : decode y.2.1 pc = .ok (.if_icmp .lt off, 3)) : ms_Snd G Q y d pc (pc + 3) (o_if2 G Q y d (fun a b => a < b) tgt) := ms_if2 (fun _ _ _ _ _ _ _ _ _ _ _ _ _ _ _ _ a b hx hb ha hb' kt kf => by
  have e := w32_lt ha hb'
  exact lv_icmp_lt hx hb hd ht (fun q => kt (e.mp q)) (fun q => kf (fun z => q (e.mpr z))))
theorem s_icmpge {off : Int} {tgt : Nat} (ht : (pc : Int) + off = (tgt : Int)) (hd : decode y.2.1 pc = .ok (.if_icmp .ge off, 3)) : ms_Snd G Q y d pc (pc + 3) (o_if2 G Q y d (fun a b => b ≤ a) tgt) := ms_if2 (fun _ _ _ _ _ _ _ _ _ _ _ _ _ _ _ _ a b hx hb ha hb' kt kf => by
  have e := w32_le hb' ha
  exact lv_icmp_ge hx hb hd ht (fun q => kt (e.mp q)) (fun q => kf (fun z => q (e.mpr z))))
theorem s_icmpgt {off : Int} {tgt : Nat} (ht : (pc : Int) + off = (tgt : Int)) (hd : decode y.2.1 pc = .ok (.if_icmp .gt off, 3)) : ms_Snd G Q y d pc (pc + 3) (o_if2 G Q y d (fun a b => b < a) tgt) := ms_if2 (fun _ _ _ _ _ _ _ _ _ _ _ _ _ _ _ _ a b hx hb ha hb' kt kf => by
  have e := w32_lt hb' ha
  exact lv_icmp_gt hx hb hd ht (fun q => kt (e.mp q)) (fun q => kf (fun z => q (e.mpr z))))
theorem s_icmple {off : Int} {tgt : Nat} (ht : (pc : Int) + off = (tgt : Int)) (hd : decode y.2.1 pc = .ok (.if_icmp .le off, 3)) : ms_Snd G Q y d pc (pc + 3) (o_if2 G Q y d (fun a b => a ≤ b) tgt) := ms_if2 (fun _ _ _ _ _ _ _ _ _ _ _ _ _ _ _ _ a b hx hb ha hb' kt kf => by
  have e := w32_le ha hb'
  exact lv_icmp_le hx hb hd ht (fun q => kt (e.mp q)) (fun q => kf (fun z => q (e.mpr z))))
/-- a switch: targets of lo, lo + 1 .., and the default's -/
def o_sw (G : ms_G) (Q : ms_Q) (y : ms_Y) (d : Nat) (lo hi : Int) (ts : List Nat) (df : Nat) : ms_T := fun _ kc ks ls st Γ M => match st with
  | (0, x) :: st' => (∀ (k t : Nat), ts[k]? = some t → x = lo + (k : Int) → ms_At G Q y d kc ks t ls st' Γ M) ∧ ((x < lo ∨ hi < x) → ms_At G Q y d kc ks df ls st' Γ M)
  | _ => False
theorem s_tsw {dflt lo hi : Int} {offs : Array Int} {len df pc' : Nat} {ts : List Nat} (hd : decode y.2.1 pc = .ok (.tableswitch dflt lo hi offs, len)) (hdf : (pc : Int) + dflt = (df : Int)) (hts : offs.toList = ts.map (fun t : Nat => (t : Int) - (pc : Int))) (hlen : lo + (ts.length : Int) = hi + 1) : ms_Snd G Q y d pc pc' (o_sw G Q y d lo hi ts df) := by
  intro K hK kc ks ls st Γ M h
  unfold o_sw at h
  split at h
  · rename_i x st'
    intro p e R s m args below meth cd as0 as H locs cells slots lsC mc ms Z hC hR hP hl hs hL hn h1 h2 h3 h4
    have hr : -2147483648 ≤ x ∧ x < 2147483648 := hs (0, x) List.mem_cons_self
    have hx := w32_toInt hr
    by_cases hin : x < lo ∨ hi < x
    · refine lv_tableOut (x := Int32.ofInt x) (rest := st'.map (ms_cv as)) hC.1 hC.2.1 hd (by rw [hx]; exact hin) hdf ?_
      exact h.2 hin p e R s m args below meth cd as0 as H locs cells slots lsC mc ms Z hC hR hP hl (fun u hu => hs u (List.mem_cons_of_mem _ hu)) hL hn h1 h2 h3 h4
    · have hk : (x - lo).toNat < ts.length := by omega
      have ht : ts[(x - lo).toNat]? = some ts[(x - lo).toNat] := List.getElem?_eq_getElem hk
      refine lv_tableIn (x := Int32.ofInt x) (off := (ts[(x - lo).toNat] : Int) - (pc : Int)) (tgt := ts[(x - lo).toNat]) (rest := st'.map (ms_cv as)) hC.1 hC.2.1 hd (by rw [hx]; omega) (by rw [hx]; omega) ?_ (by omega) ?_
      · rw [hx, ← Array.getElem?_toList, hts, List.getElem?_map, ht]
        rfl
      · exact h.1 _ _ ht (by omega) p e R s m args below meth cd as0 as H locs cells slots lsC mc ms Z hC hR hP hl (fun u hu => hs u (List.mem_cons_of_mem _ hu)) hL hn h1 h2 h3 h4
  · exact False.elim h
def o_ret (Q : ms_Q) (b : Bool) : ms_T := fun _ _ _ _ st Γ M => match st with
  | [(0, x)] => (b = true → x = 0 ∨ x = 1) ∧ Q (0, x) Γ M
  | _ => False
theorem s_iret {b : Bool} {pc' : Nat} (hr : y.2.2.2 = if b then some .boolean else some .int) (hd : decode y.2.1 pc = .ok (.ireturn, 1)) : ms_Snd G Q y d pc pc' (o_ret Q b) := by
  intro K hK kc ks ls st Γ M h
  unfold o_ret at h
  split at h
  · rename_i x
    intro p e R s m args below meth cd as0 as H locs cells slots lsC mc ms Z hC hR hP hl hs hL hn h1 h2 h3 h4
    refine hR (0, x) Γ M as H locs cells slots lsC pc .ireturn h.2 hP (fun _ => hs _ List.mem_cons_self) (Or.inl ⟨rfl, rfl, ?_⟩) hd (by omega) (by omega)
    cases b with
    | false => exact Or.inl hr
    | true => exact Or.inr ⟨hr, h.1 rfl⟩
  · exact False.elim h
def o_lret (Q : ms_Q) : ms_T := fun _ _ _ _ st Γ M => match st with
  | [(1, x)] => Q (1, x) Γ M
  | _ => False
theorem s_lret {pc' : Nat} (hr : y.2.2.2 = some .long) (hd : decode y.2.1 pc = .ok (.lreturn, 1)) : ms_Snd G Q y d pc pc' (o_lret Q) := by
  intro K hK kc ks ls st Γ M h
  unfold o_lret at h
  split at h
  · rename_i x
    intro p e R s m args below meth cd as0 as H locs cells slots lsC mc ms Z hC hR hP hl hs hL hn h1 h2 h3 h4
    exact hR (1, x) Γ M as H locs cells slots lsC pc .lreturn h hP (fun _ => hs _ List.mem_cons_self) (Or.inr (Or.inl ⟨rfl, rfl, hr⟩)) hd (by omega) (by omega)
  · exact False.elim h
def o_vret (Q : ms_Q) : ms_T := fun _ _ _ _ st Γ M => match st with
  | [] => Q (3, 0) Γ M
  | _ => False
theorem s_vret {pc' : Nat} (hr : y.2.2.2 = none) (hd : decode y.2.1 pc = .ok (.return_, 1)) : ms_Snd G Q y d pc pc' (o_vret Q) := by
  intro K hK kc ks ls st Γ M h
  unfold o_vret at h
  split at h
  · intro p e R s m args below meth cd as0 as H locs cells slots lsC mc ms Z hC hR hP hl hs hL hn h1 h2 h3 h4
    exact hR (3, 0) Γ M as H locs cells slots lsC pc .return_ h hP (fun q => by simp only at q; omega) (Or.inr (Or.inr ⟨rfl, rfl, hr⟩)) hd (by omega) (by omega)
  · exact False.elim h
end MSL
