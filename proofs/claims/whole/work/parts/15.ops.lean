/-! ===== new cells ===== -/
def ms_nw (M : ms_M) (n : Int) (f : Int → Int) : ms_M := fun a j => if a = n then f j else M a j
theorem ms_nw_same {M : ms_M} {n : Int} {f : Int → Int} {j : Int} : ms_nw M n f n j = f j := by unfold ms_nw; rw [if_pos rfl]
theorem ms_nw_ne {M : ms_M} {n a : Int} {f : Int → Int} {j : Int} (h : a ≠ n) : ms_nw M n f a j = M a j := by unfold ms_nw; rw [if_neg h]
theorem ms_eok_mono {N N' : Nat} (h : N ≤ N') {sh : ms_Sh} {j : Nat} {x : Int} (q : ms_eok N sh j x) : ms_eok N' sh j x := by
  unfold ms_eok at q ⊢
  by_cases h1 : sh.1 < 100
  · rw [if_pos h1] at q ⊢
    exact ms_vok_mono h q
  · rw [if_neg h1] at q ⊢
    by_cases h2 : sh.1 = 101
    · rw [if_pos h2] at q ⊢; exact q
    · rw [if_neg h2] at q ⊢
      by_cases h3 : sh.1 = 102
      · rw [if_pos h3] at q ⊢; exact q
      · rw [if_neg h3] at q ⊢
        by_cases h4 : sh.1 = 103
        · rw [if_pos h4] at q ⊢; exact q
        · rw [if_neg h4] at q ⊢
          by_cases h5 : sh.1 = 104
          · rw [if_pos h5] at q ⊢; omega
          · rw [if_neg h5] at q ⊢; exact q
theorem ms_Mok_push {Γ : List ms_Sh} {M : ms_M} {sh : ms_Sh} {f : Int → Int} (h : ms_Mok Γ M) (hs : ms_shok sh) (hf : ∀ j : Nat, j < sh.2 → ms_eok (Γ.length + 1) sh j (f j)) (h4 : sh.1 = 104 → ∀ j : Nat, f j < ((Γ.length + 1 : Nat) : Int)) : ms_Mok (Γ ++ [sh]) (ms_nw M Γ.length f) := by
  intro k sh' hg
  have hlen : (Γ ++ [sh]).length = Γ.length + 1 := by simp
  rw [hlen]
  by_cases hk : k < Γ.length
  · rw [List.getElem?_append_left hk] at hg
    obtain ⟨g1, g2, g3⟩ := h k sh' hg
    refine ⟨g1, fun j hj => ?_, fun q j => ?_⟩
    · rw [ms_nw_ne (by omega)]
      exact ms_eok_mono (by omega) (g2 j hj)
    · rw [ms_nw_ne (by omega)]
      have := g3 q j
      omega
  · have hk2 : k < (Γ ++ [sh]).length := (List.getElem?_eq_some_iff.mp hg).1
    have hk3 : k = Γ.length := by omega
    subst hk3
    have e : (Γ ++ [sh])[Γ.length]? = some sh := by simp
    rw [e] at hg
    cases hg
    refine ⟨hs, fun j hj => ?_, fun q j => ?_⟩
    · rw [ms_nw_same]; exact hf j hj
    · rw [ms_nw_same]; exact h4 q j
def ms_plain (ty : FieldType) : Bool := match ty with
  | .int => true
  | .object _ => true
  | .array _ => true
  | _ => false
def ms_df (ci : Nat) (j : Int) : Int := if ms_tg (ms_ty ci j.toNat) = 2 then -1 else 0
theorem ms_dv {as : List Nat} {ty : FieldType} (h : ms_plain ty = true) : ms_cv as (ms_tg ty, if ms_tg ty = 2 then -1 else 0) = defaultValue ty := by
  cases ty with
  | int => rfl
  | object _ => rfl
  | array _ => rfl
  | _ => cases h
section MSN
variable {G : ms_G} {Q : ms_Q} {y : ms_Y} {d pc : Nat}
theorem ms_new {pc' kc' ks' : Nat} {ls rest : List ms_V} {Γ : List ms_Sh} {M : ms_M} {sh : ms_Sh} {f : Int → Int} {p : Program} {e : Env} {R : Room} {s : State} {m : MethodId} {args : Array Value} {below : List Frame} {meth : Method} {c : Code} {as0 as : List Nat} {H H1 : Heap} {locs : List Loc} {cells slots : Nat} {lsC : Array Slot} {mc ms : Nat} {Z : State → Prop} {q : Nat}
    (hC : ms_Ctx G y d p R s m args meth c) (hR : ms_Ret G Q y p e R s m args below meth c as0 mc ms Z) (hP : ms_Rep G s as0 as Γ M H locs) (hl : ∀ v ∈ ls, ms_lok Γ.length v) (hs : ∀ v ∈ rest, ms_vok Γ.length v) (hL : lv_has lsC y.2.2.1 (ms_ll as ls)) (hn : ls.length = y.2.2.1) (h1 : cells + kc' ≤ mc) (h2 : slots + ks' ≤ ms) (h3 : mc ≤ R.cells) (h4 : ms ≤ R.slots)
    (hsh : ms_shok sh) (hf : ∀ j : Nat, j < sh.2 → ms_eok (Γ.length + 1) sh j (f j)) (hf4 : sh.1 = 104 → ∀ j : Nat, f j < ((Γ.length + 1 : Nat) : Int))
    (hP1 : va_P G.2.1 vwCl (ms_ws G as Γ M ++ [(q, ms_cell G (as ++ [q]) (ms_nw M Γ.length f) Γ.length sh)]) H1) (hD1 : va_D (ms_A as0 s.heap.size) (ms_ws G as Γ M ++ [(q, ms_cell G (as ++ [q]) (ms_nw M Γ.length f) Γ.length sh)])) (hS1 : va_S (ms_A as0 s.heap.size) s.heap H1 locs)
    (h : ms_At G Q y d kc' ks' pc' ls ((2, (Γ.length : Int)) :: rest) (Γ ++ [sh]) (ms_nw M Γ.length f)) : W p G.1 e R s m args below meth c H1 locs cells slots Z (F0 m pc' lsC (.ref q :: rest.map (ms_cv as))) := by
  obtain ⟨g1, g2, g3, g4, g5, g6⟩ := hP
  have hpre : as <+: as ++ [q] := List.prefix_append as [q]
  have hw := ms_ws_push (G := G) (q := q) (sh := sh) (M' := ms_nw M Γ.length f) g1 g3 (fun i j hi => ms_nw_ne (by omega))
  rw [← hw] at hP1 hD1
  have hlen : (Γ ++ [sh]).length = Γ.length + 1 := by simp
  have e1 : ((2, (Γ.length : Int)) :: rest).map (ms_cv (as ++ [q])) = .ref q :: rest.map (ms_cv as) := by
    rw [List.map_cons, ms_cv2]
    have e2 : (as ++ [q]).getD Γ.length 0 = q := by rw [← g1]; simp
    rw [e2]
    congr 1
    exact List.map_congr_left (fun v hv => ms_cv_ext hpre (by rw [g1]; exact hs v hv))
  rw [← e1]
  exact h p e R s m args below meth c as0 (as ++ [q]) H1 locs cells slots lsC mc ms Z hC hR ⟨by rw [hlen, List.length_append, g1]; rfl, g2.trans hpre, ms_Mok_push g3 hsh hf hf4, hP1, hD1, hS1⟩ (fun v hv q => by rw [hlen]; exact ms_vok_mono (Nat.le_succ _) (hl v hv q)) (fun v hv => by
    rw [hlen]
    rcases List.mem_cons.mp hv with hv | hv
    · rw [hv]
      show (Γ.length : Int) < ((Γ.length + 1 : Nat) : Int)
      omega
    · exact ms_vok_mono (Nat.le_succ _) (hs v hv)) (ms_ll_ext hpre (fun v hv => by rw [g1]; exact hl v hv) hL) hn h1 h2 h3 h4
def o_new (ci N : Nat) : ms_T := fun K kc ks ls st Γ M => 1 ≤ kc ∧ N ≤ ks ∧ K (kc - 1) (ks - N) ls ((2, (Γ.length : Int)) :: st) (Γ ++ [(ci, N)]) (ms_nw M Γ.length (ms_df ci))
theorem s_new {ci N index : Nat} {r : vw_C} (hc : vwCl[ci]? = some r) (hN : r.2.2 = N) (hpl : ∀ j, j < N → ms_plain (ms_ty ci j) = true) (hcl : Cond.classLink y.1.cls index r.1 ∈ ms_B) (hin : Cond.instantiable r.1 N ∈ ms_B) (hini : Cond.initialized r.1 ∈ ms_B) (hd : decode y.2.1 pc = .ok (.new index, 3)) : ms_Snd G Q y d pc (pc + 3) (o_new ci N) := by
  intro K hK kc ks ls st Γ M h
  obtain ⟨hk1, hk2, h⟩ := h
  intro p e R s m args below meth c as0 as H locs cells slots lsC mc ms Z hC hR hP hl' hs hL hn h1 h2 h3 h4
  obtain ⟨hx, hb, hml, hw, hts, -, -, -, hKn, -⟩ := id hC
  obtain ⟨g1, g2, g3, g4, g5, g6⟩ := id hP
  subst hN
  have hci := ms_cls_lt hc
  refine va_new (fs := (List.range r.2.2).map (fun j => defaultValue (ms_ty ci j))) hx hb hts (ms_in ci r hc) (ms_ty ci) (ms_tyok ci r hc) hw (hts _ hcl) (hts _ hin) (hts _ hini) hKn.1 g4 g5 g6 (fun q hq => Or.inr hq) hc (fun j hj => ?_) (by omega) (by omega) hd (fun q H1 hP1 hD1 hS1 => ?_)
  · unfold vp_V
    rw [List.getD_eq_getElem?_getD, List.getElem?_map, List.getElem?_range hj]
    rfl
  · have hcell : ms_cell G (as ++ [q]) (ms_nw M Γ.length (ms_df ci)) Γ.length (ci, r.2.2) = .inr (ci, (List.range r.2.2).map (fun j => defaultValue (ms_ty ci j))) := by
      rw [ms_cell_obj rfl (by omega)]
      have e2 : ms_fs (as ++ [q]) (ms_nw M Γ.length (ms_df ci)) Γ.length ci r.2.2 = (List.range r.2.2).map (fun j => defaultValue (ms_ty ci j)) := by
        unfold ms_fs
        apply List.map_congr_left
        intro j hj
        rw [ms_nw_same]
        show ms_cv _ (ms_tg (ms_ty ci j), if ms_tg (ms_ty ci ((j : Nat) : Int).toNat) = 2 then -1 else 0) = _
        rw [Int.toNat_natCast]
        exact ms_dv (hpl j (List.mem_range.mp hj))
      rw [e2]
    rw [← hcell] at hP1 hD1
    refine ms_new hC hR hP hl' hs hL hn (kc' := kc - 1) (ks' := ks - r.2.2) (by omega) (by omega) h3 h4 ⟨fun _ => ⟨r, hc, rfl⟩, by show ci < 105; omega⟩ (fun j hj => ?_) (fun q => by simp only at q; omega) hP1 hD1 hS1 (hK _ _ _ _ _ _ h)
    unfold ms_eok
    rw [if_pos (by show ci < 100; omega)]
    show ms_vok _ (ms_tg (ms_ty ci j), if ms_tg (ms_ty ci ((j : Nat) : Int).toNat) = 2 then -1 else 0)
    rw [Int.toNat_natCast]
    have hp := hpl j hj
    cases hty : ms_ty ci j with
    | int => show (-2147483648 : Int) ≤ 0 ∧ (0 : Int) < 2147483648; omega
    | object _ => show (-1 : Int) < _; omega
    | array _ => show (-1 : Int) < _; omega
    | _ => rw [hty] at hp; cases hp
def o_newa (c : Nat) : ms_T := fun K kc ks ls st Γ M => match st with
  | (0, n) :: st' => 0 ≤ n ∧ n ≤ 60000 ∧ 1 ≤ kc ∧ n.toNat ≤ ks ∧ K (kc - 1) (ks - n.toNat) ls ((2, (Γ.length : Int)) :: st') (Γ ++ [(c, n.toNat)]) (ms_nw M Γ.length (fun _ => 0))
  | _ => False
theorem s_newa {c : Nat} {at_ : ArrayType} {ty : FieldType} (hty : newarray.typeOf at_ = ty) (hw : Cond.arrayClass (newarray.typeOf at_) ∈ ms_B) (hd : decode y.2.1 pc = .ok (.newarray at_, 2)) (hc : (c = 100 ∧ ty = .int) ∨ (c = 101 ∧ ty = .long) ∨ (c = 102 ∧ ty = .byte) ∨ (c = 103 ∧ ty = .boolean)) : ms_Snd G Q y d pc (pc + 2) (o_newa c) := by
  intro K hK kc ks ls st Γ M h
  unfold o_newa at h
  split at h
  · rename_i n st'
    obtain ⟨hn0, hn1, hk1, hk2, h⟩ := h
    intro p e R s m args below meth cd as0 as H locs cells slots lsC mc ms Z hC hR hP hl' hs hL hn h1 h2 h3 h4
    obtain ⟨hx, hb, hml, hown, hts, -, -, -, hKn, -⟩ := id hC
    obtain ⟨g1, g2, g3, g4, g5, g6⟩ := id hP
    have hr : -2147483648 ≤ n ∧ n < 2147483648 := by omega
    have hneg : ¬ Int32.ofInt n < 0 := by
      rw [← w32_z, w32_lt hr (by omega)]
      omega
    have hcl := w32_clamp hr
    have hs' : ∀ v ∈ st', ms_vok Γ.length v := fun v hv => hs v (List.mem_cons_of_mem _ hv)
    have hcb : n.toNat * componentBytes ty ≤ 536870912 := by
      have : componentBytes ty ≤ 8 := by rcases hc with ⟨-, rfl⟩ | ⟨-, rfl⟩ | ⟨-, rfl⟩ | ⟨-, rfl⟩ <;> decide
      calc n.toNat * componentBytes ty ≤ 60000 * 8 := Nat.mul_le_mul (by omega) this
        _ ≤ 536870912 := by omega
    have fin : ∀ (t : Nat) (a0 : vp_A), (ms_tys G)[t]? = some (G.2.2 t, ty) → (∀ cA s', va_RA s' cA ty → s'.vm.findClass ("[" ++ ty.toString) = some cA) → (∀ cA : ClassId, vp_cell cA a0 = arrV cA n.toNat (fun _ => defaultValue ty)) → (∀ (q : Nat), ms_cell G (as ++ [q]) (ms_nw M Γ.length (fun _ => 0)) Γ.length (c, n.toNat) = .inl (G.2.2 t, a0)) → c < 104 → 100 ≤ c → W p G.1 e R s m args below meth cd H locs cells slots Z (F0 m pc lsC (.int (Int32.ofInt n) :: st'.map (ms_cv as))) := by
      intro t a0 hta hfc ha0 hcell hcl1 hcl2
      refine va_newa (a0 := a0) (N' := n.toNat) hx hb (hts _ hw) hty hKn.1 g4 g5 g6 (fun q hq => Or.inr hq) ha0 hneg hcl hcb (by omega) (by omega) hd (fun q cA H1 hK1 hP1 hD1 hS1 => ?_)
      have e1 := (hK1.2 (ms_tys G).length (cA, ty) (by simp)).2
      have e2 := (hKn.1.2 t _ hta).2
      have e3 : cA = G.2.2 t := Option.some.inj ((hfc _ _ e1).symm.trans (hfc _ _ e2))
      subst e3
      rw [← hcell q] at hP1 hD1
      refine ms_new hC hR hP hl' hs' hL hn (kc' := kc - 1) (ks' := ks - n.toNat) (by omega) (by omega) h3 h4 ⟨fun q => by simp only at q; omega, by show c < 105; omega⟩ (fun j hj => ?_) (fun q => by simp only at q; omega) hP1 hD1 hS1 (hK _ _ _ _ _ _ h)
      unfold ms_eok
      rw [if_neg (by show ¬ c < 100; omega)]
      rcases hc with ⟨rfl, -⟩ | ⟨rfl, -⟩ | ⟨rfl, -⟩ | ⟨rfl, -⟩ <;> simp
    rcases hc with ⟨rfl, rfl⟩ | ⟨rfl, rfl⟩ | ⟨rfl, rfl⟩ | ⟨rfl, rfl⟩
    · exact fin 0 (n.toNat, .inl (fun _ => 0)) rfl (fun _ _ q => q) (fun _ => rfl) (fun q => by rw [ms_cell_i (t := 0) rfl (Or.inl rfl)]; simp only [ms_nw_same]; rfl) (by omega) (by omega)
    · exact fin 1 (n.toNat, .inr (.inl (fun _ => 0))) rfl (fun _ _ q => q) (fun _ => rfl) (fun q => by rw [ms_cell_l rfl]; simp only [ms_nw_same]; rfl) (by omega) (by omega)
    · exact fin 2 (n.toNat, .inl (fun _ => 0)) rfl (fun _ _ q => q) (fun _ => rfl) (fun q => by rw [ms_cell_i (t := 2) rfl (Or.inr (Or.inl rfl))]; simp only [ms_nw_same]; rfl) (by omega) (by omega)
    · exact fin 3 (n.toNat, .inl (fun _ => 0)) rfl (fun _ _ q => q) (fun _ => rfl) (fun q => by rw [ms_cell_i (t := 3) rfl (Or.inr (Or.inr rfl))]; simp only [ms_nw_same]; rfl) (by omega) (by omega)
  · exact False.elim h
def o_anew : ms_T := fun K kc ks ls st Γ M => match st with
  | (0, n) :: st' => 0 ≤ n ∧ n ≤ 60000 ∧ 1 ≤ kc ∧ n.toNat ≤ ks ∧ K (kc - 1) (ks - n.toNat) ls ((2, (Γ.length : Int)) :: st') (Γ ++ [(104, n.toNat)]) (ms_nw M Γ.length (fun _ => -1))
  | _ => False
theorem s_anew {index : Nat} (hcl : Cond.classLink y.1.cls index RX4 ∈ ms_B) (hd : decode y.2.1 pc = .ok (.anewarray index, 3)) : ms_Snd G Q y d pc (pc + 3) o_anew := by
  intro K hK kc ks ls st Γ M h
  unfold o_anew at h
  split at h
  · rename_i n st'
    obtain ⟨hn0, hn1, hk1, hk2, h⟩ := h
    intro p e R s m args below meth cd as0 as H locs cells slots lsC mc ms Z hC hR hP hl' hs hL hn h1 h2 h3 h4
    obtain ⟨hx, hb, hml, hown, hts, -, -, -, hKn, -⟩ := id hC
    obtain ⟨g1, g2, g3, g4, g5, g6⟩ := id hP
    have hr : -2147483648 ≤ n ∧ n < 2147483648 := by omega
    have hneg : ¬ Int32.ofInt n < 0 := by
      rw [← w32_z, w32_lt hr (by omega)]
      omega
    have hs' : ∀ v ∈ st', ms_vok Γ.length v := fun v hv => hs v (List.mem_cons_of_mem _ hv)
    refine va_newq (N' := n.toNat) hx hb hown (hts _ hcl) hKn.2.1 hKn.1 g4 g5 g6 (fun q hq => Or.inr hq) hneg (w32_clamp hr) (by omega) (by omega) (by omega) hd (fun q cA H1 hK1 hP1 hD1 hS1 => ?_)
    obtain ⟨_, _, _, _, _, e1⟩ := (hK1.2 (ms_tys G).length (cA, .object RX4) (by simp)).2
    obtain ⟨_, _, _, _, _, e2⟩ := (hKn.1.2 4 _ (ms_tysat G).2.2.2.2).2
    have e3 : cA = G.2.2 4 := Option.some.inj (e1.symm.trans e2)
    subst e3
    have hcell : ms_cell G (as ++ [q]) (ms_nw M Γ.length (fun _ => -1)) Γ.length (104, n.toNat) = .inl (G.2.2 4, n.toNat, .inr (.inr (.inr (.inr (fun _ => none))))) := by
      rw [ms_cell_q rfl]
      simp only [ms_nw_same]
      rfl
    rw [← hcell] at hP1 hD1
    refine ms_new hC hR hP hl' hs' hL hn (kc' := kc - 1) (ks' := ks - n.toNat) (by omega) (by omega) h3 h4 ⟨fun q => by simp only at q; omega, by show 104 < 105; omega⟩ (fun j hj => ?_) (fun q j => by omega) hP1 hD1 hS1 (hK _ _ _ _ _ _ h)
    unfold ms_eok
    simp
    omega
  · exact False.elim h
def o_aast : ms_T := fun K kc ks ls st Γ M => match st with
  | (2, b) :: (0, i) :: (2, a) :: st' => ms_kd Γ b = 4 ∧ ms_kd Γ a = 104 ∧ 0 ≤ i ∧ i < ms_ln Γ a ∧ K kc ks ls st' Γ (ms_up M a i b)
  | _ => False
theorem s_aastore (hd : decode y.2.1 pc = .ok (.aastore, 1)) : ms_Snd G Q y d pc (pc + 1) o_aast := by
  intro K hK kc ks ls st Γ M h
  unfold o_aast at h
  split at h
  · rename_i b i a st'
    obtain ⟨hkb, hka, hi0, hin, h⟩ := h
    obtain ⟨n, rfl, sh, hg, hs1, hs2⟩ := ms_kd_some hka (by omega)
    obtain ⟨nb, rfl, shb, hgb, hsb1, hsb2⟩ := ms_kd_some hkb (by omega)
    rw [hs2] at hin
    intro p e R s m args below meth cd as0 as H locs cells slots lsC mc ms Z hC hR hP hl' hs hL hn h1 h2 h3 h4
    rw [List.map_cons, List.map_cons, List.map_cons, ms_cv2, ms_cv2]
    obtain ⟨g1, g2, g3, g4, g5, g6⟩ := id hP
    have hr : -2147483648 ≤ i ∧ i < 2147483648 := hs _ (List.mem_cons_of_mem _ List.mem_cons_self)
    have hbv : (nb : Int) < (Γ.length : Int) := hs _ List.mem_cons_self
    refine va_astq (r := (RX4, TX4, 6)) (f := fun j => ms_ro as (M n j)) hC.1 hC.2.1 hC.2.2.2.2.2.2.2.2.1.1 g4 g5 g6 n 4 nb 4 (by rw [ms_ws_at hg, ms_cell_q hs1]) (ms_tysat G).2.2.2.2 (by rw [ms_ws_at hgb, ms_cell_obj hsb1 (by omega)]) rfl (w32_vin hr hi0 hin) hd (fun H1 locs1 q1 q2 q3 => ?_)
    have e1 : (va_up (fun j : Nat => ms_ro as (M n j)) (Int32.ofInt i).toNatClampNeg (some (as.getD nb 0))) = fun j : Nat => ms_ro as (ms_up M n i nb n j) := by
      funext j
      rw [w32_clamp hr]
      unfold va_up
      by_cases hj : j = i.toNat
      · rw [if_pos hj, show ((j : Nat) : Int) = i by omega, ms_up_same]
        unfold ms_ro
        rw [if_neg (by omega), Int.toNat_natCast]
      · rw [if_neg hj, ms_up_j (by omega)]
    rw [e1, ← ms_cell_q (as := as) (sh := sh) hs1, ← ms_ws_set hg (fun i' k' hi' => ms_up_a (by omega))] at q1 q2
    exact hK _ _ _ _ _ _ h p e R s m args below meth cd as0 as H1 locs1 cells slots lsC mc ms Z hC hR ⟨g1, g2, ms_Mok_up g3 hg (fun j hj => by unfold ms_eok; simp [hs1]; omega) (fun q => hbv), q1, q2, q3⟩ hl' (fun u hu => hs u (List.mem_cons_of_mem _ (List.mem_cons_of_mem _ (List.mem_cons_of_mem _ hu)))) hL hn h1 h2 h3 h4
  · exact False.elim h
end MSN
