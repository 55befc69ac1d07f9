/-! ===== fields, arrays, new cells ===== -/
theorem ms_cls_lt {ci : Nat} {r : vw_C} (h : vwCl[ci]? = some r) : ci < 13 := (List.getElem?_eq_some_iff.mp h).1
theorem ms_inOf {ws : List Cond} (ps : List Nat) (hp : ws = ps.filterMap (fun i => lw_tbl[i]?)) (hg : ws.all goodWord = true) : ∀ w ∈ ws, w ∈ ms_B := by
  intro w hw
  have h1 := List.all_eq_true.mp hg w hw
  rw [hp] at hw
  obtain ⟨i, -, hi⟩ := List.mem_filterMap.mp hw
  exact ms_memB i hi h1
set_option maxRecDepth 100000 in
theorem ms_in0 : ∀ w ∈ u_ws RX0 TX0 2, w ∈ ms_B := ms_inOf [305, 307] (by decide +kernel) (by decide +kernel)
set_option maxRecDepth 100000 in
theorem ms_in1 : ∀ w ∈ u_ws RX1 TX1 4, w ∈ ms_B := ms_inOf [286, 288, 290, 292] (by decide +kernel) (by decide +kernel)
set_option maxRecDepth 100000 in
theorem ms_in2 : ∀ w ∈ u_ws RX2 TX2 1, w ∈ ms_B := ms_inOf [197] (by decide +kernel) (by decide +kernel)
set_option maxRecDepth 100000 in
theorem ms_in3 : ∀ w ∈ u_ws RX3 TX3 3, w ∈ ms_B := ms_inOf [167, 169, 171] (by decide +kernel) (by decide +kernel)
set_option maxRecDepth 100000 in
theorem ms_in4 : ∀ w ∈ u_ws RX4 TX4 6, w ∈ ms_B := ms_inOf [140, 142, 144, 146, 148, 150] (by decide +kernel) (by decide +kernel)
set_option maxRecDepth 100000 in
theorem ms_in5 : ∀ w ∈ u_ws RX5 TX5 6, w ∈ ms_B := ms_inOf [325, 327, 329, 331, 333, 335] (by decide +kernel) (by decide +kernel)
set_option maxRecDepth 100000 in
theorem ms_in6 : ∀ w ∈ u_ws RX6 TX6 2, w ∈ ms_B := ms_inOf [185, 187] (by decide +kernel) (by decide +kernel)
set_option maxRecDepth 100000 in
theorem ms_in7 : ∀ w ∈ u_ws RX7 TX7 2, w ∈ ms_B := ms_inOf [211, 213] (by decide +kernel) (by decide +kernel)
set_option maxRecDepth 100000 in
theorem ms_in8 : ∀ w ∈ u_ws RX8 TX8 4, w ∈ ms_B := ms_inOf [257, 259, 261, 263] (by decide +kernel) (by decide +kernel)
set_option maxRecDepth 100000 in
theorem ms_in9 : ∀ w ∈ u_ws RX9 TX9 6, w ∈ ms_B := ms_inOf [238, 240, 242, 244, 246, 248] (by decide +kernel) (by decide +kernel)
set_option maxRecDepth 100000 in
theorem ms_in10 : ∀ w ∈ u_ws RX10 TX10 1, w ∈ ms_B := ms_inOf [273] (by decide +kernel) (by decide +kernel)
set_option maxRecDepth 100000 in
theorem ms_in11 : ∀ w ∈ u_ws RX11 TX11 17, w ∈ ms_B := ms_inOf [355, 357, 359, 361, 363, 365, 367, 369, 371, 373, 375, 377, 379, 381, 383, 385, 387] (by decide +kernel) (by decide +kernel)
set_option maxRecDepth 100000 in
theorem ms_in12 : ∀ w ∈ u_ws RX12 TX12 45, w ∈ ms_B := ms_inOf [967, 969, 971, 973, 975, 977, 979, 981, 983, 985, 987, 989, 991, 993, 995, 997, 999, 1001, 1003, 1005, 1007, 1009, 1011, 1013, 1015, 1017, 1019, 1021, 1023, 1025, 1027, 1029, 1031, 1033, 1035, 1037, 1039, 1041, 1043, 1045, 1047, 1049, 1051, 1053, 1055] (by decide +kernel) (by decide +kernel)
theorem ms_in : ∀ (ci : Nat) (r : vw_C), vwCl[ci]? = some r → ∀ w ∈ u_ws r.1 r.2.1 r.2.2, w ∈ ms_B := by
  intro ci r h
  match ci, h with
  | 0, h => cases h; exact ms_in0
  | 1, h => cases h; exact ms_in1
  | 2, h => cases h; exact ms_in2
  | 3, h => cases h; exact ms_in3
  | 4, h => cases h; exact ms_in4
  | 5, h => cases h; exact ms_in5
  | 6, h => cases h; exact ms_in6
  | 7, h => cases h; exact ms_in7
  | 8, h => cases h; exact ms_in8
  | 9, h => cases h; exact ms_in9
  | 10, h => cases h; exact ms_in10
  | 11, h => cases h; exact ms_in11
  | 12, h => cases h; exact ms_in12
  | k + 13, h => exact absurd (ms_cls_lt h) (by omega)
theorem ms_tyok : ∀ (ci : Nat) (r : vw_C), vwCl[ci]? = some r → ∀ k, k < r.2.2 → parseFieldDescriptor (r.2.1 k).2.2.1 = some (ms_ty ci k) := by
  intro ci r h
  match ci, h with
  | 0, h => cases h; exact tyX0_ok
  | 1, h => cases h; exact tyX1_ok
  | 2, h => cases h; exact tyX2_ok
  | 3, h => cases h; exact tyX3_ok
  | 4, h => cases h; exact tyX4_ok
  | 5, h => cases h; exact tyX5_ok
  | 6, h => cases h; exact tyX6_ok
  | 7, h => cases h; exact tyX7_ok
  | 8, h => cases h; exact tyX8_ok
  | 9, h => cases h; exact tyX9_ok
  | 10, h => cases h; exact tyX10_ok
  | 11, h => cases h; exact tyX11_ok
  | 12, h => cases h; exact tyX12_ok
  | k + 13, h => exact absurd (ms_cls_lt h) (by omega)
theorem ms_nm : ∀ (ci : Nat) (r : vw_C), vwCl[ci]? = some r → ∀ a, a < r.2.2 → ∀ b, b < r.2.2 → a ≠ b → (r.2.1 a).2.1 ≠ (r.2.1 b).2.1 := by
  intro ci r h
  match ci, h with
  | 0, h => cases h; exact nmX0
  | 1, h => cases h; exact nmX1
  | 2, h => cases h; exact nmX2
  | 3, h => cases h; exact nmX3
  | 4, h => cases h; exact nmX4
  | 5, h => cases h; exact nmX5
  | 6, h => cases h; exact nmX6
  | 7, h => cases h; exact nmX7
  | 8, h => cases h; exact nmX8
  | 9, h => cases h; exact nmX9
  | 10, h => cases h; exact nmX10
  | 11, h => cases h; exact nmX11
  | 12, h => cases h; exact nmX12
  | k + 13, h => exact absurd (ms_cls_lt h) (by omega)
theorem ms_fs_at {as : List Nat} {M : ms_M} {k c n j : Nat} (h : j < n) : (ms_fs as M k c n)[j]? = some (ms_cv as (ms_tg (ms_ty c j), M k j)) := by
  unfold ms_fs
  rw [List.getElem?_map, List.getElem?_range h]
  rfl
theorem ms_fs_len {as : List Nat} {M : ms_M} {k c n : Nat} : (ms_fs as M k c n).length = n := by
  unfold ms_fs
  rw [List.length_map, List.length_range]
theorem ms_up_same {M : ms_M} {a j v : Int} : ms_up M a j v a j = v := by unfold ms_up; rw [if_pos ⟨rfl, rfl⟩]
theorem ms_up_a {M : ms_M} {a j v a' j' : Int} (h : a' ≠ a) : ms_up M a j v a' j' = M a' j' := by unfold ms_up; rw [if_neg (fun q => h q.1)]
theorem ms_up_j {M : ms_M} {a j v a' j' : Int} (h : j' ≠ j) : ms_up M a j v a' j' = M a' j' := by unfold ms_up; rw [if_neg (fun q => h q.2)]
theorem ms_fs_up {as : List Nat} {M : ms_M} {k c n j : Nat} {x : Int} : ms_fs as (ms_up M k j x) k c n = (ms_fs as M k c n).set j (ms_cv as (ms_tg (ms_ty c j), x)) := by
  apply List.ext_getElem?
  intro i
  by_cases hi : i < n
  · rw [ms_fs_at hi]
    by_cases hij : i = j
    · subst hij
      rw [List.getElem?_set_self (by rw [ms_fs_len]; exact hi), ms_up_same]
    · rw [List.getElem?_set_ne (Ne.symm hij), ms_fs_at hi, ms_up_j (by omega)]
  · rw [List.getElem?_eq_none (by rw [ms_fs_len]; omega), List.getElem?_eq_none (by rw [List.length_set, ms_fs_len]; omega)]
theorem ms_Mok_up {Γ : List ms_Sh} {M : ms_M} {k : Nat} {sh : ms_Sh} {i x : Int} (h : ms_Mok Γ M) (hg : Γ[k]? = some sh) (hx : ∀ j : Nat, (j : Int) = i → ms_eok Γ.length sh j x) (h4 : sh.1 = 104 → x < (Γ.length : Int)) : ms_Mok Γ (ms_up M k i x) := by
  intro k' sh' hg'
  obtain ⟨g1, g2, g3⟩ := h k' sh' hg'
  refine ⟨g1, fun j hj => ?_, fun hs j => ?_⟩
  · by_cases hk : k' = k
    · subst hk
      rw [hg] at hg'
      cases hg'
      by_cases hji : (j : Int) = i
      · rw [hji, ms_up_same]
        exact hx j hji
      · rw [ms_up_j hji]
        exact g2 j hj
    · rw [ms_up_a (by omega)]
      exact g2 j hj
  · by_cases hk : k' = k
    · subst hk
      rw [hg] at hg'
      cases hg'
      by_cases hji : (j : Int) = i
      · rw [hji, ms_up_same]
        exact h4 hs
      · rw [ms_up_j hji]
        exact g3 hs j
    · rw [ms_up_a (by omega)]
      exact g3 hs j
theorem ms_cell_obj {G : ms_G} {as : List Nat} {M : ms_M} {k : Nat} {sh : ms_Sh} {ci : Nat} (h : sh.1 = ci) (hc : ci < 100) : ms_cell G as M k sh = .inr (ci, ms_fs as M k ci sh.2) := by
  subst h
  unfold ms_cell
  rw [if_pos hc]
theorem ms_cell_i {G : ms_G} {as : List Nat} {M : ms_M} {k : Nat} {sh : ms_Sh} {t : Nat} (h : sh.1 = 100 + t) (ht : t = 0 ∨ t = 2 ∨ t = 3) : ms_cell G as M k sh = .inl (G.2.2 t, sh.2, .inl (fun j => Int32.ofInt (M k j))) := by
  unfold ms_cell
  rw [if_neg (by omega), if_neg (by omega), if_neg (by omega), h, show 100 + t - 100 = t by omega]
theorem ms_cell_l {G : ms_G} {as : List Nat} {M : ms_M} {k : Nat} {sh : ms_Sh} (h : sh.1 = 101) : ms_cell G as M k sh = .inl (G.2.2 1, sh.2, .inr (.inl (fun j => Int64.ofInt (M k j)))) := by
  unfold ms_cell
  rw [if_neg (by omega), if_pos h]
theorem ms_cell_q {G : ms_G} {as : List Nat} {M : ms_M} {k : Nat} {sh : ms_Sh} (h : sh.1 = 104) : ms_cell G as M k sh = .inl (G.2.2 4, sh.2, .inr (.inr (.inr (.inr (fun j => ms_ro as (M k j)))))) := by
  unfold ms_cell
  rw [if_neg (by omega), if_neg (by omega), if_pos h]
section MSF
variable {G : ms_G} {Q : ms_Q} {y : ms_Y} {d pc : Nat}
def o_get (ci j t : Nat) : ms_T := fun K kc ks ls st Γ M => match st with
  | (2, a) :: st' => ms_kd Γ a = ci ∧ K kc ks ls ((t, M a (j : Int)) :: st') Γ M
  | _ => False
theorem s_get {ci j t index : Nat} {r : vw_C} (hc : vwCl[ci]? = some r) (hj : j < r.2.2) (hown : (r.2.1 j).1 = r.1) (ht : ms_tg (ms_ty ci j) = t) (hl : Cond.fieldLink y.1.cls index r.1 (r.2.1 j).2.1 (r.2.1 j).2.2.1 ∈ ms_B) (hd : decode y.2.1 pc = .ok (.getfield index, 3)) : ms_Snd G Q y d pc (pc + 3) (o_get ci j t) := by
  intro K hK kc ks ls st Γ M h
  unfold o_get at h
  split at h
  · rename_i a st'
    obtain ⟨hk, h⟩ := h
    obtain ⟨n, rfl, sh, hg, hs1, hs2⟩ := ms_kd_some hk (by have := ms_cls_lt hc; omega)
    intro p e R s m args below meth c as0 as H locs cells slots lsC mc ms Z hC hR hP hl' hs hL hn h1 h2 h3 h4
    obtain ⟨hx, hb, hml, hw, hts, -, -, -, hKn, -⟩ := id hC
    obtain ⟨g1, g2, g3, g4, g5, g6⟩ := id hP
    obtain ⟨⟨hshok, -⟩, hel, -⟩ := g3 n sh hg
    have hci := ms_cls_lt hc
    obtain ⟨r', hr', hn'⟩ := hshok (by omega)
    rw [hs1, hc] at hr'
    cases hr'
    have hjs : j < sh.2 := by omega
    have hat : (ms_ws G as Γ M)[n]? = some (as.getD n 0, .inr (ci, ms_fs as M n ci sh.2)) := by rw [ms_ws_at hg, ms_cell_obj hs1 (by omega)]
    rw [List.map_cons, ms_cv2]
    refine va_get (v := ms_cv as (t, M n j)) hx hb hts (ms_in ci r hc) hw hKn.1 g4 n hat hc j hj (hts _ hl) (fun x h => by rw [hown] at h; exact h) (by rw [ms_fs_at hjs, ht]) hd ?_
    refine hK _ _ _ _ _ _ h p e R s m args below meth c as0 as H locs cells slots lsC mc ms Z hC hR hP hl' (fun u hu => (List.mem_cons.mp hu).elim (fun q => ?_) (fun q => hs u (List.mem_cons_of_mem _ q))) hL hn h1 h2 h3 h4
    have := hel j hjs
    unfold ms_eok at this
    rw [if_pos (by omega), hs1, ht] at this
    rw [q]
    exact this
  · exact False.elim h
def o_put (ci j t : Nat) : ms_T := fun K kc ks ls st Γ M => match st with
  | (u, x) :: (2, a) :: st' => u = t ∧ ms_kd Γ a = ci ∧ K kc ks ls st' Γ (ms_up M a (j : Int) x)
  | _ => False
theorem s_put {ci j t index : Nat} {r : vw_C} (hc : vwCl[ci]? = some r) (hj : j < r.2.2) (hown : (r.2.1 j).1 = r.1) (ht : ms_tg (ms_ty ci j) = t) (hnar : ∀ (as : List Nat) (x : Int), narrow (ms_ty ci j) (ms_cv as (t, x)) = ms_cv as (t, x) ∧ fits (ms_ty ci j) (ms_cv as (t, x)) = true) (hfin : (r.2.1 j).2.2.2 = false ∨ (y.1.name = "<init>" ∧ r.1 = y.1.cls)) (hl : Cond.fieldLink y.1.cls index r.1 (r.2.1 j).2.1 (r.2.1 j).2.2.1 ∈ ms_B) (hd : decode y.2.1 pc = .ok (.putfield index, 3)) : ms_Snd G Q y d pc (pc + 3) (o_put ci j t) := by
  intro K hK kc ks ls st Γ M h
  unfold o_put at h
  split at h
  · rename_i u x a st'
    obtain ⟨rfl, hk, h⟩ := h
    obtain ⟨n, rfl, sh, hg, hs1, hs2⟩ := ms_kd_some hk (by have := ms_cls_lt hc; omega)
    intro p e R s m args below meth c as0 as H locs cells slots lsC mc ms Z hC hR hP hl' hs hL hn h1 h2 h3 h4
    obtain ⟨hx, hb, hml, hw, hts, -, -, hnm, hKn, -⟩ := id hC
    obtain ⟨g1, g2, g3, g4, g5, g6⟩ := id hP
    obtain ⟨⟨hshok, -⟩, hel, -⟩ := g3 n sh hg
    have hci := ms_cls_lt hc
    obtain ⟨r', hr', hn'⟩ := hshok (by omega)
    rw [hs1, hc] at hr'
    cases hr'
    have hjs : j < sh.2 := by omega
    have hat : (ms_ws G as Γ M)[n]? = some (as.getD n 0, .inr (ci, ms_fs as M n ci sh.2)) := by rw [ms_ws_at hg, ms_cell_obj hs1 (by omega)]
    have hvx : ms_vok Γ.length (u, x) := hs _ List.mem_cons_self
    have hM2 : ms_Mok Γ (ms_up M n j x) := ms_Mok_up g3 hg (fun i hi => by
      have hi : i = j := by omega
      subst hi
      unfold ms_eok
      rw [if_pos (by omega), hs1, ht]
      exact hvx) (fun q => by omega)
    have hws : ms_ws G as Γ (ms_up M n j x) = (ms_ws G as Γ M).set n (as.getD n 0, .inr (ci, (ms_fs as M n ci sh.2).set j (ms_cv as (u, x)))) := by
      rw [ms_ws_set hg (fun i k hi => ms_up_a (by omega)), ms_cell_obj hs1 (by omega), ms_fs_up, ht]
    rw [List.map_cons, List.map_cons, ms_cv2]
    have kk : ∀ (H1 : Heap) (locs1 : List Loc), va_P G.2.1 vwCl ((ms_ws G as Γ M).set n (as.getD n 0, .inr (ci, (ms_fs as M n ci sh.2).set j (ms_cv as (u, x))))) H1 → va_D (ms_A as0 s.heap.size) ((ms_ws G as Γ M).set n (as.getD n 0, .inr (ci, (ms_fs as M n ci sh.2).set j (ms_cv as (u, x))))) → va_S (ms_A as0 s.heap.size) s.heap H1 locs1 → W p G.1 e R s m args below meth c H1 locs1 cells slots Z (F0 m (pc + 3) lsC (st'.map (ms_cv as))) := by
      intro H1 locs1 q1 q2 q3
      rw [← hws] at q1 q2
      exact hK _ _ _ _ _ _ h p e R s m args below meth c as0 as H1 locs1 cells slots lsC mc ms Z hC hR ⟨g1, g2, hM2, q1, q2, q3⟩ hl' (fun u hu => hs u (List.mem_cons_of_mem _ (List.mem_cons_of_mem _ hu))) hL hn h1 h2 h3 h4
    rcases hfin with hfin | ⟨hfin1, hfin2⟩
    · exact va_put (v := ms_cv as (u, x)) (ty := ms_ty ci j) hx hb hts (ms_in ci r hc) (ms_ty ci) (ms_tyok ci r hc) (ms_nm ci r hc) hw hKn.1 g4 g5 g6 n hat hc j hj (hts _ hl) (fun x h => by rw [hown] at h; exact h) hfin (ms_tyok ci r hc j hj) (hnar as x).1 (hnar as x).2 (by rw [ms_fs_len]; exact hjs) hd kk
    · by_cases hf : (r.2.1 j).2.2.2 = false
      · exact va_put (v := ms_cv as (u, x)) (ty := ms_ty ci j) hx hb hts (ms_in ci r hc) (ms_ty ci) (ms_tyok ci r hc) (ms_nm ci r hc) hw hKn.1 g4 g5 g6 n hat hc j hj (hts _ hl) (fun x h => by rw [hown] at h; exact h) hf (ms_tyok ci r hc j hj) (hnar as x).1 (hnar as x).2 (by rw [ms_fs_len]; exact hjs) hd kk
      · exact va_putF (v := ms_cv as (u, x)) (ty := ms_ty ci j) hx hb hts (ms_in ci r hc) (ms_ty ci) (ms_tyok ci r hc) (ms_nm ci r hc) hw hKn.1 g4 g5 g6 n hat hc j hj (hts _ hl) (fun x h => by rw [hown] at h; exact h) (by simpa using hf) (hnm.trans hfin1) (hown.trans hfin2) (ms_tyok ci r hc j hj) (hnar as x).1 (hnar as x).2 (by rw [ms_fs_len]; exact hjs) hd kk
  · exact False.elim h
theorem ms_nar0 {ty : FieldType} (h : ty = .int) : ∀ (as : List Nat) (x : Int), narrow ty (ms_cv as (0, x)) = ms_cv as (0, x) ∧ fits ty (ms_cv as (0, x)) = true := by
  subst h
  exact fun as x => ⟨rfl, rfl⟩
theorem ms_nar2 {ty : FieldType} (h : ∀ r : Option Nat, narrow ty (va_rf r) = va_rf r ∧ fits ty (va_rf r) = true) : ∀ (as : List Nat) (x : Int), narrow ty (ms_cv as (2, x)) = ms_cv as (2, x) ∧ fits ty (ms_cv as (2, x)) = true := fun as x => h (ms_ro as x)
/-! arrays -/
def o_ald (c t : Nat) : ms_T := fun K kc ks ls st Γ M => match st with
  | (0, i) :: (2, a) :: st' => ms_kd Γ a = c ∧ 0 ≤ i ∧ i < ms_ln Γ a ∧ K kc ks ls ((t, M a i) :: st') Γ M
  | _ => False
theorem ms_tysat (G : ms_G) : (ms_tys G)[0]? = some (G.2.2 0, .int) ∧ (ms_tys G)[1]? = some (G.2.2 1, .long) ∧ (ms_tys G)[2]? = some (G.2.2 2, .byte) ∧ (ms_tys G)[3]? = some (G.2.2 3, .boolean) ∧ (ms_tys G)[4]? = some (G.2.2 4, .object RX4) := ⟨rfl, rfl, rfl, rfl, rfl⟩
theorem ms_ald {c t : Nat} (hc : c < 105) (row : ∀ (p : Program) (e : Env) (R : Room) (s : State) (m : MethodId) (args : Array Value) (below : List Frame) (meth : Method) (cd : Code) (H : Heap) (locs : List Loc) (cells slots : Nat) (Z : State → Prop) (lsC : Array Slot) (rest : List Value) (as : List Nat) (Γ : List ms_Sh) (M : ms_M) (n : Nat) (sh : ms_Sh) (i : Int), p.tables.exec = Jvm.exec → cd.code = y.2.1 → va_K G.2.1 vwCl (ms_tys G) s → va_P G.2.1 vwCl (ms_ws G as Γ M) H → Γ[n]? = some sh → sh.1 = c → -2147483648 ≤ i ∧ i < 2147483648 → 0 ≤ i → i < (sh.2 : Int) → W p G.1 e R s m args below meth cd H locs cells slots Z (F0 m (pc + 1) lsC (ms_cv as (t, M n i) :: rest)) → W p G.1 e R s m args below meth cd H locs cells slots Z (F0 m pc lsC (.int (Int32.ofInt i) :: .ref (as.getD n 0) :: rest)))
    (hv : ∀ (N : Nat) (sh : ms_Sh) (j : Nat) (x : Int), sh.1 = c → ms_eok N sh j x → ms_vok N (t, x)) : ms_Snd G Q y d pc (pc + 1) (o_ald c t) := by
  intro K hK kc ks ls st Γ M h
  unfold o_ald at h
  split at h
  · rename_i i a st'
    obtain ⟨hk, hi0, hin, h⟩ := h
    obtain ⟨n, rfl, sh, hg, hs1, hs2⟩ := ms_kd_some hk hc
    rw [hs2] at hin
    intro p e R s m args below meth cd as0 as H locs cells slots lsC mc ms Z hC hR hP hl' hs hL hn h1 h2 h3 h4
    rw [List.map_cons, List.map_cons, ms_cv2]
    refine row p e R s m args below meth cd H locs cells slots Z lsC (st'.map (ms_cv as)) as Γ M n sh i hC.1 hC.2.1 hC.2.2.2.2.2.2.2.2.1.1 hP.2.2.2.1 hg hs1 (hs _ List.mem_cons_self) hi0 hin ?_
    refine hK _ _ _ _ _ _ h p e R s m args below meth cd as0 as H locs cells slots lsC mc ms Z hC hR hP hl' (fun u hu => (List.mem_cons.mp hu).elim (fun q => ?_) (fun q => hs u (List.mem_cons_of_mem _ (List.mem_cons_of_mem _ q)))) hL hn h1 h2 h3 h4
    have := (hP.2.2.1 n sh hg).2.1 i.toNat (by omega)
    rw [q]
    rw [show ((i.toNat : Nat) : Int) = i by omega] at this
    exact hv _ sh _ _ hs1 this
  · exact False.elim h
theorem ms_eok_i {N j : Nat} {sh : ms_Sh} {x : Int} (hc : sh.1 = 100 ∨ sh.1 = 102 ∨ sh.1 = 103) (h : ms_eok N sh j x) : -2147483648 ≤ x ∧ x < 2147483648 := by
  unfold ms_eok at h
  rcases hc with hc | hc | hc
  · simp [hc] at h; omega
  · simp [hc] at h; omega
  · simp [hc] at h; omega
theorem s_iaload (hd : decode y.2.1 pc = .ok (.iaload, 1)) : ms_Snd G Q y d pc (pc + 1) (o_ald 100 0) := ms_ald (by omega) (fun p e R s m args below meth cd H locs cells slots Z lsC rest as Γ M n sh i hx hb hK hP hg hs hr h0 h1 k => by
  refine va_iald (f := fun j => Int32.ofInt (M n j)) hx hb hK hP n 0 (by rw [ms_ws_at hg, ms_cell_i (t := 0) (by omega) (Or.inl rfl)]) (ms_tysat G).1 (w32_vin hr h0 h1) hd ?_
  rw [w32_clamp hr]
  show W p G.1 e R s m args below meth cd H locs cells slots Z (F0 m (pc + 1) lsC (.int (Int32.ofInt (M n ((i.toNat : Nat) : Int))) :: rest))
  rw [show ((i.toNat : Nat) : Int) = i by omega]
  exact k) (fun N sh j x hs h => ms_eok_i (Or.inl hs) h)
theorem s_laload (hd : decode y.2.1 pc = .ok (.laload, 1)) : ms_Snd G Q y d pc (pc + 1) (o_ald 101 1) := ms_ald (by omega) (fun p e R s m args below meth cd H locs cells slots Z lsC rest as Γ M n sh i hx hb hK hP hg hs hr h0 h1 k => by
  refine va_lald (f := fun j => Int64.ofInt (M n j)) hx hb hK hP n 1 (by rw [ms_ws_at hg, ms_cell_l hs]) (ms_tysat G).2.1 (w32_vin hr h0 h1) hd ?_
  rw [w32_clamp hr]
  show W p G.1 e R s m args below meth cd H locs cells slots Z (F0 m (pc + 1) lsC (.long (Int64.ofInt (M n ((i.toNat : Nat) : Int))) :: rest))
  rw [show ((i.toNat : Nat) : Int) = i by omega]
  exact k) (fun N sh j x hs h => by unfold ms_eok at h; simp [hs] at h; exact h)
theorem s_aaload (hd : decode y.2.1 pc = .ok (.aaload, 1)) : ms_Snd G Q y d pc (pc + 1) (o_ald 104 2) := ms_ald (by omega) (fun p e R s m args below meth cd H locs cells slots Z lsC rest as Γ M n sh i hx hb hK hP hg hs hr h0 h1 k => by
  refine va_aldq (f := fun j => ms_ro as (M n j)) hx hb hK hP n 4 (by rw [ms_ws_at hg, ms_cell_q hs]) (ms_tysat G).2.2.2.2 (w32_vin hr h0 h1) hd ?_
  rw [w32_clamp hr]
  show W p G.1 e R s m args below meth cd H locs cells slots Z (F0 m (pc + 1) lsC (va_rf (ms_ro as (M n ((i.toNat : Nat) : Int))) :: rest))
  rw [show ((i.toNat : Nat) : Int) = i by omega]
  exact k) (fun N sh j x hs h => by unfold ms_eok at h; simp [hs] at h; exact h)
theorem s_baload_b (hd : decode y.2.1 pc = .ok (.baload, 1)) : ms_Snd G Q y d pc (pc + 1) (o_ald 102 0) := ms_ald (by omega) (fun p e R s m args below meth cd H locs cells slots Z lsC rest as Γ M n sh i hx hb hK hP hg hs hr h0 h1 k => by
  refine va_bald (f := fun j => Int32.ofInt (M n j)) hx hb hK hP n 2 (by rw [ms_ws_at hg, ms_cell_i (t := 2) (by omega) (Or.inr (Or.inl rfl))]) (ms_tysat G).2.2.1 (w32_vin hr h0 h1) hd ?_
  rw [w32_clamp hr]
  show W p G.1 e R s m args below meth cd H locs cells slots Z (F0 m (pc + 1) lsC (.int (Int32.ofInt (M n ((i.toNat : Nat) : Int))) :: rest))
  rw [show ((i.toNat : Nat) : Int) = i by omega]
  exact k) (fun N sh j x hs h => ms_eok_i (Or.inr (Or.inl hs)) h)
theorem s_baload_z (hd : decode y.2.1 pc = .ok (.baload, 1)) : ms_Snd G Q y d pc (pc + 1) (o_ald 103 0) := ms_ald (by omega) (fun p e R s m args below meth cd H locs cells slots Z lsC rest as Γ M n sh i hx hb hK hP hg hs hr h0 h1 k => by
  refine va_zald (f := fun j => Int32.ofInt (M n j)) hx hb hK hP n 3 (by rw [ms_ws_at hg, ms_cell_i (t := 3) (by omega) (Or.inr (Or.inr rfl))]) (ms_tysat G).2.2.2.1 (w32_vin hr h0 h1) hd ?_
  rw [w32_clamp hr]
  show W p G.1 e R s m args below meth cd H locs cells slots Z (F0 m (pc + 1) lsC (.int (Int32.ofInt (M n ((i.toNat : Nat) : Int))) :: rest))
  rw [show ((i.toNat : Nat) : Int) = i by omega]
  exact k) (fun N sh j x hs h => ms_eok_i (Or.inr (Or.inr hs)) h)
def o_bald : ms_T := fun K kc ks ls st Γ M => match st with
  | (0, i) :: (2, a) :: st' => (ms_kd Γ a = 102 ∨ ms_kd Γ a = 103) ∧ 0 ≤ i ∧ i < ms_ln Γ a ∧ K kc ks ls ((0, M a i) :: st') Γ M
  | _ => False
theorem s_baload (hd : decode y.2.1 pc = .ok (.baload, 1)) : ms_Snd G Q y d pc (pc + 1) o_bald := by
  intro K hK kc ks ls st Γ M h
  unfold o_bald at h
  split at h
  · obtain ⟨h0 | h0, h1⟩ := h
    · exact s_baload_b hd K hK _ _ _ _ _ _ ⟨h0, h1⟩
    · exact s_baload_z hd K hK _ _ _ _ _ _ ⟨h0, h1⟩
  · exact False.elim h
def o_ast (c t : Nat) (f : Int → Int) : ms_T := fun K kc ks ls st Γ M => match st with
  | (u, x) :: (0, i) :: (2, a) :: st' => u = t ∧ ms_kd Γ a = c ∧ 0 ≤ i ∧ i < ms_ln Γ a ∧ K kc ks ls st' Γ (ms_up M a i (f x))
  | _ => False
theorem ms_updi {M : ms_M} {n : Nat} {i x : Int} (h : 0 ≤ i) : (fun j : Nat => Int32.ofInt (ms_up M n i x n j)) = upd (fun j : Nat => Int32.ofInt (M n j)) i.toNat (Int32.ofInt x) := by
  funext j
  unfold upd
  by_cases hj : j = i.toNat
  · rw [if_pos hj, show ((j : Nat) : Int) = i by omega, ms_up_same]
  · rw [if_neg hj, ms_up_j (by omega)]
theorem ms_updl {M : ms_M} {n : Nat} {i x : Int} (h : 0 ≤ i) : (fun j : Nat => Int64.ofInt (ms_up M n i x n j)) = vp_updL (fun j : Nat => Int64.ofInt (M n j)) i.toNat (Int64.ofInt x) := by
  funext j
  unfold vp_updL
  by_cases hj : j = i.toNat
  · rw [if_pos hj, show ((j : Nat) : Int) = i by omega, ms_up_same]
  · rw [if_neg hj, ms_up_j (by omega)]
theorem ms_ast {c t : Nat} {f : Int → Int} (hc : c < 105) (hc4 : c ≠ 104) (hf : ∀ (N : Nat) (x : Int), ms_vok N (t, x) → ∀ (sh : ms_Sh) (j : Nat), sh.1 = c → ms_eok N sh j (f x))
    (row : ∀ (p : Program) (e : Env) (R : Room) (s : State) (m : MethodId) (args : Array Value) (below : List Frame) (meth : Method) (cd : Code) (H : Heap) (locs : List Loc) (cells slots : Nat) (Z : State → Prop) (lsC : Array Slot) (rest : List Value) (as as0 : List Nat) (Γ : List ms_Sh) (M : ms_M) (n : Nat) (sh : ms_Sh) (i x : Int), p.tables.exec = Jvm.exec → cd.code = y.2.1 → va_K G.2.1 vwCl (ms_tys G) s → va_P G.2.1 vwCl (ms_ws G as Γ M) H → va_D (ms_A as0 s.heap.size) (ms_ws G as Γ M) → va_S (ms_A as0 s.heap.size) s.heap H locs → Γ[n]? = some sh → sh.1 = c → -2147483648 ≤ i ∧ i < 2147483648 → 0 ≤ i → i < (sh.2 : Int) → (∀ (H1 : Heap) (locs1 : List Loc), va_P G.2.1 vwCl (ms_ws G as Γ (ms_up M n i (f x))) H1 → va_D (ms_A as0 s.heap.size) (ms_ws G as Γ (ms_up M n i (f x))) → va_S (ms_A as0 s.heap.size) s.heap H1 locs1 → W p G.1 e R s m args below meth cd H1 locs1 cells slots Z (F0 m (pc + 1) lsC rest)) → W p G.1 e R s m args below meth cd H locs cells slots Z (F0 m pc lsC (ms_cv as (t, x) :: .int (Int32.ofInt i) :: .ref (as.getD n 0) :: rest))) : ms_Snd G Q y d pc (pc + 1) (o_ast c t f) := by
  intro K hK kc ks ls st Γ M h
  unfold o_ast at h
  split at h
  · rename_i u x i a st'
    obtain ⟨rfl, hk, hi0, hin, h⟩ := h
    obtain ⟨n, rfl, sh, hg, hs1, hs2⟩ := ms_kd_some hk hc
    rw [hs2] at hin
    intro p e R s m args below meth cd as0 as H locs cells slots lsC mc ms Z hC hR hP hl' hs hL hn h1 h2 h3 h4
    rw [List.map_cons, List.map_cons, List.map_cons, ms_cv2]
    obtain ⟨g1, g2, g3, g4, g5, g6⟩ := id hP
    refine row p e R s m args below meth cd H locs cells slots Z lsC (st'.map (ms_cv as)) as as0 Γ M n sh i x hC.1 hC.2.1 hC.2.2.2.2.2.2.2.2.1.1 g4 g5 g6 hg hs1 (hs _ (List.mem_cons_of_mem _ List.mem_cons_self)) hi0 hin (fun H1 locs1 q1 q2 q3 => ?_)
    exact hK _ _ _ _ _ _ h p e R s m args below meth cd as0 as H1 locs1 cells slots lsC mc ms Z hC hR ⟨g1, g2, ms_Mok_up g3 hg (fun j hj => hf _ x (hs _ List.mem_cons_self) sh j hs1) (fun q => by omega), q1, q2, q3⟩ hl' (fun u hu => hs u (List.mem_cons_of_mem _ (List.mem_cons_of_mem _ (List.mem_cons_of_mem _ hu)))) hL hn h1 h2 h3 h4
  · exact False.elim h
theorem s_iastore (hd : decode y.2.1 pc = .ok (.iastore, 1)) : ms_Snd G Q y d pc (pc + 1) (o_ast 100 0 (fun x => x)) := ms_ast (by omega) (by omega) (fun N x h sh j hs => by
    have h : -2147483648 ≤ x ∧ x < 2147483648 := h
    unfold ms_eok
    simp [hs]
    omega) (fun p e R s m args below meth cd H locs cells slots Z lsC rest as as0 Γ M n sh i x hx hb hK hP hD hS hg hs hr h0 h1 k => by
  refine va_iast (x := Int32.ofInt x) (f := fun j => Int32.ofInt (M n j)) hx hb hK hP hD hS n 0 (by rw [ms_ws_at hg, ms_cell_i (t := 0) (by omega) (Or.inl rfl)]) (ms_tysat G).1 (w32_vin hr h0 h1) hd (fun H1 locs1 q1 q2 q3 => ?_)
  rw [w32_clamp hr, ← ms_updi h0, ← ms_cell_i (as := as) (sh := sh) (t := 0) (by omega) (Or.inl rfl), ← ms_ws_set hg (fun i' k' hi' => ms_up_a (by omega))] at q1 q2
  exact k H1 locs1 q1 q2 q3)
theorem s_lastore (hd : decode y.2.1 pc = .ok (.lastore, 1)) : ms_Snd G Q y d pc (pc + 1) (o_ast 101 1 (fun x => x)) := ms_ast (by omega) (by omega) (fun N x h sh j hs => by
    have h : -9223372036854775808 ≤ x ∧ x < 9223372036854775808 := h
    unfold ms_eok
    simp [hs]
    omega) (fun p e R s m args below meth cd H locs cells slots Z lsC rest as as0 Γ M n sh i x hx hb hK hP hD hS hg hs hr h0 h1 k => by
  refine va_last (x := Int64.ofInt x) (f := fun j => Int64.ofInt (M n j)) hx hb hK hP hD hS n 1 (by rw [ms_ws_at hg, ms_cell_l hs]) (ms_tysat G).2.1 (w32_vin hr h0 h1) hd (fun H1 locs1 q1 q2 q3 => ?_)
  rw [w32_clamp hr, ← ms_updl h0, ← ms_cell_l (as := as) (sh := sh) hs, ← ms_ws_set hg (fun i' k' hi' => ms_up_a (by omega))] at q1 q2
  exact k H1 locs1 q1 q2 q3)
theorem ms_and1 (x : Int32) : (x &&& 1) = 0 ∨ (x &&& 1) = 1 := by
  have h : (x &&& 1).toBitVec = 0#32 ∨ (x &&& 1).toBitVec = 1#32 := by
    have e : (x &&& 1).toBitVec = x.toBitVec &&& 1#32 := rfl
    rw [e, BitVec.and_one_eq_setWidth_ofBool_getLsbD]
    cases x.toBitVec.getLsbD 0
    · exact Or.inl rfl
    · exact Or.inr rfl
  rcases h with h | h
  · exact Or.inl (Int32.toBitVec.inj h)
  · exact Or.inr (Int32.toBitVec.inj h)
def wbyte (x : Int) : Int := (Int32.ofInt x).toInt8.toInt32.toInt
def wbool (x : Int) : Int := (vp_nar .boolean (Int32.ofInt x)).toInt
theorem wbyte_in (x : Int) : -128 ≤ wbyte x ∧ wbyte x < 128 := by
  unfold wbyte
  rw [Int8.toInt_toInt32]
  exact ⟨Int8.le_toInt _, Int8.toInt_lt _⟩
theorem s_bastore_b (hd : decode y.2.1 pc = .ok (.bastore, 1)) : ms_Snd G Q y d pc (pc + 1) (o_ast 102 0 wbyte) := ms_ast (by omega) (by omega) (fun N x h sh j hs => by
    unfold ms_eok
    simp [hs]
    exact wbyte_in x) (fun p e R s m args below meth cd H locs cells slots Z lsC rest as as0 Γ M n sh i x hx hb hK hP hD hS hg hs hr h0 h1 k => by
  refine va_bast (x := Int32.ofInt x) (f := fun j => Int32.ofInt (M n j)) hx hb hK hP hD hS n 2 (by rw [ms_ws_at hg, ms_cell_i (t := 2) (by omega) (Or.inr (Or.inl rfl))]) (ms_tysat G).2.2.1 (w32_vin hr h0 h1) hd (fun H1 locs1 q1 q2 q3 => ?_)
  have e : vp_nar .byte (Int32.ofInt x) = Int32.ofInt (wbyte x) := by unfold wbyte; rw [Int32.ofInt_toInt]; rfl
  rw [w32_clamp hr, e, ← ms_updi h0, ← ms_cell_i (as := as) (sh := sh) (t := 2) (by omega) (Or.inr (Or.inl rfl)), ← ms_ws_set hg (fun i' k' hi' => ms_up_a (by omega))] at q1 q2
  exact k H1 locs1 q1 q2 q3)
def o_bast : ms_T := fun K kc ks ls st Γ M => match st with
  | (0, x) :: (0, i) :: (2, a) :: st' => (ms_kd Γ a = 102 ∨ ms_kd Γ a = 103) ∧ (ms_kd Γ a = 103 → x = 0 ∨ x = 1) ∧ 0 ≤ i ∧ i < ms_ln Γ a ∧ K kc ks ls st' Γ (ms_up M a i (if ms_kd Γ a = 103 then x else wbyte x))
  | _ => False
theorem wbool_01 {x : Int} (h : x = 0 ∨ x = 1) : wbool x = x := by
  rcases h with rfl | rfl <;> rfl
theorem s_bastore_z (hd : decode y.2.1 pc = .ok (.bastore, 1)) : ms_Snd G Q y d pc (pc + 1) (o_ast 103 0 (fun x => if x = 0 then 0 else if x = 1 then 1 else wbool x % 2)) := ms_ast (by omega) (by omega) (fun N x h sh j hs => by
    unfold ms_eok
    simp [hs]
    split
    · omega
    · split <;> omega) (fun p e R s m args below meth cd H locs cells slots Z lsC rest as as0 Γ M n sh i x hx hb hK hP hD hS hg hs hr h0 h1 k => by
  refine va_zast (x := Int32.ofInt x) (f := fun j => Int32.ofInt (M n j)) hx hb hK hP hD hS n 3 (by rw [ms_ws_at hg, ms_cell_i (t := 3) (by omega) (Or.inr (Or.inr rfl))]) (ms_tysat G).2.2.2.1 (w32_vin hr h0 h1) hd (fun H1 locs1 q1 q2 q3 => ?_)
  have e : vp_nar .boolean (Int32.ofInt x) = Int32.ofInt (if x = 0 then 0 else if x = 1 then 1 else wbool x % 2) := by
    by_cases hx0 : x = 0
    · rw [if_pos hx0, hx0]; rfl
    · rw [if_neg hx0]
      by_cases hx1 : x = 1
      · rw [if_pos hx1, hx1]; rfl
      · rw [if_neg hx1]
        have hb : (vp_nar .boolean (Int32.ofInt x)) = 0 ∨ (vp_nar .boolean (Int32.ofInt x)) = 1 := by
          show (Int32.ofInt x &&& 1) = 0 ∨ (Int32.ofInt x &&& 1) = 1
          exact ms_and1 _
        unfold wbool
        rcases hb with hb | hb
        · rw [hb]; rfl
        · rw [hb]; rfl
  rw [w32_clamp hr, e, ← ms_updi h0, ← ms_cell_i (as := as) (sh := sh) (t := 3) (by omega) (Or.inr (Or.inr rfl)), ← ms_ws_set hg (fun i' k' hi' => ms_up_a (by omega))] at q1 q2
  exact k H1 locs1 q1 q2 q3)
theorem s_bastore (hd : decode y.2.1 pc = .ok (.bastore, 1)) : ms_Snd G Q y d pc (pc + 1) o_bast := by
  intro K hK kc ks ls st Γ M h
  unfold o_bast at h
  split at h
  · rename_i x i a st'
    obtain ⟨h0, h01, h1, h2, h3⟩ := h
    by_cases hk : ms_kd Γ a = 103
    · rw [if_pos hk] at h3
      refine s_bastore_z hd K hK _ _ _ _ _ _ ⟨rfl, hk, h1, h2, ?_⟩
      have e : (if x = 0 then 0 else if x = 1 then 1 else wbool x % 2) = x := by
        rcases h01 hk with e | e
        · rw [if_pos e, e]
        · rw [if_neg (by omega), if_pos e, e]
      simp only [e]
      exact h3
    · rw [if_neg hk] at h3
      exact s_bastore_b hd K hK _ _ _ _ _ _ ⟨rfl, h0.resolve_right hk, h1, h2, h3⟩
  · exact False.elim h
end MSF
