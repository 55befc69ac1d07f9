/-! ===== contracts: from the walk of a body, and at a call ===== -/
def ms_fl : List ms_V → List ms_V
  | [] => []
  | v :: r => if v.1 = 1 then v :: (3, 0) :: ms_fl r else v :: ms_fl r
def ms_ini (n : Nat) (av : List ms_V) : List ms_V := ms_fl av ++ List.replicate (n - (ms_fl av).length) (3, 0)
theorem ms_cat {as : List Nat} : ∀ {v : ms_V}, v.1 < 3 → ((ms_cv as v).category = 2 ↔ v.1 = 1)
  | (0, _), _ => by simp [ms_cv, Value.category]
  | (1, _), _ => by simp [ms_cv, Value.category]
  | (2, x), _ => by
    have e : ms_cv as (2, x) = va_rf (ms_ro as x) := rfl
    rw [e]
    cases ms_ro as x <;> simp [va_rf, Value.category]
  | (_ + 3, _), h => by
    simp only at h
    omega
theorem ms_vok_lt {n : Nat} : ∀ {v : ms_V}, ms_vok n v → v.1 < 3
  | (0, _), _ => by simp
  | (1, _), _ => by simp
  | (2, _), _ => by simp
  | (_ + 3, _), h => False.elim h
theorem ms_args_mem {as : List Nat} {nn : Nat} : ∀ (av : List ms_V), (∀ v ∈ av, ms_vok nn v) → ∀ (i k n : Nat) (v : ms_V), (ms_fl av ++ List.replicate n ((3, 0) : ms_V))[k]? = some v → v.1 < 3 → (i + k, ms_cv as v) ∈ lv_args i (av.map (ms_cv as))
  | [], _, i, k, n, v, h, hv => by
    simp only [ms_fl, List.nil_append] at h
    have := List.mem_of_getElem? h
    rw [List.mem_replicate] at this
    rw [this.2] at hv
    simp only at hv
    omega
  | u :: r, hav, i, k, n, v, h, hv => by
    have hu := ms_vok_lt (hav u List.mem_cons_self)
    have hc := ms_cat (as := as) hu
    have ih := ms_args_mem (as := as) r (fun v hv => hav v (List.mem_cons_of_mem _ hv))
    rw [List.map_cons]
    unfold lv_args
    unfold ms_fl at h
    by_cases h1 : u.1 = 1
    · rw [if_pos h1] at h
      rw [if_pos (hc.mpr h1)]
      match k, h with
      | 0, h =>
        simp only [List.cons_append, List.getElem?_cons_zero, Option.some.injEq] at h
        subst h
        exact List.mem_cons_self
      | 1, h =>
        simp only [List.cons_append, List.getElem?_cons_succ, List.getElem?_cons_zero, Option.some.injEq] at h
        subst h
        simp only at hv
        omega
      | k + 2, h =>
        simp only [List.cons_append, List.getElem?_cons_succ] at h
        have := ih (i + 2) k n v h hv
        rw [show i + (k + 2) = i + 2 + k by omega]
        exact List.mem_cons_of_mem _ this
    · rw [if_neg h1] at h
      rw [if_neg (fun q => h1 (hc.mp q))]
      match k, h with
      | 0, h =>
        simp only [List.cons_append, List.getElem?_cons_zero, Option.some.injEq] at h
        subst h
        exact List.mem_cons_self
      | k + 1, h =>
        simp only [List.cons_append, List.getElem?_cons_succ] at h
        have := ih (i + 1) k n v h hv
        rw [show i + (k + 1) = i + 1 + k by omega]
        exact List.mem_cons_of_mem _ this
theorem ms_sl_len {as : List Nat} {nn : Nat} : ∀ (av : List ms_V), (∀ v ∈ av, ms_vok nn v) → (lg_sl (av.map (ms_cv as))).length = (ms_fl av).length
  | [], _ => rfl
  | u :: r, hav => by
    have hu := ms_vok_lt (hav u List.mem_cons_self)
    have hc := ms_cat (as := as) hu
    have ih := ms_sl_len (as := as) r (fun v hv => hav v (List.mem_cons_of_mem _ hv))
    unfold lg_sl at ih ⊢
    rw [List.map_cons, List.flatMap_cons, List.length_append, ih]
    have e : ms_fl (u :: r) = if u.1 = 1 then u :: (3, 0) :: ms_fl r else u :: ms_fl r := rfl
    rw [e]
    by_cases h1 : u.1 = 1
    · rw [if_pos h1, if_pos (hc.mpr h1)]
      simp only [List.length_cons, List.length_nil]
      omega
    · rw [if_neg h1, if_neg (fun q => h1 (hc.mp q))]
      simp only [List.length_cons, List.length_nil]
      omega
theorem ms_fl_lok {n : Nat} : ∀ (av : List ms_V), (∀ v ∈ av, ms_vok n v) → ∀ v ∈ ms_fl av, ms_lok n v
  | [], _, v, h => absurd h List.not_mem_nil
  | u :: r, hav, v, h => by
    have ih := ms_fl_lok r (fun v hv => hav v (List.mem_cons_of_mem _ hv)) v
    unfold ms_fl at h
    by_cases h1 : u.1 = 1
    · rw [if_pos h1] at h
      rcases List.mem_cons.mp h with h | h
      · subst h
        exact fun _ => hav _ List.mem_cons_self
      · rcases List.mem_cons.mp h with h | h
        · subst h
          intro q
          simp only at q
          omega
        · exact ih h
    · rw [if_neg h1] at h
      rcases List.mem_cons.mp h with h | h
      · subst h
        exact fun _ => hav _ List.mem_cons_self
      · exact ih h
theorem ms_in_as {as : List Nat} {k : Nat} (h : k < as.length) : as.getD k 0 ∈ as := by
  rw [List.getD_eq_getElem?_getD, List.getElem?_eq_getElem h]
  exact List.getElem_mem h
set_option maxHeartbeats 4000000 in
theorem ms_Call.ofAt {G : ms_G} {y : ms_Y} {d mc ms : Nat} {av : List ms_V} {Γ : List ms_Sh} {M : ms_M} {Q : ms_Q} (hy : plainName y.1.cls = true) (hn : (ms_fl av).length ≤ y.2.2.1) (h : ms_Mok Γ M → (∀ v ∈ av, ms_vok Γ.length v) → ms_At G Q y d mc ms 0 (ms_ini y.2.2.1 av) [] Γ M) : ms_Call G y d mc ms av Γ M Q := by
  intro as sz hl hM hav
  refine Met.ofW (cc := y.2.1) (maxL := y.2.2.1) (ret := y.2.2.2) hy rfl ?_
  intro p e s m args below meth c s₁ B hml hv
  obtain ⟨rfl, rfl, hP, hK, hD⟩ := hv
  have hts := atoms_spec (ws := ms_wd y) B.pre
  have hlk := B.notSynchronized
  have hC : ms_Ctx G y d p (headSpec (ms_wd y) (ms_room d mc ms)).room s m (av.map (ms_cv as)).toArray meth c := ⟨B.exec, B.bytes, hml, findClass_of_methodNamed B.named, fun w hw => hts w (List.mem_cons_of_mem _ hw), B.returns, hlk, (name_of_methodNamed B.named B.method).1, hK, Nat.le_refl _, Nat.le_refl _⟩
  have hlen := ms_sl_len (as := as) av hav
  have hent := lv_entry (av.map (ms_cv as)) (n := y.2.2.1) (by rw [hlen]; exact hn)
  rw [lg_entry_eq]
  refine h hM hav p e _ s m _ below meth c as as s.heap [] 0 0 _ mc ms _ hC ?_ ⟨hl, List.prefix_refl _, hM, hP, ?_, va_S.rf⟩ ?_ (fun v hv => absurd hv List.not_mem_nil) ?_ ?_ (by omega) (by omega) (Nat.le_refl _) (Nat.le_refl _)
  · intro v Γ' M' as' H locs cells slots lsC pc i hQ hR hlok hrok hdec hc1 hs1
    obtain ⟨e1, e2, e3, e4, e5, e6⟩ := hR
    refine W.widen hc1 hs1 ?_
    have hq : ∀ t : State, t.heap = H → ms_Qc G Q as s.heap.size (av.map (ms_cv as)).toArray s (.returned (ms_rs as' v)) t := fun t ht => ⟨⟨v, Γ', M', as', rfl, hQ, hlok, e1, e2, e3, by rw [ht]; exact e4, e5⟩, e6.F ht⟩
    rcases hrok with ⟨hv, rfl, hr⟩ | ⟨hv, rfl, hr⟩ | ⟨rfl, rfl, hr⟩
    · obtain ⟨t, x⟩ := v
      have hv : t = 0 := hv
      subst hv
      rcases hr with hr | ⟨hr, hx⟩
      · exact W.iret B.exec B.bytes (B.returns.trans hr) (fun t ht _ => hq t ht) e6.2.2 hdec hlk
      · refine W.zret (v := Int32.ofInt x) (ty := .boolean) B.exec B.bytes (B.returns.trans hr) ?_ (fun t ht _ => hq t ht) e6.2.2 hdec hlk
        rcases hx with hx | hx
        · have hx : x = 0 := hx
          subst hx
          rfl
        · have hx : x = 1 := hx
          subst hx
          rfl
    · obtain ⟨t, x⟩ := v
      have hv : t = 1 := hv
      subst hv
      exact W.lret (v := Int64.ofInt x) B.exec B.bytes (B.returns.trans hr) (fun t ht _ => hq t ht) e6.2.2 hdec hlk
    · exact W.vret B.exec B.bytes (B.returns.trans hr) (fun t ht _ => hq t ht) e6.2.2 hdec hlk
  · refine ⟨hD.1, fun k q hk => ?_⟩
    obtain ⟨sh, h1, rfl⟩ := ms_ws_inv hk
    exact Or.inl (ms_in_as (by rw [hl]; exact (List.getElem?_eq_some_iff.mp h1).1))
  · intro v hv
    rcases List.mem_append.mp hv with hv | hv
    · exact ms_fl_lok av hav v hv
    · rw [(List.mem_replicate.mp hv).2]
      intro q
      simp only at q
      omega
  · refine ⟨hent.1, hent.2.1, fun q hq => hent.2.2 q ?_⟩
    obtain ⟨v, h1, h2, h3⟩ := ms_ll_mem.mp hq
    have := ms_args_mem (as := as) av hav 0 q.1 (y.2.2.1 - (ms_fl av).length) v h1 h2
    rw [Nat.zero_add, ← h3] at this
    exact this
  · unfold ms_ini
    rw [List.length_append, List.length_replicate]
    omega
set_option maxHeartbeats 4000000 in
theorem ms_callW {G : ms_G} {Q : ms_Q} {p : Program} {e : Env} {R : Room} {s : State} {m : MethodId} {args : Array Value} {below : List Frame} {meth : Method} {c : Code} {H : Heap} {locs : List Loc} {cells slots mc ms pc : Nat} {lsC : Array Slot} {st0 rest : List Value} {a : Array Value} {Z : State → Prop} {as0 as : List Nat} {Γ : List ms_Sh} {M : ms_M}
    (hr : va_Run p G.1 e R s m args below meth c H locs cells slots mc ms (F0 m pc lsC st0) rest (ms_Qc G Q as H.size a) (ms_A as H.size)) (hRep : ms_Rep G s as0 as Γ M H locs)
    (kk : ∀ (v : ms_V) (Γ' : List ms_Sh) (M' : ms_M) (as' : List Nat) (H1 : Heap) (locs1 : List Loc), Q v Γ' M' → ms_lok Γ'.length v → as <+: as' → ms_Rep G s as0 as' Γ' M' H1 locs1 → W p G.1 e R s m args below meth c H1 locs1 (cells + mc) (slots + ms) Z (F0 m (pc + 3) lsC ((ms_rs as' v).toList ++ rest))) : W p G.1 e R s m args below meth c H locs cells slots Z (F0 m pc lsC st0) := by
  intro T hT X
  obtain ⟨v0, st₀, t, T', L, h0, X', hL, e1, e2, ⟨⟨v, Γ', M', as', hv, hQ, hlok, hlen, hpre, hM', hP', hD'⟩, hz, hk⟩, st⟩ := hr T hT X
  cases hv
  rw [h0] at hz hk
  obtain ⟨g1, g2, g3, g4, g5, g6⟩ := hRep
  have hA : ∀ q, ms_A as H.size q → ms_A as0 s.heap.size q := by
    intro q hq
    rcases hq with h | h
    · obtain ⟨k, hk1, hk2⟩ := List.getElem_of_mem h
      have hg : Γ[k]? = some (Γ[k]'(by omega)) := List.getElem?_eq_getElem (by omega)
      have h5 := g5.2 k _ (ms_ws_at hg)
      simp only at h5
      rw [List.getD_eq_getElem?_getD, List.getElem?_eq_getElem hk1] at h5
      simp only [Option.getD_some] at h5
      rw [hk2] at h5
      exact h5
    · exact Or.inr (Nat.le_trans g6.1 h)
  obtain ⟨t2, a1, b1⟩ := kk v Γ' M' as' T'.heap (locs ++ L) hQ hlok hpre ⟨hlen, g2.trans hpre, hM', by rw [e1]; exact hP', hD'.weaken (fun _ _ _ h => hA _ h),
    ⟨Nat.le_trans g6.1 (by rw [e1]; exact hz), fun q h1 h2 => by rw [e1, hk q (Nat.lt_of_lt_of_le h1 g6.1) (fun z => h2 (hA q z))]; exact g6.2.1 q h1 h2, fun q hq => by
      rcases List.mem_append.mp hq with h | h
      · exact g6.2.2 q h
      · exact hA _ (hL q h)⟩⟩ T' rfl X'
  exact ⟨t2, st t2 a1, b1⟩
/-! ===== operations as predicate transformers ===== -/
abbrev ms_K : Type := Nat → Nat → List ms_V → List ms_V → List ms_Sh → ms_M → Prop
abbrev ms_T : Type := ms_K → ms_K
def ms_run : List (Nat × ms_T) → ms_K
  | [] => fun _ _ _ _ _ _ => False
  | q :: r => q.2 (ms_run r)
def ms_Snd (G : ms_G) (Q : ms_Q) (y : ms_Y) (d pc pc' : Nat) (T : ms_T) : Prop := ∀ K : ms_K, (∀ kc ks ls st Γ M, K kc ks ls st Γ M → ms_At G Q y d kc ks pc' ls st Γ M) → ∀ kc ks ls st Γ M, T K kc ks ls st Γ M → ms_At G Q y d kc ks pc ls st Γ M
def ms_Ok (G : ms_G) (Q : ms_Q) (y : ms_Y) (d : Nat) : List (Nat × ms_T) → Prop
  | [] => True
  | q :: r => (∀ kc ks ls st Γ M, q.2 (ms_run r) kc ks ls st Γ M → ms_At G Q y d kc ks q.1 ls st Γ M) ∧ ms_Ok G Q y d r
theorem ms_ok1 {G : ms_G} {Q : ms_Q} {y : ms_Y} {d pc pc' : Nat} {T T' : ms_T} {r : List (Nat × ms_T)} (h : ms_Snd G Q y d pc pc' T) (hr : ms_Ok G Q y d ((pc', T') :: r)) : ms_Ok G Q y d ((pc, T) :: (pc', T') :: r) := ⟨h _ hr.1, hr⟩
theorem ms_ok0 {G : ms_G} {Q : ms_Q} {y : ms_Y} {d pc : Nat} {T : ms_T} (h : ms_Snd G Q y d pc 0 T) : ms_Ok G Q y d [(pc, T)] := ⟨h _ (fun _ _ _ _ _ _ q => False.elim q), trivial⟩
def ms_suf (pc : Nat) : List (Nat × ms_T) → List (Nat × ms_T)
  | [] => []
  | q :: r => bif q.1 == pc then q :: r else ms_suf pc r
theorem ms_suf_ok {G : ms_G} {Q : ms_Q} {y : ms_Y} {d pc : Nat} : ∀ {ops : List (Nat × ms_T)}, ms_Ok G Q y d ops → ∀ kc ks ls st Γ M, ms_run (ms_suf pc ops) kc ks ls st Γ M → ms_At G Q y d kc ks pc ls st Γ M
  | [], _ => fun _ _ _ _ _ _ q => False.elim q
  | q :: r, h => by
    intro kc ks ls st Γ M hb
    unfold ms_suf at hb
    by_cases hp : q.1 = pc
    · rw [show (q.1 == pc) = true by simp [hp]] at hb
      rw [← hp]
      exact h.1 kc ks ls st Γ M hb
    · rw [show (q.1 == pc) = false by simp [hp]] at hb
      exact ms_suf_ok h.2 kc ks ls st Γ M hb
/-- go on at pc, by the table of the method's operations -/
theorem ms_go {G : ms_G} {Q : ms_Q} {y : ms_Y} {d kc ks pc : Nat} {ls st : List ms_V} {Γ : List ms_Sh} {M : ms_M} {ops r : List (Nat × ms_T)} (h : ms_Ok G Q y d ops) (hs : ms_suf pc ops = r) (hb : ms_run r kc ks ls st Γ M) : ms_At G Q y d kc ks pc ls st Γ M := ms_suf_ok h kc ks ls st Γ M (by rw [hs]; exact hb)
/-- what is known of memory at any point -/
theorem ms_At.mok {G : ms_G} {Q : ms_Q} {y : ms_Y} {d kc ks pc : Nat} {ls st : List ms_V} {Γ : List ms_Sh} {M : ms_M} (h : ms_Mok Γ M → (∀ v ∈ ls, ms_lok Γ.length v) → ms_At G Q y d kc ks pc ls st Γ M) : ms_At G Q y d kc ks pc ls st Γ M :=
  fun p e R s m args below meth c as0 as H locs cells slots lsC mc ms Z hC hR hP hl => h hP.2.2.1 hl p e R s m args below meth c as0 as H locs cells slots lsC mc ms Z hC hR hP hl
