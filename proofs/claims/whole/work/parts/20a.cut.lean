/-! ===== tables with cuts where ways meet ===== -/
def ms_Oc (G : ms_G) (Q : ms_Q) (y : ms_Y) (d : Nat) : List (Nat × ms_T) → Prop
  | [] => True
  | q :: r => (q.1 < 100000 → ∀ kc ks ls st Γ M, q.2 (ms_run r) kc ks ls st Γ M → ms_At G Q y d kc ks q.1 ls st Γ M) ∧ ms_Oc G Q y d r
theorem ms_oc1 {G : ms_G} {Q : ms_Q} {y : ms_Y} {d pc pc' : Nat} {T T' : ms_T} {r : List (Nat × ms_T)} (hp : Nat.blt pc' 100000 = true) (h : ms_Snd G Q y d pc pc' T) (hr : ms_Oc G Q y d ((pc', T') :: r)) : ms_Oc G Q y d ((pc, T) :: (pc', T') :: r) := ⟨fun _ => h _ (hr.1 (by simpa [Nat.blt_eq] using hp)), hr⟩
theorem ms_occ {G : ms_G} {Q : ms_Q} {y : ms_Y} {d pc pc' : Nat} {T : ms_T} {r : List (Nat × ms_T)} (h : ms_Snd G Q y d pc pc' T) (hr : ms_Oc G Q y d r) : ms_Oc G Q y d ((pc, T) :: (100000, o_go G Q y d pc') :: r) := ⟨fun _ => h _ (fun _ _ _ _ _ _ q => q), ⟨fun q => absurd q (by simp), hr⟩⟩
theorem ms_oc0 {G : ms_G} {Q : ms_Q} {y : ms_Y} {d pc : Nat} {T : ms_T} (h : ms_Snd G Q y d pc 0 T) : ms_Oc G Q y d [(pc, T)] := ⟨fun _ => h _ (fun _ _ _ _ _ _ q => False.elim q), trivial⟩
theorem ms_sufc {G : ms_G} {Q : ms_Q} {y : ms_Y} {d pc : Nat} (hp : pc < 100000) : ∀ {ops : List (Nat × ms_T)}, ms_Oc G Q y d ops → ∀ kc ks ls st Γ M, ms_run (ms_suf pc ops) kc ks ls st Γ M → ms_At G Q y d kc ks pc ls st Γ M
  | [], _ => fun _ _ _ _ _ _ q => False.elim q
  | q :: r, h => by
    intro kc ks ls st Γ M hb
    unfold ms_suf at hb
    by_cases hq : q.1 = pc
    · rw [show (q.1 == pc) = true by simp [hq]] at hb
      rw [← hq]
      exact h.1 (by omega) kc ks ls st Γ M hb
    · rw [show (q.1 == pc) = false by simp [hq]] at hb
      exact ms_sufc hp h.2 kc ks ls st Γ M hb
/-- go on at pc, by the table of the method's operations -/
theorem ms_gq {G : ms_G} {Q : ms_Q} {y : ms_Y} {d kc ks pc : Nat} {ls st : List ms_V} {Γ : List ms_Sh} {M : ms_M} {ops r : List (Nat × ms_T)} {q : Nat × ms_T} (h : ms_Oc G Q y d ops) (hs : (ms_suf pc ops, Nat.blt pc 100000) = (q :: r, true)) (hb : ms_run (q :: r) kc ks ls st Γ M) : ms_At G Q y d kc ks pc ls st Γ M := by
  have h1 := congrArg Prod.fst hs
  have h2 := congrArg Prod.snd hs
  simp only at h1 h2
  exact ms_sufc (by simpa [Nat.blt_eq] using h2) h kc ks ls st Γ M (by rw [h1]; exact hb)
