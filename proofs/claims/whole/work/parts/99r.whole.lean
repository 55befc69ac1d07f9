/-! ===== the whole law ===== -/
theorem lw_nw {s : State} {a : Array Value} (hts : ∀ w ∈ lw_tbl, w.before a s = true) : ∀ w ∈ nx_W, va_Nw w s := by
  intro w hw
  unfold nx_W at hw
  rcases List.mem_cons.mp hw with hw | hw
  · rw [hw]; exact va_Nw.of rfl (hts _ lw_n0)
  · rcases List.mem_cons.mp hw with hw | hw
    · rw [hw]; exact va_Nw.of rfl (hts _ lw_n1)
    · rcases List.mem_cons.mp hw with hw | hw
      · rw [hw]; exact va_Nw.of rfl (hts _ lw_n2)
      · rcases List.mem_cons.mp hw with hw | hw
        · rw [hw]; exact va_Nw.of rfl (hts _ lw_n3)
        · exact absurd hw List.not_mem_nil
set_option maxHeartbeats 4000000 in
theorem whole_start {p : Program} {e : Env} {s : State} {m : MethodId} {below : List Frame} {meth : Method} {c : Code} (l : Launch) (hflags : l.flags = flags0) {b L : Nat} {xs : Nat → Int32} (hL : L ≤ 3584) (C0 : lw_At p s m meth c b L xs) : W p l e room_1 s m #[Value.ref b] below meth c s.heap [] 0 0 (lw_Z below #[Value.ref b] s) (entryFrame m ([Value.ref b] : List Value).toArray 7) := by
  obtain ⟨hx, hb, hr, hml, hown, hts, hX, hbl, hlk, hgv⟩ := C0
  obtain ⟨G, rfl, hKn⟩ := lw_kn (l := l) hts
  have htr : G.1.stackTraces = false := by
    unfold Launch.stackTraces
    rw [hflags]
    decide +kernel
  have hs := flat_of_before _ hgv
  have hiU : (Cond.isRef (.static Bundle.tN "UNASSIGNED_STACK" Bundle.steD)).before #[Value.ref b] s = true := hs _ (by decide +kernel)
  have hiN : (Cond.isRef (.static Bundle.tN "SUPPRESSED_SENTINEL" Bundle.listD)).before #[Value.ref b] s = true := hs _ (by decide +kernel)
  have hA : ∀ a : Nat, a < s.heap.size → ¬ ms_A [] s.heap.size a := fun a ha h => by
    rcases h with h | h
    · exact absurd h List.not_mem_nil
    · omega
  have hK : nx_K (ms_A [] s.heap.size) s := ⟨lw_nw hts, vx_Zqof (hts _ lw_n4) (hts _ lw_n6) hiU hA, vx_Zqof (hts _ lw_n5) (hts _ lw_n6) hiN hA⟩
  have hE : lw_C (lw_E.mk G p e s m below meth c b L xs) := ⟨⟨hx, hb, hml, hown, fun w hw => hts w (List.mem_filter.mp hw).1, hr, hlk, rfl, hKn, Nat.le_of_ble_eq_true rfl, Nat.le_of_ble_eq_true rfl⟩, hX, hbl, hL⟩
  have hl := lv_entry ([Value.ref b]) (n := 7) (Nat.le_of_ble_eq_true rfl)
  rw [lg_entry_eq]
  generalize (lg_sl ([Value.ref b]) ++ List.replicate (7 - (lg_sl ([Value.ref b])).length) Slot.unset).toArray = lsC at hl ⊢
  exact lw_enter (E := lw_E.mk G p e s m below meth c b L xs) (M := fun _ _ => 0) hE hK htr [] s.heap [] 0 0 lsC ⟨rfl, List.prefix_refl _, fun k sh h => (by cases h), fun k q h => (by cases h), ⟨fun i j p q h => (by cases h), fun k q h => (by cases h)⟩, va_S.rf⟩ (fun q hq => absurd hq List.not_mem_nil) (fun v hv => absurd hv List.not_mem_nil) hl (by omega) (by omega)
