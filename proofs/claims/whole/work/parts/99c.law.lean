/-! ===== the law: elements of its script ===== -/
theorem lw_ix {i k : Nat} {L : Nat} (h : i + k < L) (hL : L ≤ 3584) : vp_in (Int32.ofNat i + Int32.ofNat k) L ∧ (Int32.ofNat i + Int32.ofNat k).toNatClampNeg = i + k := by
  have e1 : Int32.ofNat i + Int32.ofNat k = Int32.ofInt ((i : Int) + (k : Int)) := by
    rw [Int32.ofInt_add]
    rfl
  have hr : -2147483648 ≤ (i : Int) + k ∧ (i : Int) + k < 2147483648 := by omega
  rw [e1]
  refine ⟨w32_vin hr (by omega) (by omega), ?_⟩
  rw [w32_clamp hr]
  omega
section LWE
variable {p : Program} {l : Launch} {e : Env} {R : Room} {s : State} {m : MethodId} {args : Array Value} {below : List Frame} {meth : Method} {c : Code} {H : Heap} {locs : List Loc} {cells slots : Nat} {Z : State → Prop} {b L : Nat} {xs : Nat → Int32} {A : Nat → Prop} {ls : Array Slot} {rest : List Value} {pc i : Nat}
/-- one element: aload_0, iload 4, a small number, iadd, iaload -/
theorem lw_el {k q : Nat} (hx : p.tables.exec = Jvm.exec) (hb : c.code = code) (hX : va_X b L xs s s.heap) (hbl : b < s.heap.size) (hbA : ¬ A b) (hS : va_S A s.heap H locs) (h0 : ls[0]? = some (.val (.ref b))) (h4 : ls[4]? = some (.val (.int (Int32.ofNat i)))) (hi : i + k < L) (hL : L ≤ 3584) (d1 : decode code pc = .ok (.aload_n 0, 1)) (d2 : decode code (pc + 1) = .ok (.iload 4, 2)) (d3 : ∀ (rs : List Value), W p l e R s m args below meth c H locs cells slots Z (F0 m q ls (.int (Int32.ofNat k) :: rs)) → W p l e R s m args below meth c H locs cells slots Z (F0 m (pc + 1 + 2) ls rs)) (d4 : decode code q = .ok (.iadd, 1)) (d5 : decode code (q + 1) = .ok (.iaload, 1))
    (kk : W p l e R s m args below meth c H locs cells slots Z (F0 m (q + 1 + 1) ls (.int (xs (i + k)) :: rest))) : W p l e R s m args below meth c H locs cells slots Z (F0 m pc ls rest) := by
  obtain ⟨hv, hc⟩ := lw_ix hi hL
  refine lv_aload_n hx hb d1 rfl h0 ?_
  refine lv_iload hx hb d2 h4 ?_
  refine d3 _ ?_
  refine lv_iadd hx hb d4 ?_
  refine va_sld hx hb hX hbl hbA hS hv d5 ?_
  rw [hc]
  exact kk
theorem lw_el0 (hx : p.tables.exec = Jvm.exec) (hb : c.code = code) {v : Int32} {n : Int} (hd : decode code pc = .ok (.iconst n, 1)) (hv : Int32.ofInt n = v) (rs : List Value) (kk : W p l e R s m args below meth c H locs cells slots Z (F0 m (pc + 1) ls (.int v :: rs))) : W p l e R s m args below meth c H locs cells slots Z (F0 m pc ls rs) := lv_iconst hx hb hd hv kk
theorem lw_el6 (hx : p.tables.exec = Jvm.exec) (hb : c.code = code) {v : Int32} {n : Int} (hd : decode code pc = .ok (.bipush n, 2)) (hv : (Int8.ofInt n).toInt32 = v) (rs : List Value) (kk : W p l e R s m args below meth c H locs cells slots Z (F0 m (pc + 2) ls (.int v :: rs))) : W p l e R s m args below meth c H locs cells slots Z (F0 m pc ls rs) := lv_bipush hx hb hd hv kk
end LWE
