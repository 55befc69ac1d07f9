abbrev mL_node : ms_Y := (yL_node, cL_node, 5, some .int)
theorem kw_833 : Cond.methodLink RL 7 yX11_node ∈ ms_B := ms_memB 833 (by decide +kernel) (by decide +kernel)
theorem kw_836 : Cond.code yX11_node cX11_node 3 (some .int) ∈ ms_B := ms_memB 836 (by decide +kernel) (by decide +kernel)
theorem kw_834 : Cond.instanceMethod yX11_node ∈ ms_B := ms_memB 834 (by decide +kernel) (by decide +kernel)
theorem kw_835 : Cond.selects RX11 yX11_node yX11_node ∈ ms_B := ms_memB 835 (by decide +kernel) (by decide +kernel)
def tL_node (G : ms_G) (Q : ms_Q) (d : Nat) : List (Nat × ms_T) := [(0, (o_ld 3 2)), (1, (o_ci 0)), (2, (o_ld 0 2)), (3, (o_ld 1 0)), (4, (o_ld 2 0)), (5, (o_invV G d mX11_node 11 2 0 0)), (8, (o_un 0 1 (fun a => a))), (9, (o_ast 101 1 (fun x => x))), (10, (o_go G Q mL_node (d + 1) 17)), (13, (o_st 4 2)), (15, (o_ci 1)), (16, (o_ret Q false)), (17, (o_ci 0)), (18, (o_ret Q false))]
set_option maxRecDepth 100000 in
set_option maxHeartbeats 4000000 in
theorem kL_node (G : ms_G) (Q : ms_Q) (d : Nat) : ms_Oc G Q mL_node (d + 1) (tL_node G Q d) :=
  ms_oc1 rfl (s_aload_n rfl dL_node_0) <|
  ms_oc1 rfl (s_iconst dL_node_1 (by decide)) <|
  ms_oc1 rfl (s_aload_n rfl dL_node_2) <|
  ms_oc1 rfl (s_iload_n rfl dL_node_3) <|
  ms_oc1 rfl (s_iload_n rfl dL_node_4) <|
  ms_oc1 rfl (s_invV (r := (RX11, TX11, 17)) rfl rfl kw_833 kw_834 kw_835 kw_76 kw_836 ⟨by decide +kernel, by decide +kernel, by decide +kernel⟩ (by decide) dL_node_5) <|
  ms_oc1 rfl (s_i2l dL_node_8) <|
  ms_oc1 rfl (s_lastore dL_node_9) <|
  ms_oc1 rfl (s_goto (by decide) dL_node_10) <|
  ms_oc1 rfl (s_astore (by decide) dL_node_13) <|
  ms_oc1 rfl (s_iconst dL_node_15 (by decide)) <|
  ms_oc1 rfl (s_iret (b := false) rfl dL_node_16) <|
  ms_oc1 rfl (s_iconst dL_node_17 (by decide)) <|
  ms_oc0 (s_iret (b := false) rfl dL_node_18)
