def tX12_thrown (G : ms_G) (Q : ms_Q) (d : Nat) : List (Nat × ms_T) := [(0, (o_ld 0 2)), (1, (o_get 12 0 0)), (4, (o_ret Q false))]
set_option maxRecDepth 100000 in
set_option maxHeartbeats 4000000 in
theorem kX12_thrown (G : ms_G) (Q : ms_Q) (d : Nat) : ms_Oc G Q mX12_thrown (d + 1) (tX12_thrown G Q d) :=
  ms_oc1 rfl (s_aload_n rfl dX12_thrown_0) <|
  ms_oc1 rfl (s_get (r := (RX12, TX12, 45)) rfl (by decide) rfl rfl kw_922 dX12_thrown_1) <|
  ms_oc0 (s_iret (b := false) rfl dX12_thrown_4)

def tX12_within (G : ms_G) (Q : ms_Q) (d : Nat) : List (Nat × ms_T) := [(0, (o_ld 0 1)), (1, (o_ld 2 1)), (2, o_lcmp), (3, (o_if1 G Q mX12_within (d + 1) (fun x => x < 0) 17)), (6, (o_ld 0 1)), (7, (o_ld 4 1)), (9, o_lcmp), (10, (o_if1 G Q mX12_within (d + 1) (fun x => 0 < x) 17)), (13, (o_ci 1)), (14, (o_go G Q mX12_within (d + 1) 18)), (17, (o_ci 0)), (100000, o_go G Q mX12_within (d + 1) 18), (18, (o_ret Q true))]
set_option maxRecDepth 100000 in
set_option maxHeartbeats 4000000 in
theorem kX12_within (G : ms_G) (Q : ms_Q) (d : Nat) : ms_Oc G Q mX12_within (d + 1) (tX12_within G Q d) :=
  ms_oc1 rfl (s_lload_n rfl dX12_within_0) <|
  ms_oc1 rfl (s_lload_n rfl dX12_within_1) <|
  ms_oc1 rfl (s_lcmp dX12_within_2) <|
  ms_oc1 rfl (s_iflt (by decide) dX12_within_3) <|
  ms_oc1 rfl (s_lload_n rfl dX12_within_6) <|
  ms_oc1 rfl (s_lload dX12_within_7) <|
  ms_oc1 rfl (s_lcmp dX12_within_9) <|
  ms_oc1 rfl (s_ifgt (by decide) dX12_within_10) <|
  ms_oc1 rfl (s_iconst dX12_within_13 (by decide)) <|
  ms_oc1 rfl (s_goto (by decide) dX12_within_14) <|
  ms_occ (s_iconst dX12_within_17 (by decide)) <|
  ms_oc0 (s_iret (b := true) rfl dX12_within_18)

def tX12_copies (G : ms_G) (Q : ms_Q) (d : Nat) : List (Nat × ms_T) := [(0, (o_ci 0)), (1, (o_st 4 0)), (100000, o_go G Q mX12_copies (d + 1) 3), (3, (o_ld 4 0)), (5, (o_ci 127)), (7, (o_if2 G Q mX12_copies (d + 1) (fun a b => b ≤ a) 28)), (10, (o_ld 2 2)), (11, (o_ld 3 0)), (12, (o_ld 4 0)), (14, (o_bin (fun a b => w32 (a + b)))), (15, (o_ld 0 2)), (16, (o_ld 1 0)), (17, (o_ld 4 0)), (19, (o_bin (fun a b => w32 (a + b)))), (20, (o_ald 100 0)), (21, (o_ast 100 0 (fun x => x))), (22, (o_inc 4 1)), (25, (o_go G Q mX12_copies (d + 1) 3)), (28, (o_vret Q))]
set_option maxRecDepth 100000 in
set_option maxHeartbeats 4000000 in
theorem kX12_copies (G : ms_G) (Q : ms_Q) (d : Nat) : ms_Oc G Q mX12_copies (d + 1) (tX12_copies G Q d) :=
  ms_oc1 rfl (s_iconst dX12_copies_0 (by decide)) <|
  ms_occ (s_istore (by decide) dX12_copies_1) <|
  ms_oc1 rfl (s_iload dX12_copies_3) <|
  ms_oc1 rfl (s_bipush dX12_copies_5 (by decide) (by decide)) <|
  ms_oc1 rfl (s_icmpge (by decide) dX12_copies_7) <|
  ms_oc1 rfl (s_aload_n rfl dX12_copies_10) <|
  ms_oc1 rfl (s_iload_n rfl dX12_copies_11) <|
  ms_oc1 rfl (s_iload dX12_copies_12) <|
  ms_oc1 rfl (s_iadd dX12_copies_14) <|
  ms_oc1 rfl (s_aload_n rfl dX12_copies_15) <|
  ms_oc1 rfl (s_iload_n rfl dX12_copies_16) <|
  ms_oc1 rfl (s_iload dX12_copies_17) <|
  ms_oc1 rfl (s_iadd dX12_copies_19) <|
  ms_oc1 rfl (s_iaload dX12_copies_20) <|
  ms_oc1 rfl (s_iastore dX12_copies_21) <|
  ms_oc1 rfl (s_iinc (by decide) dX12_copies_22) <|
  ms_oc1 rfl (s_goto (by decide) dX12_copies_25) <|
  ms_oc0 (s_vret rfl dX12_copies_28)

def tX12_keeps (G : ms_G) (Q : ms_Q) (d : Nat) : List (Nat × ms_T) := [(0, (o_ld 0 2)), (1, (o_get 12 4 0)), (4, (o_ci 12)), (6, (o_if2 G Q mX12_keeps (d + 1) (fun a b => ¬ a = b) 49)), (9, (o_ci 0)), (10, (o_st 1 0)), (100000, o_go G Q mX12_keeps (d + 1) 11), (11, (o_ld 1 0)), (12, (o_ci 1397)), (15, (o_if2 G Q mX12_keeps (d + 1) (fun a b => b ≤ a) 39)), (18, (o_ld 0 2)), (19, (o_get 12 3 2)), (22, (o_ld 1 0)), (23, (o_ld 0 2)), (24, (o_get 12 3 2)), (27, (o_ld 1 0)), (28, (o_ci 127)), (30, (o_bin (fun a b => w32 (a + b)))), (31, (o_ald 100 0)), (32, (o_ast 100 0 (fun x => x))), (33, (o_inc 1 1)), (36, (o_go G Q mX12_keeps (d + 1) 11)), (39, (o_ld 0 2)), (40, o_dup), (41, (o_get 12 4 0)), (44, (o_ci 1)), (45, (o_bin (fun a b => w32 (a - b)))), (46, (o_put 12 4 0)), (100000, o_go G Q mX12_keeps (d + 1) 49), (49, (o_ld 0 2)), (50, (o_get 12 1 2)), (53, (o_ci 0)), (54, (o_ld 0 2)), (55, (o_get 12 3 2)), (58, (o_ci 127)), (60, (o_ld 0 2)), (61, (o_get 12 4 0)), (64, (o_bin (fun a b => w32 (a * b)))), (65, (o_invS G d mX12_copies 4 0 0)), (68, (o_ld 0 2)), (69, o_dup), (70, (o_get 12 4 0)), (73, (o_ci 1)), (74, (o_bin (fun a b => w32 (a + b)))), (75, (o_put 12 4 0)), (78, (o_vret Q))]
set_option maxRecDepth 100000 in
set_option maxHeartbeats 4000000 in
theorem kX12_keeps (G : ms_G) (Q : ms_Q) (d : Nat) : ms_Oc G Q mX12_keeps (d + 1) (tX12_keeps G Q d) :=
  ms_oc1 rfl (s_aload_n rfl dX12_keeps_0) <|
  ms_oc1 rfl (s_get (r := (RX12, TX12, 45)) rfl (by decide) rfl rfl kw_926 dX12_keeps_1) <|
  ms_oc1 rfl (s_bipush dX12_keeps_4 (by decide) (by decide)) <|
  ms_oc1 rfl (s_icmpne (by decide) dX12_keeps_6) <|
  ms_oc1 rfl (s_iconst dX12_keeps_9 (by decide)) <|
  ms_occ (s_istore_n rfl (by decide) dX12_keeps_10) <|
  ms_oc1 rfl (s_iload_n rfl dX12_keeps_11) <|
  ms_oc1 rfl (s_sipush dX12_keeps_12 (by decide) (by decide)) <|
  ms_oc1 rfl (s_icmpge (by decide) dX12_keeps_15) <|
  ms_oc1 rfl (s_aload_n rfl dX12_keeps_18) <|
  ms_oc1 rfl (s_get (r := (RX12, TX12, 45)) rfl (by decide) rfl rfl kw_925 dX12_keeps_19) <|
  ms_oc1 rfl (s_iload_n rfl dX12_keeps_22) <|
  ms_oc1 rfl (s_aload_n rfl dX12_keeps_23) <|
  ms_oc1 rfl (s_get (r := (RX12, TX12, 45)) rfl (by decide) rfl rfl kw_925 dX12_keeps_24) <|
  ms_oc1 rfl (s_iload_n rfl dX12_keeps_27) <|
  ms_oc1 rfl (s_bipush dX12_keeps_28 (by decide) (by decide)) <|
  ms_oc1 rfl (s_iadd dX12_keeps_30) <|
  ms_oc1 rfl (s_iaload dX12_keeps_31) <|
  ms_oc1 rfl (s_iastore dX12_keeps_32) <|
  ms_oc1 rfl (s_iinc (by decide) dX12_keeps_33) <|
  ms_oc1 rfl (s_goto (by decide) dX12_keeps_36) <|
  ms_oc1 rfl (s_aload_n rfl dX12_keeps_39) <|
  ms_oc1 rfl (s_dup dX12_keeps_40) <|
  ms_oc1 rfl (s_get (r := (RX12, TX12, 45)) rfl (by decide) rfl rfl kw_926 dX12_keeps_41) <|
  ms_oc1 rfl (s_iconst dX12_keeps_44 (by decide)) <|
  ms_oc1 rfl (s_isub dX12_keeps_45) <|
  ms_occ (s_put (r := (RX12, TX12, 45)) rfl (by decide) rfl rfl (ms_nar0 rfl) (Or.inl rfl) kw_926 dX12_keeps_46) <|
  ms_oc1 rfl (s_aload_n rfl dX12_keeps_49) <|
  ms_oc1 rfl (s_get (r := (RX12, TX12, 45)) rfl (by decide) rfl rfl kw_923 dX12_keeps_50) <|
  ms_oc1 rfl (s_iconst dX12_keeps_53 (by decide)) <|
  ms_oc1 rfl (s_aload_n rfl dX12_keeps_54) <|
  ms_oc1 rfl (s_get (r := (RX12, TX12, 45)) rfl (by decide) rfl rfl kw_925 dX12_keeps_55) <|
  ms_oc1 rfl (s_bipush dX12_keeps_58 (by decide) (by decide)) <|
  ms_oc1 rfl (s_aload_n rfl dX12_keeps_60) <|
  ms_oc1 rfl (s_get (r := (RX12, TX12, 45)) rfl (by decide) rfl rfl kw_926 dX12_keeps_61) <|
  ms_oc1 rfl (s_imul dX12_keeps_64) <|
  ms_oc1 rfl (s_invS kw_1165 kw_1166 kw_88 kw_1167 ⟨by decide +kernel, by decide +kernel, by decide +kernel⟩ (by decide) dX12_keeps_65) <|
  ms_oc1 rfl (s_aload_n rfl dX12_keeps_68) <|
  ms_oc1 rfl (s_dup dX12_keeps_69) <|
  ms_oc1 rfl (s_get (r := (RX12, TX12, 45)) rfl (by decide) rfl rfl kw_926 dX12_keeps_70) <|
  ms_oc1 rfl (s_iconst dX12_keeps_73 (by decide)) <|
  ms_oc1 rfl (s_iadd dX12_keeps_74) <|
  ms_oc1 rfl (s_put (r := (RX12, TX12, 45)) rfl (by decide) rfl rfl (ms_nar0 rfl) (Or.inl rfl) kw_926 dX12_keeps_75) <|
  ms_oc0 (s_vret rfl dX12_keeps_78)

def tX12_becomes (G : ms_G) (Q : ms_Q) (d : Nat) : List (Nat × ms_T) := [(0, (o_ld 0 2)), (1, (o_invV G d mX12_keeps 12 0 0 0)), (4, (o_ld 0 2)), (5, (o_get 12 2 2)), (8, (o_ci 0)), (9, (o_ld 0 2)), (10, (o_get 12 1 2)), (13, (o_ci 0)), (14, (o_invS G d mX12_copies 4 0 0)), (17, (o_ld 0 2)), (18, (o_get 12 1 2)), (21, (o_ci 1)), (22, (o_ald 100 0)), (23, (o_ret Q false))]
set_option maxRecDepth 100000 in
set_option maxHeartbeats 4000000 in
theorem kX12_becomes (G : ms_G) (Q : ms_Q) (d : Nat) : ms_Oc G Q mX12_becomes (d + 1) (tX12_becomes G Q d) :=
  ms_oc1 rfl (s_aload_n rfl dX12_becomes_0) <|
  ms_oc1 rfl (s_invV (r := (RX12, TX12, 45)) rfl rfl kw_1161 kw_1163 kw_55 kw_88 kw_1164 ⟨by decide +kernel, by decide +kernel, by decide +kernel⟩ (by decide) dX12_becomes_1) <|
  ms_oc1 rfl (s_aload_n rfl dX12_becomes_4) <|
  ms_oc1 rfl (s_get (r := (RX12, TX12, 45)) rfl (by decide) rfl rfl kw_924 dX12_becomes_5) <|
  ms_oc1 rfl (s_iconst dX12_becomes_8 (by decide)) <|
  ms_oc1 rfl (s_aload_n rfl dX12_becomes_9) <|
  ms_oc1 rfl (s_get (r := (RX12, TX12, 45)) rfl (by decide) rfl rfl kw_923 dX12_becomes_10) <|
  ms_oc1 rfl (s_iconst dX12_becomes_13 (by decide)) <|
  ms_oc1 rfl (s_invS kw_1165 kw_1166 kw_88 kw_1167 ⟨by decide +kernel, by decide +kernel, by decide +kernel⟩ (by decide) dX12_becomes_14) <|
  ms_oc1 rfl (s_aload_n rfl dX12_becomes_17) <|
  ms_oc1 rfl (s_get (r := (RX12, TX12, 45)) rfl (by decide) rfl rfl kw_923 dX12_becomes_18) <|
  ms_oc1 rfl (s_iconst dX12_becomes_21 (by decide)) <|
  ms_oc1 rfl (s_iaload dX12_becomes_22) <|
  ms_oc0 (s_iret (b := false) rfl dX12_becomes_23)

def tX12_nodes (G : ms_G) (Q : ms_Q) (d : Nat) : List (Nat × ms_T) := [(0, (o_ld 0 2)), (1, (o_ci 0)), (2, (o_ald 100 0)), (3, (o_ld 0 2)), (4, (o_ci 1)), (5, (o_ald 100 0)), (6, (o_bin (fun a b => w32 (a + b)))), (7, (o_ret Q false))]
set_option maxRecDepth 100000 in
set_option maxHeartbeats 4000000 in
theorem kX12_nodes (G : ms_G) (Q : ms_Q) (d : Nat) : ms_Oc G Q mX12_nodes (d + 1) (tX12_nodes G Q d) :=
  ms_oc1 rfl (s_aload_n rfl dX12_nodes_0) <|
  ms_oc1 rfl (s_iconst dX12_nodes_1 (by decide)) <|
  ms_oc1 rfl (s_iaload dX12_nodes_2) <|
  ms_oc1 rfl (s_aload_n rfl dX12_nodes_3) <|
  ms_oc1 rfl (s_iconst dX12_nodes_4 (by decide)) <|
  ms_oc1 rfl (s_iaload dX12_nodes_5) <|
  ms_oc1 rfl (s_iadd dX12_nodes_6) <|
  ms_oc0 (s_iret (b := false) rfl dX12_nodes_7)

def tX12_leftOf (G : ms_G) (Q : ms_Q) (d : Nat) : List (Nat × ms_T) := [(0, (o_ld 1 0)), (1, (o_ld 0 2)), (2, (o_ci 0)), (3, (o_ald 100 0)), (4, (o_if2 G Q mX12_leftOf (d + 1) (fun a b => b ≤ a) 11)), (7, (o_ci (-1))), (8, (o_go G Q mX12_leftOf (d + 1) 20)), (11, (o_ld 0 2)), (12, (o_ci 3)), (13, (o_ld 1 0)), (14, (o_bin (fun a b => w32 (a + b)))), (15, (o_ld 0 2)), (16, (o_ci 0)), (17, (o_ald 100 0)), (18, (o_bin (fun a b => w32 (a - b)))), (19, (o_ald 100 0)), (100000, o_go G Q mX12_leftOf (d + 1) 20), (20, (o_ret Q false))]
set_option maxRecDepth 100000 in
set_option maxHeartbeats 4000000 in
theorem kX12_leftOf (G : ms_G) (Q : ms_Q) (d : Nat) : ms_Oc G Q mX12_leftOf (d + 1) (tX12_leftOf G Q d) :=
  ms_oc1 rfl (s_iload_n rfl dX12_leftOf_0) <|
  ms_oc1 rfl (s_aload_n rfl dX12_leftOf_1) <|
  ms_oc1 rfl (s_iconst dX12_leftOf_2 (by decide)) <|
  ms_oc1 rfl (s_iaload dX12_leftOf_3) <|
  ms_oc1 rfl (s_icmpge (by decide) dX12_leftOf_4) <|
  ms_oc1 rfl (s_iconst dX12_leftOf_7 (by decide)) <|
  ms_oc1 rfl (s_goto (by decide) dX12_leftOf_8) <|
  ms_oc1 rfl (s_aload_n rfl dX12_leftOf_11) <|
  ms_oc1 rfl (s_iconst dX12_leftOf_12 (by decide)) <|
  ms_oc1 rfl (s_iload_n rfl dX12_leftOf_13) <|
  ms_oc1 rfl (s_iadd dX12_leftOf_14) <|
  ms_oc1 rfl (s_aload_n rfl dX12_leftOf_15) <|
  ms_oc1 rfl (s_iconst dX12_leftOf_16 (by decide)) <|
  ms_oc1 rfl (s_iaload dX12_leftOf_17) <|
  ms_oc1 rfl (s_isub dX12_leftOf_18) <|
  ms_occ (s_iaload dX12_leftOf_19) <|
  ms_oc0 (s_iret (b := false) rfl dX12_leftOf_20)

def tX12_rightOf (G : ms_G) (Q : ms_Q) (d : Nat) : List (Nat × ms_T) := [(0, (o_ld 1 0)), (1, (o_ld 0 2)), (2, (o_ci 0)), (3, (o_ald 100 0)), (4, (o_if2 G Q mX12_rightOf (d + 1) (fun a b => b ≤ a) 11)), (7, (o_ci (-1))), (8, (o_go G Q mX12_rightOf (d + 1) 21)), (11, (o_ld 0 2)), (12, (o_ci 63)), (14, (o_ld 1 0)), (15, (o_bin (fun a b => w32 (a + b)))), (16, (o_ld 0 2)), (17, (o_ci 0)), (18, (o_ald 100 0)), (19, (o_bin (fun a b => w32 (a - b)))), (20, (o_ald 100 0)), (100000, o_go G Q mX12_rightOf (d + 1) 21), (21, (o_ret Q false))]
set_option maxRecDepth 100000 in
set_option maxHeartbeats 4000000 in
theorem kX12_rightOf (G : ms_G) (Q : ms_Q) (d : Nat) : ms_Oc G Q mX12_rightOf (d + 1) (tX12_rightOf G Q d) :=
  ms_oc1 rfl (s_iload_n rfl dX12_rightOf_0) <|
  ms_oc1 rfl (s_aload_n rfl dX12_rightOf_1) <|
  ms_oc1 rfl (s_iconst dX12_rightOf_2 (by decide)) <|
  ms_oc1 rfl (s_iaload dX12_rightOf_3) <|
  ms_oc1 rfl (s_icmpge (by decide) dX12_rightOf_4) <|
  ms_oc1 rfl (s_iconst dX12_rightOf_7 (by decide)) <|
  ms_oc1 rfl (s_goto (by decide) dX12_rightOf_8) <|
  ms_oc1 rfl (s_aload_n rfl dX12_rightOf_11) <|
  ms_oc1 rfl (s_bipush dX12_rightOf_12 (by decide) (by decide)) <|
  ms_oc1 rfl (s_iload_n rfl dX12_rightOf_14) <|
  ms_oc1 rfl (s_iadd dX12_rightOf_15) <|
  ms_oc1 rfl (s_aload_n rfl dX12_rightOf_16) <|
  ms_oc1 rfl (s_iconst dX12_rightOf_17 (by decide)) <|
  ms_oc1 rfl (s_iaload dX12_rightOf_18) <|
  ms_oc1 rfl (s_isub dX12_rightOf_19) <|
  ms_occ (s_iaload dX12_rightOf_20) <|
  ms_oc0 (s_iret (b := false) rfl dX12_rightOf_21)

def tX12_puts (G : ms_G) (Q : ms_Q) (d : Nat) : List (Nat × ms_T) := [(0, (o_ld 0 2)), (1, (o_ci 3)), (2, (o_ld 0 2)), (3, (o_ci 1)), (4, (o_ald 100 0)), (5, (o_bin (fun a b => w32 (a + b)))), (6, (o_ld 1 0)), (7, (o_ast 100 0 (fun x => x))), (8, (o_ld 0 2)), (9, (o_ci 63)), (11, (o_ld 0 2)), (12, (o_ci 1)), (13, (o_ald 100 0)), (14, (o_bin (fun a b => w32 (a + b)))), (15, (o_ld 2 0)), (16, (o_ast 100 0 (fun x => x))), (17, (o_ld 0 2)), (18, (o_ci 1)), (19, o_dup2), (20, (o_ald 100 0)), (21, (o_ci 1)), (22, (o_bin (fun a b => w32 (a + b)))), (23, (o_ast 100 0 (fun x => x))), (24, (o_ld 0 2)), (25, (o_invS G d mX12_nodes 1 0 0)), (28, (o_ci 1)), (29, (o_bin (fun a b => w32 (a - b)))), (30, (o_ret Q false))]
set_option maxRecDepth 100000 in
set_option maxHeartbeats 4000000 in
theorem kX12_puts (G : ms_G) (Q : ms_Q) (d : Nat) : ms_Oc G Q mX12_puts (d + 1) (tX12_puts G Q d) :=
  ms_oc1 rfl (s_aload_n rfl dX12_puts_0) <|
  ms_oc1 rfl (s_iconst dX12_puts_1 (by decide)) <|
  ms_oc1 rfl (s_aload_n rfl dX12_puts_2) <|
  ms_oc1 rfl (s_iconst dX12_puts_3 (by decide)) <|
  ms_oc1 rfl (s_iaload dX12_puts_4) <|
  ms_oc1 rfl (s_iadd dX12_puts_5) <|
  ms_oc1 rfl (s_iload_n rfl dX12_puts_6) <|
  ms_oc1 rfl (s_iastore dX12_puts_7) <|
  ms_oc1 rfl (s_aload_n rfl dX12_puts_8) <|
  ms_oc1 rfl (s_bipush dX12_puts_9 (by decide) (by decide)) <|
  ms_oc1 rfl (s_aload_n rfl dX12_puts_11) <|
  ms_oc1 rfl (s_iconst dX12_puts_12 (by decide)) <|
  ms_oc1 rfl (s_iaload dX12_puts_13) <|
  ms_oc1 rfl (s_iadd dX12_puts_14) <|
  ms_oc1 rfl (s_iload_n rfl dX12_puts_15) <|
  ms_oc1 rfl (s_iastore dX12_puts_16) <|
  ms_oc1 rfl (s_aload_n rfl dX12_puts_17) <|
  ms_oc1 rfl (s_iconst dX12_puts_18 (by decide)) <|
  ms_oc1 rfl (s_dup2 dX12_puts_19) <|
  ms_oc1 rfl (s_iaload dX12_puts_20) <|
  ms_oc1 rfl (s_iconst dX12_puts_21 (by decide)) <|
  ms_oc1 rfl (s_iadd dX12_puts_22) <|
  ms_oc1 rfl (s_iastore dX12_puts_23) <|
  ms_oc1 rfl (s_aload_n rfl dX12_puts_24) <|
  ms_oc1 rfl (s_invS kw_1122 kw_1123 kw_88 kw_1124 ⟨by decide +kernel, by decide +kernel, by decide +kernel⟩ (by decide) dX12_puts_25) <|
  ms_oc1 rfl (s_iconst dX12_puts_28 (by decide)) <|
  ms_oc1 rfl (s_isub dX12_puts_29) <|
  ms_oc0 (s_iret (b := false) rfl dX12_puts_30)

def tX12_clears (G : ms_G) (Q : ms_Q) (d : Nat) : List (Nat × ms_T) := [(0, (o_ci 0)), (1, (o_st 1 0)), (100000, o_go G Q mX12_clears (d + 1) 2), (2, (o_ld 1 0)), (3, (o_ci 127)), (5, (o_if2 G Q mX12_clears (d + 1) (fun a b => b ≤ a) 18)), (8, (o_ld 0 2)), (9, (o_ld 1 0)), (10, (o_ci 0)), (11, (o_ast 100 0 (fun x => x))), (12, (o_inc 1 1)), (15, (o_go G Q mX12_clears (d + 1) 2)), (18, (o_vret Q))]
set_option maxRecDepth 100000 in
set_option maxHeartbeats 4000000 in
theorem kX12_clears (G : ms_G) (Q : ms_Q) (d : Nat) : ms_Oc G Q mX12_clears (d + 1) (tX12_clears G Q d) :=
  ms_oc1 rfl (s_iconst dX12_clears_0 (by decide)) <|
  ms_occ (s_istore_n rfl (by decide) dX12_clears_1) <|
  ms_oc1 rfl (s_iload_n rfl dX12_clears_2) <|
  ms_oc1 rfl (s_bipush dX12_clears_3 (by decide) (by decide)) <|
  ms_oc1 rfl (s_icmpge (by decide) dX12_clears_5) <|
  ms_oc1 rfl (s_aload_n rfl dX12_clears_8) <|
  ms_oc1 rfl (s_iload_n rfl dX12_clears_9) <|
  ms_oc1 rfl (s_iconst dX12_clears_10 (by decide)) <|
  ms_oc1 rfl (s_iastore dX12_clears_11) <|
  ms_oc1 rfl (s_iinc (by decide) dX12_clears_12) <|
  ms_oc1 rfl (s_goto (by decide) dX12_clears_15) <|
  ms_oc0 (s_vret rfl dX12_clears_18)

def tX12_powersOf (G : ms_G) (Q : ms_Q) (d : Nat) : List (Nat × ms_T) := [(0, (o_ci 0)), (1, (o_st 2 0)), (100000, o_go G Q mX12_powersOf (d + 1) 2), (2, (o_ld 2 0)), (3, (o_ld 1 2)), (4, (o_invS G d mX12_nodes 1 0 0)), (7, (o_if2 G Q mX12_powersOf (d + 1) (fun a b => b ≤ a) 90)), (10, (o_ci 0)), (11, (o_st 3 0)), (100000, o_go G Q mX12_powersOf (d + 1) 12), (12, (o_ld 3 0)), (13, (o_ld 1 2)), (14, (o_ci 0)), (15, (o_ald 100 0)), (16, (o_if2 G Q mX12_powersOf (d + 1) (fun a b => b ≤ a) 84)), (19, (o_ld 0 2)), (20, (o_get 12 7 2)), (23, (o_ci 4)), (24, (o_ld 2 0)), (25, (o_bin (fun a b => w32 (a * b)))), (26, (o_ld 3 0)), (27, (o_bin (fun a b => w32 (a + b)))), (28, (o_ld 2 0)), (29, (o_ld 1 2)), (30, (o_ci 0)), (31, (o_ald 100 0)), (32, (o_if2 G Q mX12_powersOf (d + 1) (fun a b => b ≤ a) 48)), (35, (o_ld 2 0)), (36, (o_ld 3 0)), (37, (o_if2 G Q mX12_powersOf (d + 1) (fun a b => ¬ a = b) 44)), (40, (o_cl 1)), (41, (o_go G Q mX12_powersOf (d + 1) 77)), (44, (o_cl 0)), (45, (o_go G Q mX12_powersOf (d + 1) 77)), (48, (o_ld 0 2)), (49, (o_get 12 7 2)), (52, (o_ci 4)), (53, (o_ld 1 2)), (54, (o_ld 2 0)), (55, (o_invS G d mX12_leftOf 2 0 0)), (58, (o_bin (fun a b => w32 (a * b)))), (59, (o_ld 3 0)), (60, (o_bin (fun a b => w32 (a + b)))), (61, (o_ald 101 1)), (62, (o_ld 0 2)), (63, (o_get 12 7 2)), (66, (o_ci 4)), (67, (o_ld 1 2)), (68, (o_ld 2 0)), (69, (o_invS G d mX12_rightOf 2 0 0)), (72, (o_bin (fun a b => w32 (a * b)))), (73, (o_ld 3 0)), (74, (o_bin (fun a b => w32 (a + b)))), (75, (o_ald 101 1)), (76, (o_lbin (fun a b => w64 (a + b)))), (100000, o_go G Q mX12_powersOf (d + 1) 77), (77, (o_ast 101 1 (fun x => x))), (78, (o_inc 3 1)), (81, (o_go G Q mX12_powersOf (d + 1) 12)), (84, (o_inc 2 1)), (87, (o_go G Q mX12_powersOf (d + 1) 2)), (90, (o_vret Q))]
set_option maxRecDepth 100000 in
set_option maxHeartbeats 4000000 in
theorem kX12_powersOf (G : ms_G) (Q : ms_Q) (d : Nat) : ms_Oc G Q mX12_powersOf (d + 1) (tX12_powersOf G Q d) :=
  ms_oc1 rfl (s_iconst dX12_powersOf_0 (by decide)) <|
  ms_occ (s_istore_n rfl (by decide) dX12_powersOf_1) <|
  ms_oc1 rfl (s_iload_n rfl dX12_powersOf_2) <|
  ms_oc1 rfl (s_aload_n rfl dX12_powersOf_3) <|
  ms_oc1 rfl (s_invS kw_1122 kw_1123 kw_88 kw_1124 ⟨by decide +kernel, by decide +kernel, by decide +kernel⟩ (by decide) dX12_powersOf_4) <|
  ms_oc1 rfl (s_icmpge (by decide) dX12_powersOf_7) <|
  ms_oc1 rfl (s_iconst dX12_powersOf_10 (by decide)) <|
  ms_occ (s_istore_n rfl (by decide) dX12_powersOf_11) <|
  ms_oc1 rfl (s_iload_n rfl dX12_powersOf_12) <|
  ms_oc1 rfl (s_aload_n rfl dX12_powersOf_13) <|
  ms_oc1 rfl (s_iconst dX12_powersOf_14 (by decide)) <|
  ms_oc1 rfl (s_iaload dX12_powersOf_15) <|
  ms_oc1 rfl (s_icmpge (by decide) dX12_powersOf_16) <|
  ms_oc1 rfl (s_aload_n rfl dX12_powersOf_19) <|
  ms_oc1 rfl (s_get (r := (RX12, TX12, 45)) rfl (by decide) rfl rfl kw_929 dX12_powersOf_20) <|
  ms_oc1 rfl (s_iconst dX12_powersOf_23 (by decide)) <|
  ms_oc1 rfl (s_iload_n rfl dX12_powersOf_24) <|
  ms_oc1 rfl (s_imul dX12_powersOf_25) <|
  ms_oc1 rfl (s_iload_n rfl dX12_powersOf_26) <|
  ms_oc1 rfl (s_iadd dX12_powersOf_27) <|
  ms_oc1 rfl (s_iload_n rfl dX12_powersOf_28) <|
  ms_oc1 rfl (s_aload_n rfl dX12_powersOf_29) <|
  ms_oc1 rfl (s_iconst dX12_powersOf_30 (by decide)) <|
  ms_oc1 rfl (s_iaload dX12_powersOf_31) <|
  ms_oc1 rfl (s_icmpge (by decide) dX12_powersOf_32) <|
  ms_oc1 rfl (s_iload_n rfl dX12_powersOf_35) <|
  ms_oc1 rfl (s_iload_n rfl dX12_powersOf_36) <|
  ms_oc1 rfl (s_icmpne (by decide) dX12_powersOf_37) <|
  ms_oc1 rfl (s_lconst dX12_powersOf_40 (by decide) (by decide)) <|
  ms_oc1 rfl (s_goto (by decide) dX12_powersOf_41) <|
  ms_oc1 rfl (s_lconst dX12_powersOf_44 (by decide) (by decide)) <|
  ms_oc1 rfl (s_goto (by decide) dX12_powersOf_45) <|
  ms_oc1 rfl (s_aload_n rfl dX12_powersOf_48) <|
  ms_oc1 rfl (s_get (r := (RX12, TX12, 45)) rfl (by decide) rfl rfl kw_929 dX12_powersOf_49) <|
  ms_oc1 rfl (s_iconst dX12_powersOf_52 (by decide)) <|
  ms_oc1 rfl (s_aload_n rfl dX12_powersOf_53) <|
  ms_oc1 rfl (s_iload_n rfl dX12_powersOf_54) <|
  ms_oc1 rfl (s_invS kw_1146 kw_1147 kw_88 kw_1148 ⟨by decide +kernel, by decide +kernel, by decide +kernel⟩ (by decide) dX12_powersOf_55) <|
  ms_oc1 rfl (s_imul dX12_powersOf_58) <|
  ms_oc1 rfl (s_iload_n rfl dX12_powersOf_59) <|
  ms_oc1 rfl (s_iadd dX12_powersOf_60) <|
  ms_oc1 rfl (s_laload dX12_powersOf_61) <|
  ms_oc1 rfl (s_aload_n rfl dX12_powersOf_62) <|
  ms_oc1 rfl (s_get (r := (RX12, TX12, 45)) rfl (by decide) rfl rfl kw_929 dX12_powersOf_63) <|
  ms_oc1 rfl (s_iconst dX12_powersOf_66 (by decide)) <|
  ms_oc1 rfl (s_aload_n rfl dX12_powersOf_67) <|
  ms_oc1 rfl (s_iload_n rfl dX12_powersOf_68) <|
  ms_oc1 rfl (s_invS kw_1149 kw_1150 kw_88 kw_1151 ⟨by decide +kernel, by decide +kernel, by decide +kernel⟩ (by decide) dX12_powersOf_69) <|
  ms_oc1 rfl (s_imul dX12_powersOf_72) <|
  ms_oc1 rfl (s_iload_n rfl dX12_powersOf_73) <|
  ms_oc1 rfl (s_iadd dX12_powersOf_74) <|
  ms_oc1 rfl (s_laload dX12_powersOf_75) <|
  ms_occ (s_ladd dX12_powersOf_76) <|
  ms_oc1 rfl (s_lastore dX12_powersOf_77) <|
  ms_oc1 rfl (s_iinc (by decide) dX12_powersOf_78) <|
  ms_oc1 rfl (s_goto (by decide) dX12_powersOf_81) <|
  ms_oc1 rfl (s_iinc (by decide) dX12_powersOf_84) <|
  ms_oc1 rfl (s_goto (by decide) dX12_powersOf_87) <|
  ms_oc0 (s_vret rfl dX12_powersOf_90)

def tX12_areHuge (G : ms_G) (Q : ms_Q) (d : Nat) : List (Nat × ms_T) := [(0, (o_ld 0 2)), (1, (o_ld 1 2)), (2, (o_invV G d mX12_powersOf 12 1 0 0)), (5, (o_ci 0)), (6, (o_st 2 0)), (100000, o_go G Q mX12_areHuge (d + 1) 7), (7, (o_ld 2 0)), (8, (o_ld 1 2)), (9, (o_invS G d mX12_nodes 1 0 0)), (12, (o_if2 G Q mX12_areHuge (d + 1) (fun a b => b ≤ a) 55)), (15, (o_ci 0)), (16, (o_st 3 0)), (100000, o_go G Q mX12_areHuge (d + 1) 17), (17, (o_ld 3 0)), (18, (o_ld 1 2)), (19, (o_ci 0)), (20, (o_ald 100 0)), (21, (o_if2 G Q mX12_areHuge (d + 1) (fun a b => b ≤ a) 49)), (24, (o_ld 0 2)), (25, (o_get 12 7 2)), (28, (o_ci 4)), (29, (o_ld 2 0)), (30, (o_bin (fun a b => w32 (a * b)))), (31, (o_ld 3 0)), (32, (o_bin (fun a b => w32 (a + b)))), (33, (o_ald 101 1)), (34, (o_cl (1000000000000000))), (37, o_lcmp), (38, (o_if1 G Q mX12_areHuge (d + 1) (fun x => x ≤ 0) 43)), (41, (o_ci 1)), (42, (o_ret Q true)), (43, (o_inc 3 1)), (46, (o_go G Q mX12_areHuge (d + 1) 17)), (49, (o_inc 2 1)), (52, (o_go G Q mX12_areHuge (d + 1) 7)), (55, (o_ci 0)), (56, (o_ret Q true))]
set_option maxRecDepth 100000 in
set_option maxHeartbeats 4000000 in
theorem kX12_areHuge (G : ms_G) (Q : ms_Q) (d : Nat) : ms_Oc G Q mX12_areHuge (d + 1) (tX12_areHuge G Q d) :=
  ms_oc1 rfl (s_aload_n rfl dX12_areHuge_0) <|
  ms_oc1 rfl (s_aload_n rfl dX12_areHuge_1) <|
  ms_oc1 rfl (s_invV (r := (RX12, TX12, 45)) rfl rfl kw_1142 kw_1144 kw_52 kw_88 kw_1145 ⟨by decide +kernel, by decide +kernel, by decide +kernel⟩ (by decide) dX12_areHuge_2) <|
  ms_oc1 rfl (s_iconst dX12_areHuge_5 (by decide)) <|
  ms_occ (s_istore_n rfl (by decide) dX12_areHuge_6) <|
  ms_oc1 rfl (s_iload_n rfl dX12_areHuge_7) <|
  ms_oc1 rfl (s_aload_n rfl dX12_areHuge_8) <|
  ms_oc1 rfl (s_invS kw_1122 kw_1123 kw_88 kw_1124 ⟨by decide +kernel, by decide +kernel, by decide +kernel⟩ (by decide) dX12_areHuge_9) <|
  ms_oc1 rfl (s_icmpge (by decide) dX12_areHuge_12) <|
  ms_oc1 rfl (s_iconst dX12_areHuge_15 (by decide)) <|
  ms_occ (s_istore_n rfl (by decide) dX12_areHuge_16) <|
  ms_oc1 rfl (s_iload_n rfl dX12_areHuge_17) <|
  ms_oc1 rfl (s_aload_n rfl dX12_areHuge_18) <|
  ms_oc1 rfl (s_iconst dX12_areHuge_19 (by decide)) <|
  ms_oc1 rfl (s_iaload dX12_areHuge_20) <|
  ms_oc1 rfl (s_icmpge (by decide) dX12_areHuge_21) <|
  ms_oc1 rfl (s_aload_n rfl dX12_areHuge_24) <|
  ms_oc1 rfl (s_get (r := (RX12, TX12, 45)) rfl (by decide) rfl rfl kw_929 dX12_areHuge_25) <|
  ms_oc1 rfl (s_iconst dX12_areHuge_28 (by decide)) <|
  ms_oc1 rfl (s_iload_n rfl dX12_areHuge_29) <|
  ms_oc1 rfl (s_imul dX12_areHuge_30) <|
  ms_oc1 rfl (s_iload_n rfl dX12_areHuge_31) <|
  ms_oc1 rfl (s_iadd dX12_areHuge_32) <|
  ms_oc1 rfl (s_laload dX12_areHuge_33) <|
  ms_oc1 rfl (s_ldc2 dX12_areHuge_34 kw_1152 (by decide) (by decide)) <|
  ms_oc1 rfl (s_lcmp dX12_areHuge_37) <|
  ms_oc1 rfl (s_ifle (by decide) dX12_areHuge_38) <|
  ms_oc1 rfl (s_iconst dX12_areHuge_41 (by decide)) <|
  ms_oc1 rfl (s_iret (b := true) rfl dX12_areHuge_42) <|
  ms_oc1 rfl (s_iinc (by decide) dX12_areHuge_43) <|
  ms_oc1 rfl (s_goto (by decide) dX12_areHuge_46) <|
  ms_oc1 rfl (s_iinc (by decide) dX12_areHuge_49) <|
  ms_oc1 rfl (s_goto (by decide) dX12_areHuge_52) <|
  ms_oc1 rfl (s_iconst dX12_areHuge_55 (by decide)) <|
  ms_oc0 (s_iret (b := true) rfl dX12_areHuge_56)

def tX12_areAlike (G : ms_G) (Q : ms_Q) (d : Nat) : List (Nat × ms_T) := [(0, (o_ci 0)), (1, (o_st 4 0)), (100000, o_go G Q mX12_areAlike (d + 1) 3), (3, (o_ld 4 0)), (5, (o_ld 3 0)), (6, (o_if2 G Q mX12_areAlike (d + 1) (fun a b => b ≤ a) 43)), (9, (o_ld 0 2)), (10, (o_get 12 7 2)), (13, (o_ci 4)), (14, (o_ld 1 0)), (15, (o_bin (fun a b => w32 (a * b)))), (16, (o_ld 4 0)), (18, (o_bin (fun a b => w32 (a + b)))), (19, (o_ald 101 1)), (20, (o_ld 0 2)), (21, (o_get 12 7 2)), (24, (o_ci 4)), (25, (o_ld 2 0)), (26, (o_bin (fun a b => w32 (a * b)))), (27, (o_ld 4 0)), (29, (o_bin (fun a b => w32 (a + b)))), (30, (o_ald 101 1)), (31, o_lcmp), (32, (o_if1 G Q mX12_areAlike (d + 1) (fun x => x = 0) 37)), (35, (o_ci 0)), (36, (o_ret Q true)), (37, (o_inc 4 1)), (40, (o_go G Q mX12_areAlike (d + 1) 3)), (43, (o_ci 1)), (44, (o_ret Q true))]
set_option maxRecDepth 100000 in
set_option maxHeartbeats 4000000 in
theorem kX12_areAlike (G : ms_G) (Q : ms_Q) (d : Nat) : ms_Oc G Q mX12_areAlike (d + 1) (tX12_areAlike G Q d) :=
  ms_oc1 rfl (s_iconst dX12_areAlike_0 (by decide)) <|
  ms_occ (s_istore (by decide) dX12_areAlike_1) <|
  ms_oc1 rfl (s_iload dX12_areAlike_3) <|
  ms_oc1 rfl (s_iload_n rfl dX12_areAlike_5) <|
  ms_oc1 rfl (s_icmpge (by decide) dX12_areAlike_6) <|
  ms_oc1 rfl (s_aload_n rfl dX12_areAlike_9) <|
  ms_oc1 rfl (s_get (r := (RX12, TX12, 45)) rfl (by decide) rfl rfl kw_929 dX12_areAlike_10) <|
  ms_oc1 rfl (s_iconst dX12_areAlike_13 (by decide)) <|
  ms_oc1 rfl (s_iload_n rfl dX12_areAlike_14) <|
  ms_oc1 rfl (s_imul dX12_areAlike_15) <|
  ms_oc1 rfl (s_iload dX12_areAlike_16) <|
  ms_oc1 rfl (s_iadd dX12_areAlike_18) <|
  ms_oc1 rfl (s_laload dX12_areAlike_19) <|
  ms_oc1 rfl (s_aload_n rfl dX12_areAlike_20) <|
  ms_oc1 rfl (s_get (r := (RX12, TX12, 45)) rfl (by decide) rfl rfl kw_929 dX12_areAlike_21) <|
  ms_oc1 rfl (s_iconst dX12_areAlike_24 (by decide)) <|
  ms_oc1 rfl (s_iload_n rfl dX12_areAlike_25) <|
  ms_oc1 rfl (s_imul dX12_areAlike_26) <|
  ms_oc1 rfl (s_iload dX12_areAlike_27) <|
  ms_oc1 rfl (s_iadd dX12_areAlike_29) <|
  ms_oc1 rfl (s_laload dX12_areAlike_30) <|
  ms_oc1 rfl (s_lcmp dX12_areAlike_31) <|
  ms_oc1 rfl (s_ifeq (by decide) dX12_areAlike_32) <|
  ms_oc1 rfl (s_iconst dX12_areAlike_35 (by decide)) <|
  ms_oc1 rfl (s_iret (b := true) rfl dX12_areAlike_36) <|
  ms_oc1 rfl (s_iinc (by decide) dX12_areAlike_37) <|
  ms_oc1 rfl (s_goto (by decide) dX12_areAlike_40) <|
  ms_oc1 rfl (s_iconst dX12_areAlike_43 (by decide)) <|
  ms_oc0 (s_iret (b := true) rfl dX12_areAlike_44)

def tX12_firstAlike (G : ms_G) (Q : ms_Q) (d : Nat) : List (Nat × ms_T) := [(0, (o_ci 0)), (1, (o_st 3 0)), (100000, o_go G Q mX12_firstAlike (d + 1) 2), (2, (o_ld 0 2)), (3, (o_ld 3 0)), (4, (o_ld 1 0)), (5, (o_ld 2 0)), (6, (o_invV G d mX12_areAlike 12 3 0 0)), (9, (o_if1 G Q mX12_firstAlike (d + 1) (fun x => ¬ x = 0) 18)), (12, (o_inc 3 1)), (15, (o_go G Q mX12_firstAlike (d + 1) 2)), (18, (o_ld 3 0)), (19, (o_ret Q false))]
set_option maxRecDepth 100000 in
set_option maxHeartbeats 4000000 in
theorem kX12_firstAlike (G : ms_G) (Q : ms_Q) (d : Nat) : ms_Oc G Q mX12_firstAlike (d + 1) (tX12_firstAlike G Q d) :=
  ms_oc1 rfl (s_iconst dX12_firstAlike_0 (by decide)) <|
  ms_occ (s_istore_n rfl (by decide) dX12_firstAlike_1) <|
  ms_oc1 rfl (s_aload_n rfl dX12_firstAlike_2) <|
  ms_oc1 rfl (s_iload_n rfl dX12_firstAlike_3) <|
  ms_oc1 rfl (s_iload_n rfl dX12_firstAlike_4) <|
  ms_oc1 rfl (s_iload_n rfl dX12_firstAlike_5) <|
  ms_oc1 rfl (s_invV (r := (RX12, TX12, 45)) rfl rfl kw_1202 kw_1204 kw_62 kw_88 kw_1205 ⟨by decide +kernel, by decide +kernel, by decide +kernel⟩ (by decide) dX12_firstAlike_6) <|
  ms_oc1 rfl (s_ifne (by decide) dX12_firstAlike_9) <|
  ms_oc1 rfl (s_iinc (by decide) dX12_firstAlike_12) <|
  ms_oc1 rfl (s_goto (by decide) dX12_firstAlike_15) <|
  ms_oc1 rfl (s_iload_n rfl dX12_firstAlike_18) <|
  ms_oc0 (s_iret (b := false) rfl dX12_firstAlike_19)

def tX12_feed (G : ms_G) (Q : ms_Q) (d : Nat) : List (Nat × ms_T) := [(0, (o_ld 0 2)), (1, (o_ci 0)), (2, (o_put 12 0 0)), (5, (o_ld 0 2)), (6, (o_get 12 9 0)), (9, (o_ci 20)), (11, (o_bin (fun a b => w32 (a + b)))), (12, (o_ci 500)), (15, (o_if2 G Q mX12_feed (d + 1) (fun a b => a ≤ b) 20)), (18, (o_ci (-1))), (19, (o_ret Q false)), (20, (o_ld 0 2)), (21, (o_ld 1 0)), (22, (o_invV G d mX12_four 12 1 0 0)), (25, (o_ld 0 2)), (26, (o_ld 2 0)), (27, (o_invV G d mX12_four 12 1 0 0)), (30, (o_ld 0 2)), (31, (o_ld 3 0)), (32, (o_invV G d mX12_four 12 1 0 0)), (35, (o_ld 0 2)), (36, (o_ld 4 0)), (38, (o_invV G d mX12_four 12 1 0 0)), (41, (o_ld 0 2)), (42, (o_ld 5 0)), (44, (o_invV G d mX12_four 12 1 0 0)), (47, (o_ld 0 2)), (48, (o_get 12 9 0)), (51, (o_ret Q false))]
set_option maxRecDepth 100000 in
set_option maxHeartbeats 4000000 in
theorem kX12_feed (G : ms_G) (Q : ms_Q) (d : Nat) : ms_Oc G Q mX12_feed (d + 1) (tX12_feed G Q d) :=
  ms_oc1 rfl (s_aload_n rfl dX12_feed_0) <|
  ms_oc1 rfl (s_iconst dX12_feed_1 (by decide)) <|
  ms_oc1 rfl (s_put (r := (RX12, TX12, 45)) rfl (by decide) rfl rfl (ms_nar0 rfl) (Or.inl rfl) kw_922 dX12_feed_2) <|
  ms_oc1 rfl (s_aload_n rfl dX12_feed_5) <|
  ms_oc1 rfl (s_get (r := (RX12, TX12, 45)) rfl (by decide) rfl rfl kw_931 dX12_feed_6) <|
  ms_oc1 rfl (s_bipush dX12_feed_9 (by decide) (by decide)) <|
  ms_oc1 rfl (s_iadd dX12_feed_11) <|
  ms_oc1 rfl (s_sipush dX12_feed_12 (by decide) (by decide)) <|
  ms_oc1 rfl (s_icmple (by decide) dX12_feed_15) <|
  ms_oc1 rfl (s_iconst dX12_feed_18 (by decide)) <|
  ms_oc1 rfl (s_iret (b := false) rfl dX12_feed_19) <|
  ms_oc1 rfl (s_aload_n rfl dX12_feed_20) <|
  ms_oc1 rfl (s_iload_n rfl dX12_feed_21) <|
  ms_oc1 rfl (s_invV (r := (RX12, TX12, 45)) rfl rfl kw_912 kw_914 kw_36 kw_88 kw_916 ⟨by decide +kernel, by decide +kernel, by decide +kernel⟩ (by decide) dX12_feed_22) <|
  ms_oc1 rfl (s_aload_n rfl dX12_feed_25) <|
  ms_oc1 rfl (s_iload_n rfl dX12_feed_26) <|
  ms_oc1 rfl (s_invV (r := (RX12, TX12, 45)) rfl rfl kw_912 kw_914 kw_36 kw_88 kw_916 ⟨by decide +kernel, by decide +kernel, by decide +kernel⟩ (by decide) dX12_feed_27) <|
  ms_oc1 rfl (s_aload_n rfl dX12_feed_30) <|
  ms_oc1 rfl (s_iload_n rfl dX12_feed_31) <|
  ms_oc1 rfl (s_invV (r := (RX12, TX12, 45)) rfl rfl kw_912 kw_914 kw_36 kw_88 kw_916 ⟨by decide +kernel, by decide +kernel, by decide +kernel⟩ (by decide) dX12_feed_32) <|
  ms_oc1 rfl (s_aload_n rfl dX12_feed_35) <|
  ms_oc1 rfl (s_iload dX12_feed_36) <|
  ms_oc1 rfl (s_invV (r := (RX12, TX12, 45)) rfl rfl kw_912 kw_914 kw_36 kw_88 kw_916 ⟨by decide +kernel, by decide +kernel, by decide +kernel⟩ (by decide) dX12_feed_38) <|
  ms_oc1 rfl (s_aload_n rfl dX12_feed_41) <|
  ms_oc1 rfl (s_iload dX12_feed_42) <|
  ms_oc1 rfl (s_invV (r := (RX12, TX12, 45)) rfl rfl kw_912 kw_914 kw_36 kw_88 kw_916 ⟨by decide +kernel, by decide +kernel, by decide +kernel⟩ (by decide) dX12_feed_44) <|
  ms_oc1 rfl (s_aload_n rfl dX12_feed_47) <|
  ms_oc1 rfl (s_get (r := (RX12, TX12, 45)) rfl (by decide) rfl rfl kw_931 dX12_feed_48) <|
  ms_oc0 (s_iret (b := false) rfl dX12_feed_51)

def tX12_four (G : ms_G) (Q : ms_Q) (d : Nat) : List (Nat × ms_T) := [(0, (o_ci 24)), (2, (o_st 2 0)), (100000, o_go G Q mX12_four (d + 1) 3), (3, (o_ld 2 0)), (4, (o_if1 G Q mX12_four (d + 1) (fun x => x < 0) 36)), (7, (o_ld 0 2)), (8, (o_get 12 8 2)), (11, (o_ld 0 2)), (12, (o_get 12 9 0)), (15, (o_ld 1 0)), (16, (o_ld 2 0)), (17, (o_bin wshr)), (18, (o_un 0 0 wi2b)), (19, o_bast), (20, (o_ld 0 2)), (21, o_dup), (22, (o_get 12 9 0)), (25, (o_ci 1)), (26, (o_bin (fun a b => w32 (a + b)))), (27, (o_put 12 9 0)), (30, (o_inc 2 (-8))), (33, (o_go G Q mX12_four (d + 1) 3)), (36, (o_vret Q))]
set_option maxRecDepth 100000 in
set_option maxHeartbeats 4000000 in
theorem kX12_four (G : ms_G) (Q : ms_Q) (d : Nat) : ms_Oc G Q mX12_four (d + 1) (tX12_four G Q d) :=
  ms_oc1 rfl (s_bipush dX12_four_0 (by decide) (by decide)) <|
  ms_occ (s_istore_n rfl (by decide) dX12_four_2) <|
  ms_oc1 rfl (s_iload_n rfl dX12_four_3) <|
  ms_oc1 rfl (s_iflt (by decide) dX12_four_4) <|
  ms_oc1 rfl (s_aload_n rfl dX12_four_7) <|
  ms_oc1 rfl (s_get (r := (RX12, TX12, 45)) rfl (by decide) rfl rfl kw_930 dX12_four_8) <|
  ms_oc1 rfl (s_aload_n rfl dX12_four_11) <|
  ms_oc1 rfl (s_get (r := (RX12, TX12, 45)) rfl (by decide) rfl rfl kw_931 dX12_four_12) <|
  ms_oc1 rfl (s_iload_n rfl dX12_four_15) <|
  ms_oc1 rfl (s_iload_n rfl dX12_four_16) <|
  ms_oc1 rfl (s_ishr dX12_four_17) <|
  ms_oc1 rfl (s_i2b dX12_four_18) <|
  ms_oc1 rfl (s_bastore dX12_four_19) <|
  ms_oc1 rfl (s_aload_n rfl dX12_four_20) <|
  ms_oc1 rfl (s_dup dX12_four_21) <|
  ms_oc1 rfl (s_get (r := (RX12, TX12, 45)) rfl (by decide) rfl rfl kw_931 dX12_four_22) <|
  ms_oc1 rfl (s_iconst dX12_four_25 (by decide)) <|
  ms_oc1 rfl (s_iadd dX12_four_26) <|
  ms_oc1 rfl (s_put (r := (RX12, TX12, 45)) rfl (by decide) rfl rfl (ms_nar0 rfl) (Or.inl rfl) kw_931 dX12_four_27) <|
  ms_oc1 rfl (s_iinc (by decide) dX12_four_30) <|
  ms_oc1 rfl (s_goto (by decide) dX12_four_33) <|
  ms_oc0 (s_vret rfl dX12_four_36)

def tX12_byteAt (G : ms_G) (Q : ms_Q) (d : Nat) : List (Nat × ms_T) := [(0, (o_ld 1 0)), (1, (o_ld 0 2)), (2, (o_get 12 10 0)), (5, (o_if2 G Q mX12_byteAt (d + 1) (fun a b => b ≤ a) 21)), (8, (o_ld 0 2)), (9, (o_get 12 8 2)), (12, (o_ld 1 0)), (13, o_bald), (14, (o_ci 255)), (17, (o_bin wand)), (18, (o_go G Q mX12_byteAt (d + 1) 22)), (21, (o_ci (-1))), (100000, o_go G Q mX12_byteAt (d + 1) 22), (22, (o_ret Q false))]
set_option maxRecDepth 100000 in
set_option maxHeartbeats 4000000 in
theorem kX12_byteAt (G : ms_G) (Q : ms_Q) (d : Nat) : ms_Oc G Q mX12_byteAt (d + 1) (tX12_byteAt G Q d) :=
  ms_oc1 rfl (s_iload_n rfl dX12_byteAt_0) <|
  ms_oc1 rfl (s_aload_n rfl dX12_byteAt_1) <|
  ms_oc1 rfl (s_get (r := (RX12, TX12, 45)) rfl (by decide) rfl rfl kw_932 dX12_byteAt_2) <|
  ms_oc1 rfl (s_icmpge (by decide) dX12_byteAt_5) <|
  ms_oc1 rfl (s_aload_n rfl dX12_byteAt_8) <|
  ms_oc1 rfl (s_get (r := (RX12, TX12, 45)) rfl (by decide) rfl rfl kw_930 dX12_byteAt_9) <|
  ms_oc1 rfl (s_iload_n rfl dX12_byteAt_12) <|
  ms_oc1 rfl (s_baload dX12_byteAt_13) <|
  ms_oc1 rfl (s_sipush dX12_byteAt_14 (by decide) (by decide)) <|
  ms_oc1 rfl (s_iand dX12_byteAt_17) <|
  ms_oc1 rfl (s_goto (by decide) dX12_byteAt_18) <|
  ms_occ (s_iconst dX12_byteAt_21 (by decide)) <|
  ms_oc0 (s_iret (b := false) rfl dX12_byteAt_22)

def tX12_go (G : ms_G) (Q : ms_Q) (d : Nat) : List (Nat × ms_T) := [(0, (o_ld 0 2)), (1, (o_ld 0 2)), (2, (o_get 12 12 0)), (5, (o_invV G d mX12_byteAt 12 1 0 0)), (8, (o_ci 32)), (10, (o_if2 G Q mX12_go (d + 1) (fun a b => a = b) 26)), (13, (o_ld 0 2)), (14, (o_ld 0 2)), (15, (o_get 12 12 0)), (18, (o_invV G d mX12_byteAt 12 1 0 0)), (21, (o_ci 10)), (23, (o_if2 G Q mX12_go (d + 1) (fun a b => ¬ a = b) 39)), (100000, o_go G Q mX12_go (d + 1) 26), (26, (o_ld 0 2)), (27, o_dup), (28, (o_get 12 12 0)), (31, (o_ci 1)), (32, (o_bin (fun a b => w32 (a + b)))), (33, (o_put 12 12 0)), (36, (o_go G Q mX12_go (d + 1) 0)), (39, (o_ld 0 2)), (40, (o_ld 0 2)), (41, (o_get 12 12 0)), (44, (o_put 12 11 0)), (47, (o_ld 0 2)), (48, (o_ci 0)), (49, (o_put 12 14 0)), (52, (o_ld 0 2)), (53, (o_ci 0)), (54, (o_put 12 15 0)), (57, (o_ld 0 2)), (58, (o_ci 0)), (59, (o_put 12 16 0)), (62, (o_ld 0 2)), (63, (o_ld 0 2)), (64, (o_get 12 12 0)), (67, (o_invV G d mX12_byteAt 12 1 0 0)), (70, (o_st 1 0)), (71, (o_ld 1 0)), (72, (o_if1 G Q mX12_go (d + 1) (fun x => 0 ≤ x) 83)), (75, (o_ld 0 2)), (76, (o_ci 0)), (77, (o_put 12 13 0)), (80, (o_go G Q mX12_go (d + 1) 295)), (83, (o_ld 1 0)), (84, (o_un 0 1 (fun a => a))), (85, (o_cl (97))), (88, (o_cl (122))), (91, (o_invS G d mX12_within 3 0 0)), (94, (o_if1 G Q mX12_go (d + 1) (fun x => x = 0) 179)), (100000, o_go G Q mX12_go (d + 1) 97), (97, (o_ld 0 2)), (98, (o_ld 0 2)), (99, (o_get 12 12 0)), (102, (o_invV G d mX12_byteAt 12 1 0 0)), (105, (o_un 0 1 (fun a => a))), (106, (o_cl (97))), (109, (o_cl (122))), (112, (o_invS G d mX12_within 3 0 0)), (115, (o_if1 G Q mX12_go (d + 1) (fun x => x = 0) 171)), (118, (o_ld 0 2)), (119, (o_ld 0 2)), (120, (o_get 12 12 0)), (123, (o_ld 0 2)), (124, (o_get 12 11 0)), (127, (o_bin (fun a b => w32 (a - b)))), (128, (o_ci 4)), (129, (o_if2 G Q mX12_go (d + 1) (fun a b => b ≤ a) 154)), (132, (o_ci 32)), (134, (o_ld 0 2)), (135, (o_get 12 15 0)), (138, (o_bin (fun a b => w32 (a * b)))), (139, (o_ld 0 2)), (140, (o_ld 0 2)), (141, (o_get 12 12 0)), (144, (o_invV G d mX12_byteAt 12 1 0 0)), (147, (o_bin (fun a b => w32 (a + b)))), (148, (o_ci 96)), (150, (o_bin (fun a b => w32 (a - b)))), (151, (o_go G Q mX12_go (d + 1) 155)), (154, (o_ci (-1))), (100000, o_go G Q mX12_go (d + 1) 155), (155, (o_put 12 15 0)), (158, (o_ld 0 2)), (159, o_dup), (160, (o_get 12 12 0)), (163, (o_ci 1)), (164, (o_bin (fun a b => w32 (a + b)))), (165, (o_put 12 12 0)), (168, (o_go G Q mX12_go (d + 1) 97)), (171, (o_ld 0 2)), (172, (o_ci 1)), (173, (o_put 12 13 0)), (176, (o_go G Q mX12_go (d + 1) 295)), (179, (o_ld 1 0)), (180, (o_un 0 1 (fun a => a))), (181, (o_cl (48))), (184, (o_cl (57))), (187, (o_invS G d mX12_within 3 0 0)), (190, (o_if1 G Q mX12_go (d + 1) (fun x => x = 0) 275)), (100000, o_go G Q mX12_go (d + 1) 193), (193, (o_ld 0 2)), (194, (o_ld 0 2)), (195, (o_get 12 12 0)), (198, (o_invV G d mX12_byteAt 12 1 0 0)), (201, (o_un 0 1 (fun a => a))), (202, (o_cl (48))), (205, (o_cl (57))), (208, (o_invS G d mX12_within 3 0 0)), (211, (o_if1 G Q mX12_go (d + 1) (fun x => x = 0) 267)), (214, (o_ld 0 2)), (215, (o_ld 0 2)), (216, (o_get 12 12 0)), (219, (o_ld 0 2)), (220, (o_get 12 11 0)), (223, (o_bin (fun a b => w32 (a - b)))), (224, (o_ci 4)), (225, (o_if2 G Q mX12_go (d + 1) (fun a b => b ≤ a) 250)), (228, (o_ci 10)), (230, (o_ld 0 2)), (231, (o_get 12 14 0)), (234, (o_bin (fun a b => w32 (a * b)))), (235, (o_ld 0 2)), (236, (o_ld 0 2)), (237, (o_get 12 12 0)), (240, (o_invV G d mX12_byteAt 12 1 0 0)), (243, (o_bin (fun a b => w32 (a + b)))), (244, (o_ci 48)), (246, (o_bin (fun a b => w32 (a - b)))), (247, (o_go G Q mX12_go (d + 1) 251)), (250, (o_ci (-1))), (100000, o_go G Q mX12_go (d + 1) 251), (251, (o_put 12 14 0)), (254, (o_ld 0 2)), (255, o_dup), (256, (o_get 12 12 0)), (259, (o_ci 1)), (260, (o_bin (fun a b => w32 (a + b)))), (261, (o_put 12 12 0)), (264, (o_go G Q mX12_go (d + 1) 193)), (267, (o_ld 0 2)), (268, (o_ci 2)), (269, (o_put 12 13 0)), (272, (o_go G Q mX12_go (d + 1) 295)), (275, (o_ld 0 2)), (276, o_dup), (277, (o_get 12 12 0)), (280, (o_ci 1)), (281, (o_bin (fun a b => w32 (a + b)))), (282, (o_put 12 12 0)), (285, (o_ld 0 2)), (286, (o_ci 3)), (287, (o_put 12 13 0)), (290, (o_ld 0 2)), (291, (o_ld 1 0)), (292, (o_put 12 16 0)), (100000, o_go G Q mX12_go (d + 1) 295), (295, (o_vret Q))]
set_option maxRecDepth 100000 in
set_option maxHeartbeats 4000000 in
theorem kX12_go (G : ms_G) (Q : ms_Q) (d : Nat) : ms_Oc G Q mX12_go (d + 1) (tX12_go G Q d) :=
  ms_oc1 rfl (s_aload_n rfl dX12_go_0) <|
  ms_oc1 rfl (s_aload_n rfl dX12_go_1) <|
  ms_oc1 rfl (s_get (r := (RX12, TX12, 45)) rfl (by decide) rfl rfl kw_934 dX12_go_2) <|
  ms_oc1 rfl (s_invV (r := (RX12, TX12, 45)) rfl rfl kw_1072 kw_1074 kw_38 kw_88 kw_1075 ⟨by decide +kernel, by decide +kernel, by decide +kernel⟩ (by decide) dX12_go_5) <|
  ms_oc1 rfl (s_bipush dX12_go_8 (by decide) (by decide)) <|
  ms_oc1 rfl (s_icmpeq (by decide) dX12_go_10) <|
  ms_oc1 rfl (s_aload_n rfl dX12_go_13) <|
  ms_oc1 rfl (s_aload_n rfl dX12_go_14) <|
  ms_oc1 rfl (s_get (r := (RX12, TX12, 45)) rfl (by decide) rfl rfl kw_934 dX12_go_15) <|
  ms_oc1 rfl (s_invV (r := (RX12, TX12, 45)) rfl rfl kw_1072 kw_1074 kw_38 kw_88 kw_1075 ⟨by decide +kernel, by decide +kernel, by decide +kernel⟩ (by decide) dX12_go_18) <|
  ms_oc1 rfl (s_bipush dX12_go_21 (by decide) (by decide)) <|
  ms_occ (s_icmpne (by decide) dX12_go_23) <|
  ms_oc1 rfl (s_aload_n rfl dX12_go_26) <|
  ms_oc1 rfl (s_dup dX12_go_27) <|
  ms_oc1 rfl (s_get (r := (RX12, TX12, 45)) rfl (by decide) rfl rfl kw_934 dX12_go_28) <|
  ms_oc1 rfl (s_iconst dX12_go_31 (by decide)) <|
  ms_oc1 rfl (s_iadd dX12_go_32) <|
  ms_oc1 rfl (s_put (r := (RX12, TX12, 45)) rfl (by decide) rfl rfl (ms_nar0 rfl) (Or.inl rfl) kw_934 dX12_go_33) <|
  ms_oc1 rfl (s_goto (by decide) dX12_go_36) <|
  ms_oc1 rfl (s_aload_n rfl dX12_go_39) <|
  ms_oc1 rfl (s_aload_n rfl dX12_go_40) <|
  ms_oc1 rfl (s_get (r := (RX12, TX12, 45)) rfl (by decide) rfl rfl kw_934 dX12_go_41) <|
  ms_oc1 rfl (s_put (r := (RX12, TX12, 45)) rfl (by decide) rfl rfl (ms_nar0 rfl) (Or.inl rfl) kw_933 dX12_go_44) <|
  ms_oc1 rfl (s_aload_n rfl dX12_go_47) <|
  ms_oc1 rfl (s_iconst dX12_go_48 (by decide)) <|
  ms_oc1 rfl (s_put (r := (RX12, TX12, 45)) rfl (by decide) rfl rfl (ms_nar0 rfl) (Or.inl rfl) kw_936 dX12_go_49) <|
  ms_oc1 rfl (s_aload_n rfl dX12_go_52) <|
  ms_oc1 rfl (s_iconst dX12_go_53 (by decide)) <|
  ms_oc1 rfl (s_put (r := (RX12, TX12, 45)) rfl (by decide) rfl rfl (ms_nar0 rfl) (Or.inl rfl) kw_937 dX12_go_54) <|
  ms_oc1 rfl (s_aload_n rfl dX12_go_57) <|
  ms_oc1 rfl (s_iconst dX12_go_58 (by decide)) <|
  ms_oc1 rfl (s_put (r := (RX12, TX12, 45)) rfl (by decide) rfl rfl (ms_nar0 rfl) (Or.inl rfl) kw_938 dX12_go_59) <|
  ms_oc1 rfl (s_aload_n rfl dX12_go_62) <|
  ms_oc1 rfl (s_aload_n rfl dX12_go_63) <|
  ms_oc1 rfl (s_get (r := (RX12, TX12, 45)) rfl (by decide) rfl rfl kw_934 dX12_go_64) <|
  ms_oc1 rfl (s_invV (r := (RX12, TX12, 45)) rfl rfl kw_1072 kw_1074 kw_38 kw_88 kw_1075 ⟨by decide +kernel, by decide +kernel, by decide +kernel⟩ (by decide) dX12_go_67) <|
  ms_oc1 rfl (s_istore_n rfl (by decide) dX12_go_70) <|
  ms_oc1 rfl (s_iload_n rfl dX12_go_71) <|
  ms_oc1 rfl (s_ifge (by decide) dX12_go_72) <|
  ms_oc1 rfl (s_aload_n rfl dX12_go_75) <|
  ms_oc1 rfl (s_iconst dX12_go_76 (by decide)) <|
  ms_oc1 rfl (s_put (r := (RX12, TX12, 45)) rfl (by decide) rfl rfl (ms_nar0 rfl) (Or.inl rfl) kw_935 dX12_go_77) <|
  ms_oc1 rfl (s_goto (by decide) dX12_go_80) <|
  ms_oc1 rfl (s_iload_n rfl dX12_go_83) <|
  ms_oc1 rfl (s_i2l dX12_go_84) <|
  ms_oc1 rfl (s_ldc2 dX12_go_85 kw_1076 (by decide) (by decide)) <|
  ms_oc1 rfl (s_ldc2 dX12_go_88 kw_1077 (by decide) (by decide)) <|
  ms_oc1 rfl (s_invS kw_1062 kw_1063 kw_88 kw_1064 ⟨by decide +kernel, by decide +kernel, by decide +kernel⟩ (by decide) dX12_go_91) <|
  ms_occ (s_ifeq (by decide) dX12_go_94) <|
  ms_oc1 rfl (s_aload_n rfl dX12_go_97) <|
  ms_oc1 rfl (s_aload_n rfl dX12_go_98) <|
  ms_oc1 rfl (s_get (r := (RX12, TX12, 45)) rfl (by decide) rfl rfl kw_934 dX12_go_99) <|
  ms_oc1 rfl (s_invV (r := (RX12, TX12, 45)) rfl rfl kw_1072 kw_1074 kw_38 kw_88 kw_1075 ⟨by decide +kernel, by decide +kernel, by decide +kernel⟩ (by decide) dX12_go_102) <|
  ms_oc1 rfl (s_i2l dX12_go_105) <|
  ms_oc1 rfl (s_ldc2 dX12_go_106 kw_1076 (by decide) (by decide)) <|
  ms_oc1 rfl (s_ldc2 dX12_go_109 kw_1077 (by decide) (by decide)) <|
  ms_oc1 rfl (s_invS kw_1062 kw_1063 kw_88 kw_1064 ⟨by decide +kernel, by decide +kernel, by decide +kernel⟩ (by decide) dX12_go_112) <|
  ms_oc1 rfl (s_ifeq (by decide) dX12_go_115) <|
  ms_oc1 rfl (s_aload_n rfl dX12_go_118) <|
  ms_oc1 rfl (s_aload_n rfl dX12_go_119) <|
  ms_oc1 rfl (s_get (r := (RX12, TX12, 45)) rfl (by decide) rfl rfl kw_934 dX12_go_120) <|
  ms_oc1 rfl (s_aload_n rfl dX12_go_123) <|
  ms_oc1 rfl (s_get (r := (RX12, TX12, 45)) rfl (by decide) rfl rfl kw_933 dX12_go_124) <|
  ms_oc1 rfl (s_isub dX12_go_127) <|
  ms_oc1 rfl (s_iconst dX12_go_128 (by decide)) <|
  ms_oc1 rfl (s_icmpge (by decide) dX12_go_129) <|
  ms_oc1 rfl (s_bipush dX12_go_132 (by decide) (by decide)) <|
  ms_oc1 rfl (s_aload_n rfl dX12_go_134) <|
  ms_oc1 rfl (s_get (r := (RX12, TX12, 45)) rfl (by decide) rfl rfl kw_937 dX12_go_135) <|
  ms_oc1 rfl (s_imul dX12_go_138) <|
  ms_oc1 rfl (s_aload_n rfl dX12_go_139) <|
  ms_oc1 rfl (s_aload_n rfl dX12_go_140) <|
  ms_oc1 rfl (s_get (r := (RX12, TX12, 45)) rfl (by decide) rfl rfl kw_934 dX12_go_141) <|
  ms_oc1 rfl (s_invV (r := (RX12, TX12, 45)) rfl rfl kw_1072 kw_1074 kw_38 kw_88 kw_1075 ⟨by decide +kernel, by decide +kernel, by decide +kernel⟩ (by decide) dX12_go_144) <|
  ms_oc1 rfl (s_iadd dX12_go_147) <|
  ms_oc1 rfl (s_bipush dX12_go_148 (by decide) (by decide)) <|
  ms_oc1 rfl (s_isub dX12_go_150) <|
  ms_oc1 rfl (s_goto (by decide) dX12_go_151) <|
  ms_occ (s_iconst dX12_go_154 (by decide)) <|
  ms_oc1 rfl (s_put (r := (RX12, TX12, 45)) rfl (by decide) rfl rfl (ms_nar0 rfl) (Or.inl rfl) kw_937 dX12_go_155) <|
  ms_oc1 rfl (s_aload_n rfl dX12_go_158) <|
  ms_oc1 rfl (s_dup dX12_go_159) <|
  ms_oc1 rfl (s_get (r := (RX12, TX12, 45)) rfl (by decide) rfl rfl kw_934 dX12_go_160) <|
  ms_oc1 rfl (s_iconst dX12_go_163 (by decide)) <|
  ms_oc1 rfl (s_iadd dX12_go_164) <|
  ms_oc1 rfl (s_put (r := (RX12, TX12, 45)) rfl (by decide) rfl rfl (ms_nar0 rfl) (Or.inl rfl) kw_934 dX12_go_165) <|
  ms_oc1 rfl (s_goto (by decide) dX12_go_168) <|
  ms_oc1 rfl (s_aload_n rfl dX12_go_171) <|
  ms_oc1 rfl (s_iconst dX12_go_172 (by decide)) <|
  ms_oc1 rfl (s_put (r := (RX12, TX12, 45)) rfl (by decide) rfl rfl (ms_nar0 rfl) (Or.inl rfl) kw_935 dX12_go_173) <|
  ms_oc1 rfl (s_goto (by decide) dX12_go_176) <|
  ms_oc1 rfl (s_iload_n rfl dX12_go_179) <|
  ms_oc1 rfl (s_i2l dX12_go_180) <|
  ms_oc1 rfl (s_ldc2 dX12_go_181 kw_1078 (by decide) (by decide)) <|
  ms_oc1 rfl (s_ldc2 dX12_go_184 kw_1079 (by decide) (by decide)) <|
  ms_oc1 rfl (s_invS kw_1062 kw_1063 kw_88 kw_1064 ⟨by decide +kernel, by decide +kernel, by decide +kernel⟩ (by decide) dX12_go_187) <|
  ms_occ (s_ifeq (by decide) dX12_go_190) <|
  ms_oc1 rfl (s_aload_n rfl dX12_go_193) <|
  ms_oc1 rfl (s_aload_n rfl dX12_go_194) <|
  ms_oc1 rfl (s_get (r := (RX12, TX12, 45)) rfl (by decide) rfl rfl kw_934 dX12_go_195) <|
  ms_oc1 rfl (s_invV (r := (RX12, TX12, 45)) rfl rfl kw_1072 kw_1074 kw_38 kw_88 kw_1075 ⟨by decide +kernel, by decide +kernel, by decide +kernel⟩ (by decide) dX12_go_198) <|
  ms_oc1 rfl (s_i2l dX12_go_201) <|
  ms_oc1 rfl (s_ldc2 dX12_go_202 kw_1078 (by decide) (by decide)) <|
  ms_oc1 rfl (s_ldc2 dX12_go_205 kw_1079 (by decide) (by decide)) <|
  ms_oc1 rfl (s_invS kw_1062 kw_1063 kw_88 kw_1064 ⟨by decide +kernel, by decide +kernel, by decide +kernel⟩ (by decide) dX12_go_208) <|
  ms_oc1 rfl (s_ifeq (by decide) dX12_go_211) <|
  ms_oc1 rfl (s_aload_n rfl dX12_go_214) <|
  ms_oc1 rfl (s_aload_n rfl dX12_go_215) <|
  ms_oc1 rfl (s_get (r := (RX12, TX12, 45)) rfl (by decide) rfl rfl kw_934 dX12_go_216) <|
  ms_oc1 rfl (s_aload_n rfl dX12_go_219) <|
  ms_oc1 rfl (s_get (r := (RX12, TX12, 45)) rfl (by decide) rfl rfl kw_933 dX12_go_220) <|
  ms_oc1 rfl (s_isub dX12_go_223) <|
  ms_oc1 rfl (s_iconst dX12_go_224 (by decide)) <|
  ms_oc1 rfl (s_icmpge (by decide) dX12_go_225) <|
  ms_oc1 rfl (s_bipush dX12_go_228 (by decide) (by decide)) <|
  ms_oc1 rfl (s_aload_n rfl dX12_go_230) <|
  ms_oc1 rfl (s_get (r := (RX12, TX12, 45)) rfl (by decide) rfl rfl kw_936 dX12_go_231) <|
  ms_oc1 rfl (s_imul dX12_go_234) <|
  ms_oc1 rfl (s_aload_n rfl dX12_go_235) <|
  ms_oc1 rfl (s_aload_n rfl dX12_go_236) <|
  ms_oc1 rfl (s_get (r := (RX12, TX12, 45)) rfl (by decide) rfl rfl kw_934 dX12_go_237) <|
  ms_oc1 rfl (s_invV (r := (RX12, TX12, 45)) rfl rfl kw_1072 kw_1074 kw_38 kw_88 kw_1075 ⟨by decide +kernel, by decide +kernel, by decide +kernel⟩ (by decide) dX12_go_240) <|
  ms_oc1 rfl (s_iadd dX12_go_243) <|
  ms_oc1 rfl (s_bipush dX12_go_244 (by decide) (by decide)) <|
  ms_oc1 rfl (s_isub dX12_go_246) <|
  ms_oc1 rfl (s_goto (by decide) dX12_go_247) <|
  ms_occ (s_iconst dX12_go_250 (by decide)) <|
  ms_oc1 rfl (s_put (r := (RX12, TX12, 45)) rfl (by decide) rfl rfl (ms_nar0 rfl) (Or.inl rfl) kw_936 dX12_go_251) <|
  ms_oc1 rfl (s_aload_n rfl dX12_go_254) <|
  ms_oc1 rfl (s_dup dX12_go_255) <|
  ms_oc1 rfl (s_get (r := (RX12, TX12, 45)) rfl (by decide) rfl rfl kw_934 dX12_go_256) <|
  ms_oc1 rfl (s_iconst dX12_go_259 (by decide)) <|
  ms_oc1 rfl (s_iadd dX12_go_260) <|
  ms_oc1 rfl (s_put (r := (RX12, TX12, 45)) rfl (by decide) rfl rfl (ms_nar0 rfl) (Or.inl rfl) kw_934 dX12_go_261) <|
  ms_oc1 rfl (s_goto (by decide) dX12_go_264) <|
  ms_oc1 rfl (s_aload_n rfl dX12_go_267) <|
  ms_oc1 rfl (s_iconst dX12_go_268 (by decide)) <|
  ms_oc1 rfl (s_put (r := (RX12, TX12, 45)) rfl (by decide) rfl rfl (ms_nar0 rfl) (Or.inl rfl) kw_935 dX12_go_269) <|
  ms_oc1 rfl (s_goto (by decide) dX12_go_272) <|
  ms_oc1 rfl (s_aload_n rfl dX12_go_275) <|
  ms_oc1 rfl (s_dup dX12_go_276) <|
  ms_oc1 rfl (s_get (r := (RX12, TX12, 45)) rfl (by decide) rfl rfl kw_934 dX12_go_277) <|
  ms_oc1 rfl (s_iconst dX12_go_280 (by decide)) <|
  ms_oc1 rfl (s_iadd dX12_go_281) <|
  ms_oc1 rfl (s_put (r := (RX12, TX12, 45)) rfl (by decide) rfl rfl (ms_nar0 rfl) (Or.inl rfl) kw_934 dX12_go_282) <|
  ms_oc1 rfl (s_aload_n rfl dX12_go_285) <|
  ms_oc1 rfl (s_iconst dX12_go_286 (by decide)) <|
  ms_oc1 rfl (s_put (r := (RX12, TX12, 45)) rfl (by decide) rfl rfl (ms_nar0 rfl) (Or.inl rfl) kw_935 dX12_go_287) <|
  ms_oc1 rfl (s_aload_n rfl dX12_go_290) <|
  ms_oc1 rfl (s_iload_n rfl dX12_go_291) <|
  ms_occ (s_put (r := (RX12, TX12, 45)) rfl (by decide) rfl rfl (ms_nar0 rfl) (Or.inl rfl) kw_938 dX12_go_292) <|
  ms_oc0 (s_vret rfl dX12_go_295)

def tX12_bad (G : ms_G) (Q : ms_Q) (d : Nat) : List (Nat × ms_T) := [(0, (o_ld 0 2)), (1, (o_ld 0 2)), (2, (o_get 12 17 0)), (5, (o_if1 G Q mX12_bad (d + 1) (fun x => ¬ x = 0) 20)), (8, (o_ci 8)), (10, (o_ld 0 2)), (11, (o_get 12 11 0)), (14, (o_bin (fun a b => w32 (a * b)))), (15, (o_ld 1 0)), (16, (o_bin (fun a b => w32 (a + b)))), (17, (o_go G Q mX12_bad (d + 1) 24)), (20, (o_ld 0 2)), (21, (o_get 12 17 0)), (100000, o_go G Q mX12_bad (d + 1) 24), (24, (o_put 12 17 0)), (27, (o_ci 0)), (28, (o_ret Q true))]
set_option maxRecDepth 100000 in
set_option maxHeartbeats 4000000 in
theorem kX12_bad (G : ms_G) (Q : ms_Q) (d : Nat) : ms_Oc G Q mX12_bad (d + 1) (tX12_bad G Q d) :=
  ms_oc1 rfl (s_aload_n rfl dX12_bad_0) <|
  ms_oc1 rfl (s_aload_n rfl dX12_bad_1) <|
  ms_oc1 rfl (s_get (r := (RX12, TX12, 45)) rfl (by decide) rfl rfl kw_939 dX12_bad_2) <|
  ms_oc1 rfl (s_ifne (by decide) dX12_bad_5) <|
  ms_oc1 rfl (s_bipush dX12_bad_8 (by decide) (by decide)) <|
  ms_oc1 rfl (s_aload_n rfl dX12_bad_10) <|
  ms_oc1 rfl (s_get (r := (RX12, TX12, 45)) rfl (by decide) rfl rfl kw_933 dX12_bad_11) <|
  ms_oc1 rfl (s_imul dX12_bad_14) <|
  ms_oc1 rfl (s_iload_n rfl dX12_bad_15) <|
  ms_oc1 rfl (s_iadd dX12_bad_16) <|
  ms_oc1 rfl (s_goto (by decide) dX12_bad_17) <|
  ms_oc1 rfl (s_aload_n rfl dX12_bad_20) <|
  ms_occ (s_get (r := (RX12, TX12, 45)) rfl (by decide) rfl rfl kw_939 dX12_bad_21) <|
  ms_oc1 rfl (s_put (r := (RX12, TX12, 45)) rfl (by decide) rfl rfl (ms_nar0 rfl) (Or.inl rfl) kw_939 dX12_bad_24) <|
  ms_oc1 rfl (s_iconst dX12_bad_27 (by decide)) <|
  ms_oc0 (s_iret (b := true) rfl dX12_bad_28)

def tX12_is (G : ms_G) (Q : ms_Q) (d : Nat) : List (Nat × ms_T) := [(0, (o_ld 0 2)), (1, (o_get 12 13 0)), (4, (o_ci 1)), (5, (o_if2 G Q mX12_is (d + 1) (fun a b => ¬ a = b) 20)), (8, (o_ld 0 2)), (9, (o_get 12 15 0)), (12, (o_ld 1 0)), (13, (o_if2 G Q mX12_is (d + 1) (fun a b => ¬ a = b) 20)), (16, (o_ci 1)), (17, (o_go G Q mX12_is (d + 1) 21)), (20, (o_ci 0)), (100000, o_go G Q mX12_is (d + 1) 21), (21, (o_ret Q true))]
set_option maxRecDepth 100000 in
set_option maxHeartbeats 4000000 in
theorem kX12_is (G : ms_G) (Q : ms_Q) (d : Nat) : ms_Oc G Q mX12_is (d + 1) (tX12_is G Q d) :=
  ms_oc1 rfl (s_aload_n rfl dX12_is_0) <|
  ms_oc1 rfl (s_get (r := (RX12, TX12, 45)) rfl (by decide) rfl rfl kw_935 dX12_is_1) <|
  ms_oc1 rfl (s_iconst dX12_is_4 (by decide)) <|
  ms_oc1 rfl (s_icmpne (by decide) dX12_is_5) <|
  ms_oc1 rfl (s_aload_n rfl dX12_is_8) <|
  ms_oc1 rfl (s_get (r := (RX12, TX12, 45)) rfl (by decide) rfl rfl kw_937 dX12_is_9) <|
  ms_oc1 rfl (s_iload_n rfl dX12_is_12) <|
  ms_oc1 rfl (s_icmpne (by decide) dX12_is_13) <|
  ms_oc1 rfl (s_iconst dX12_is_16 (by decide)) <|
  ms_oc1 rfl (s_goto (by decide) dX12_is_17) <|
  ms_occ (s_iconst dX12_is_20 (by decide)) <|
  ms_oc0 (s_iret (b := true) rfl dX12_is_21)

def tX12_isSign (G : ms_G) (Q : ms_Q) (d : Nat) : List (Nat × ms_T) := [(0, (o_ld 0 2)), (1, (o_get 12 13 0)), (4, (o_ci 3)), (5, (o_if2 G Q mX12_isSign (d + 1) (fun a b => ¬ a = b) 20)), (8, (o_ld 0 2)), (9, (o_get 12 16 0)), (12, (o_ld 1 0)), (13, (o_if2 G Q mX12_isSign (d + 1) (fun a b => ¬ a = b) 20)), (16, (o_ci 1)), (17, (o_go G Q mX12_isSign (d + 1) 21)), (20, (o_ci 0)), (100000, o_go G Q mX12_isSign (d + 1) 21), (21, (o_ret Q true))]
set_option maxRecDepth 100000 in
set_option maxHeartbeats 4000000 in
theorem kX12_isSign (G : ms_G) (Q : ms_Q) (d : Nat) : ms_Oc G Q mX12_isSign (d + 1) (tX12_isSign G Q d) :=
  ms_oc1 rfl (s_aload_n rfl dX12_isSign_0) <|
  ms_oc1 rfl (s_get (r := (RX12, TX12, 45)) rfl (by decide) rfl rfl kw_935 dX12_isSign_1) <|
  ms_oc1 rfl (s_iconst dX12_isSign_4 (by decide)) <|
  ms_oc1 rfl (s_icmpne (by decide) dX12_isSign_5) <|
  ms_oc1 rfl (s_aload_n rfl dX12_isSign_8) <|
  ms_oc1 rfl (s_get (r := (RX12, TX12, 45)) rfl (by decide) rfl rfl kw_938 dX12_isSign_9) <|
  ms_oc1 rfl (s_iload_n rfl dX12_isSign_12) <|
  ms_oc1 rfl (s_icmpne (by decide) dX12_isSign_13) <|
  ms_oc1 rfl (s_iconst dX12_isSign_16 (by decide)) <|
  ms_oc1 rfl (s_goto (by decide) dX12_isSign_17) <|
  ms_occ (s_iconst dX12_isSign_20 (by decide)) <|
  ms_oc0 (s_iret (b := true) rfl dX12_isSign_21)

def tX12_isName (G : ms_G) (Q : ms_Q) (d : Nat) : List (Nat × ms_T) := [(0, (o_ld 0 2)), (1, (o_get 12 13 0)), (4, (o_ci 1)), (5, (o_if2 G Q mX12_isName (d + 1) (fun a b => ¬ a = b) 38)), (8, (o_ld 0 2)), (9, (o_get 12 15 0)), (12, (o_ci (-1))), (13, (o_if2 G Q mX12_isName (d + 1) (fun a b => a = b) 38)), (16, (o_ld 0 2)), (17, (o_ci (67173))), (19, (o_invV G d mX12_is 12 1 0 0)), (22, (o_if1 G Q mX12_isName (d + 1) (fun x => ¬ x = 0) 38)), (25, (o_ld 0 2)), (26, (o_ci (755156))), (28, (o_invV G d mX12_is 12 1 0 0)), (31, (o_if1 G Q mX12_isName (d + 1) (fun x => ¬ x = 0) 38)), (34, (o_ci 1)), (35, (o_go G Q mX12_isName (d + 1) 39)), (38, (o_ci 0)), (100000, o_go G Q mX12_isName (d + 1) 39), (39, (o_ret Q true))]
set_option maxRecDepth 100000 in
set_option maxHeartbeats 4000000 in
theorem kX12_isName (G : ms_G) (Q : ms_Q) (d : Nat) : ms_Oc G Q mX12_isName (d + 1) (tX12_isName G Q d) :=
  ms_oc1 rfl (s_aload_n rfl dX12_isName_0) <|
  ms_oc1 rfl (s_get (r := (RX12, TX12, 45)) rfl (by decide) rfl rfl kw_935 dX12_isName_1) <|
  ms_oc1 rfl (s_iconst dX12_isName_4 (by decide)) <|
  ms_oc1 rfl (s_icmpne (by decide) dX12_isName_5) <|
  ms_oc1 rfl (s_aload_n rfl dX12_isName_8) <|
  ms_oc1 rfl (s_get (r := (RX12, TX12, 45)) rfl (by decide) rfl rfl kw_937 dX12_isName_9) <|
  ms_oc1 rfl (s_iconst dX12_isName_12 (by decide)) <|
  ms_oc1 rfl (s_icmpeq (by decide) dX12_isName_13) <|
  ms_oc1 rfl (s_aload_n rfl dX12_isName_16) <|
  ms_oc1 rfl (s_ldc dX12_isName_17 kw_1084 (by decide) (by decide)) <|
  ms_oc1 rfl (s_invV (r := (RX12, TX12, 45)) rfl rfl kw_1085 kw_1087 kw_40 kw_88 kw_1088 ⟨by decide +kernel, by decide +kernel, by decide +kernel⟩ (by decide) dX12_isName_19) <|
  ms_oc1 rfl (s_ifne (by decide) dX12_isName_22) <|
  ms_oc1 rfl (s_aload_n rfl dX12_isName_25) <|
  ms_oc1 rfl (s_ldc dX12_isName_26 kw_1097 (by decide) (by decide)) <|
  ms_oc1 rfl (s_invV (r := (RX12, TX12, 45)) rfl rfl kw_1085 kw_1087 kw_40 kw_88 kw_1088 ⟨by decide +kernel, by decide +kernel, by decide +kernel⟩ (by decide) dX12_isName_28) <|
  ms_oc1 rfl (s_ifne (by decide) dX12_isName_31) <|
  ms_oc1 rfl (s_iconst dX12_isName_34 (by decide)) <|
  ms_oc1 rfl (s_goto (by decide) dX12_isName_35) <|
  ms_occ (s_iconst dX12_isName_38 (by decide)) <|
  ms_oc0 (s_iret (b := true) rfl dX12_isName_39)

def tX12_find (G : ms_G) (Q : ms_Q) (d : Nat) : List (Nat × ms_T) := [(0, (o_ci 0)), (1, (o_st 2 0)), (100000, o_go G Q mX12_find (d + 1) 2), (2, (o_ld 2 0)), (3, (o_ld 0 2)), (4, (o_get 12 20 0)), (7, (o_if2 G Q mX12_find (d + 1) (fun a b => b ≤ a) 33)), (10, (o_ld 0 2)), (11, (o_get 12 18 2)), (14, (o_ld 2 0)), (15, (o_ald 100 0)), (16, (o_ld 1 0)), (17, (o_if2 G Q mX12_find (d + 1) (fun a b => ¬ a = b) 27)), (20, (o_ld 0 2)), (21, (o_get 12 19 2)), (24, (o_ld 2 0)), (25, (o_ald 100 0)), (26, (o_ret Q false)), (27, (o_inc 2 1)), (30, (o_go G Q mX12_find (d + 1) 2)), (33, (o_ci (-1))), (34, (o_ret Q false))]
set_option maxRecDepth 100000 in
set_option maxHeartbeats 4000000 in
theorem kX12_find (G : ms_G) (Q : ms_Q) (d : Nat) : ms_Oc G Q mX12_find (d + 1) (tX12_find G Q d) :=
  ms_oc1 rfl (s_iconst dX12_find_0 (by decide)) <|
  ms_occ (s_istore_n rfl (by decide) dX12_find_1) <|
  ms_oc1 rfl (s_iload_n rfl dX12_find_2) <|
  ms_oc1 rfl (s_aload_n rfl dX12_find_3) <|
  ms_oc1 rfl (s_get (r := (RX12, TX12, 45)) rfl (by decide) rfl rfl kw_942 dX12_find_4) <|
  ms_oc1 rfl (s_icmpge (by decide) dX12_find_7) <|
  ms_oc1 rfl (s_aload_n rfl dX12_find_10) <|
  ms_oc1 rfl (s_get (r := (RX12, TX12, 45)) rfl (by decide) rfl rfl kw_940 dX12_find_11) <|
  ms_oc1 rfl (s_iload_n rfl dX12_find_14) <|
  ms_oc1 rfl (s_iaload dX12_find_15) <|
  ms_oc1 rfl (s_iload_n rfl dX12_find_16) <|
  ms_oc1 rfl (s_icmpne (by decide) dX12_find_17) <|
  ms_oc1 rfl (s_aload_n rfl dX12_find_20) <|
  ms_oc1 rfl (s_get (r := (RX12, TX12, 45)) rfl (by decide) rfl rfl kw_941 dX12_find_21) <|
  ms_oc1 rfl (s_iload_n rfl dX12_find_24) <|
  ms_oc1 rfl (s_iaload dX12_find_25) <|
  ms_oc1 rfl (s_iret (b := false) rfl dX12_find_26) <|
  ms_oc1 rfl (s_iinc (by decide) dX12_find_27) <|
  ms_oc1 rfl (s_goto (by decide) dX12_find_30) <|
  ms_oc1 rfl (s_iconst dX12_find_33 (by decide)) <|
  ms_oc0 (s_iret (b := false) rfl dX12_find_34)

def tX12_gives (G : ms_G) (Q : ms_Q) (d : Nat) : List (Nat × ms_T) := [(0, (o_ld 0 2)), (1, (o_get 12 18 2)), (4, (o_ld 0 2)), (5, (o_get 12 20 0)), (8, (o_ld 1 0)), (9, (o_ast 100 0 (fun x => x))), (10, (o_ld 0 2)), (11, (o_get 12 19 2)), (14, (o_ld 0 2)), (15, (o_get 12 20 0)), (18, (o_ld 2 0)), (19, (o_ast 100 0 (fun x => x))), (20, (o_ld 0 2)), (21, o_dup), (22, (o_get 12 20 0)), (25, (o_ci 1)), (26, (o_bin (fun a b => w32 (a + b)))), (27, (o_put 12 20 0)), (30, (o_vret Q))]
set_option maxRecDepth 100000 in
set_option maxHeartbeats 4000000 in
theorem kX12_gives (G : ms_G) (Q : ms_Q) (d : Nat) : ms_Oc G Q mX12_gives (d + 1) (tX12_gives G Q d) :=
  ms_oc1 rfl (s_aload_n rfl dX12_gives_0) <|
  ms_oc1 rfl (s_get (r := (RX12, TX12, 45)) rfl (by decide) rfl rfl kw_940 dX12_gives_1) <|
  ms_oc1 rfl (s_aload_n rfl dX12_gives_4) <|
  ms_oc1 rfl (s_get (r := (RX12, TX12, 45)) rfl (by decide) rfl rfl kw_942 dX12_gives_5) <|
  ms_oc1 rfl (s_iload_n rfl dX12_gives_8) <|
  ms_oc1 rfl (s_iastore dX12_gives_9) <|
  ms_oc1 rfl (s_aload_n rfl dX12_gives_10) <|
  ms_oc1 rfl (s_get (r := (RX12, TX12, 45)) rfl (by decide) rfl rfl kw_941 dX12_gives_11) <|
  ms_oc1 rfl (s_aload_n rfl dX12_gives_14) <|
  ms_oc1 rfl (s_get (r := (RX12, TX12, 45)) rfl (by decide) rfl rfl kw_942 dX12_gives_15) <|
  ms_oc1 rfl (s_iload_n rfl dX12_gives_18) <|
  ms_oc1 rfl (s_iastore dX12_gives_19) <|
  ms_oc1 rfl (s_aload_n rfl dX12_gives_20) <|
  ms_oc1 rfl (s_dup dX12_gives_21) <|
  ms_oc1 rfl (s_get (r := (RX12, TX12, 45)) rfl (by decide) rfl rfl kw_942 dX12_gives_22) <|
  ms_oc1 rfl (s_iconst dX12_gives_25 (by decide)) <|
  ms_oc1 rfl (s_iadd dX12_gives_26) <|
  ms_oc1 rfl (s_put (r := (RX12, TX12, 45)) rfl (by decide) rfl rfl (ms_nar0 rfl) (Or.inl rfl) kw_942 dX12_gives_27) <|
  ms_oc0 (s_vret rfl dX12_gives_30)

def tX12_baseLine (G : ms_G) (Q : ms_Q) (d : Nat) : List (Nat × ms_T) := [(0, (o_ld 0 2)), (1, (o_ci (67173))), (3, (o_invV G d mX12_is 12 1 0 0)), (6, (o_if1 G Q mX12_baseLine (d + 1) (fun x => ¬ x = 0) 15)), (9, (o_ld 0 2)), (10, (o_ci 1)), (11, (o_invV G d mX12_bad 12 1 0 0)), (14, (o_ret Q true)), (15, (o_ld 0 2)), (16, (o_invV G d mX12_go 12 0 0 0)), (100000, o_go G Q mX12_baseLine (d + 1) 19), (19, (o_ld 0 2)), (20, (o_invV G d mX12_isName 12 0 0 0)), (23, (o_if1 G Q mX12_baseLine (d + 1) (fun x => ¬ x = 0) 32)), (26, (o_ld 0 2)), (27, (o_ci 1)), (28, (o_invV G d mX12_bad 12 1 0 0)), (31, (o_ret Q true)), (32, (o_ld 0 2)), (33, (o_ld 0 2)), (34, (o_get 12 15 0)), (37, (o_invV G d mX12_find 12 1 0 0)), (40, (o_ci (-1))), (41, (o_if2 G Q mX12_baseLine (d + 1) (fun a b => a = b) 50)), (44, (o_ld 0 2)), (45, (o_ci 2)), (46, (o_invV G d mX12_bad 12 1 0 0)), (49, (o_ret Q true)), (50, (o_ld 0 2)), (51, (o_get 12 2 2)), (54, (o_ci 0)), (55, (o_ald 100 0)), (56, (o_ci 4)), (57, (o_if2 G Q mX12_baseLine (d + 1) (fun a b => ¬ a = b) 66)), (60, (o_ld 0 2)), (61, (o_ci 5)), (62, (o_invV G d mX12_bad 12 1 0 0)), (65, (o_ret Q true)), (66, (o_ld 0 2)), (67, (o_ld 0 2)), (68, (o_get 12 15 0)), (71, (o_ld 0 2)), (72, (o_get 12 2 2)), (75, (o_ci 0)), (76, (o_ald 100 0)), (77, (o_invV G d mX12_gives 12 2 0 0)), (80, (o_ld 0 2)), (81, (o_get 12 2 2)), (84, (o_ci 0)), (85, o_dup2), (86, (o_ald 100 0)), (87, (o_ci 1)), (88, (o_bin (fun a b => w32 (a + b)))), (89, (o_ast 100 0 (fun x => x))), (90, (o_ld 0 2)), (91, (o_invV G d mX12_go 12 0 0 0)), (94, (o_ld 0 2)), (95, (o_ci 59)), (97, (o_invV G d mX12_isSign 12 1 0 0)), (100, (o_if1 G Q mX12_baseLine (d + 1) (fun x => x = 0) 19)), (103, (o_ld 0 2)), (104, (o_invV G d mX12_go 12 0 0 0)), (107, (o_ci 1)), (108, (o_ret Q true))]
set_option maxRecDepth 100000 in
set_option maxHeartbeats 4000000 in
theorem kX12_baseLine (G : ms_G) (Q : ms_Q) (d : Nat) : ms_Oc G Q mX12_baseLine (d + 1) (tX12_baseLine G Q d) :=
  ms_oc1 rfl (s_aload_n rfl dX12_baseLine_0) <|
  ms_oc1 rfl (s_ldc dX12_baseLine_1 kw_1084 (by decide) (by decide)) <|
  ms_oc1 rfl (s_invV (r := (RX12, TX12, 45)) rfl rfl kw_1085 kw_1087 kw_40 kw_88 kw_1088 ⟨by decide +kernel, by decide +kernel, by decide +kernel⟩ (by decide) dX12_baseLine_3) <|
  ms_oc1 rfl (s_ifne (by decide) dX12_baseLine_6) <|
  ms_oc1 rfl (s_aload_n rfl dX12_baseLine_9) <|
  ms_oc1 rfl (s_iconst dX12_baseLine_10 (by decide)) <|
  ms_oc1 rfl (s_invV (r := (RX12, TX12, 45)) rfl rfl kw_1089 kw_1091 kw_41 kw_88 kw_1092 ⟨by decide +kernel, by decide +kernel, by decide +kernel⟩ (by decide) dX12_baseLine_11) <|
  ms_oc1 rfl (s_iret (b := true) rfl dX12_baseLine_14) <|
  ms_oc1 rfl (s_aload_n rfl dX12_baseLine_15) <|
  ms_occ (s_invV (r := (RX12, TX12, 45)) rfl rfl kw_1068 kw_1070 kw_37 kw_88 kw_1071 ⟨by decide +kernel, by decide +kernel, by decide +kernel⟩ (by decide) dX12_baseLine_16) <|
  ms_oc1 rfl (s_aload_n rfl dX12_baseLine_19) <|
  ms_oc1 rfl (s_invV (r := (RX12, TX12, 45)) rfl rfl kw_1093 kw_1095 kw_42 kw_88 kw_1096 ⟨by decide +kernel, by decide +kernel, by decide +kernel⟩ (by decide) dX12_baseLine_20) <|
  ms_oc1 rfl (s_ifne (by decide) dX12_baseLine_23) <|
  ms_oc1 rfl (s_aload_n rfl dX12_baseLine_26) <|
  ms_oc1 rfl (s_iconst dX12_baseLine_27 (by decide)) <|
  ms_oc1 rfl (s_invV (r := (RX12, TX12, 45)) rfl rfl kw_1089 kw_1091 kw_41 kw_88 kw_1092 ⟨by decide +kernel, by decide +kernel, by decide +kernel⟩ (by decide) dX12_baseLine_28) <|
  ms_oc1 rfl (s_iret (b := true) rfl dX12_baseLine_31) <|
  ms_oc1 rfl (s_aload_n rfl dX12_baseLine_32) <|
  ms_oc1 rfl (s_aload_n rfl dX12_baseLine_33) <|
  ms_oc1 rfl (s_get (r := (RX12, TX12, 45)) rfl (by decide) rfl rfl kw_937 dX12_baseLine_34) <|
  ms_oc1 rfl (s_invV (r := (RX12, TX12, 45)) rfl rfl kw_1098 kw_1100 kw_43 kw_88 kw_1101 ⟨by decide +kernel, by decide +kernel, by decide +kernel⟩ (by decide) dX12_baseLine_37) <|
  ms_oc1 rfl (s_iconst dX12_baseLine_40 (by decide)) <|
  ms_oc1 rfl (s_icmpeq (by decide) dX12_baseLine_41) <|
  ms_oc1 rfl (s_aload_n rfl dX12_baseLine_44) <|
  ms_oc1 rfl (s_iconst dX12_baseLine_45 (by decide)) <|
  ms_oc1 rfl (s_invV (r := (RX12, TX12, 45)) rfl rfl kw_1089 kw_1091 kw_41 kw_88 kw_1092 ⟨by decide +kernel, by decide +kernel, by decide +kernel⟩ (by decide) dX12_baseLine_46) <|
  ms_oc1 rfl (s_iret (b := true) rfl dX12_baseLine_49) <|
  ms_oc1 rfl (s_aload_n rfl dX12_baseLine_50) <|
  ms_oc1 rfl (s_get (r := (RX12, TX12, 45)) rfl (by decide) rfl rfl kw_924 dX12_baseLine_51) <|
  ms_oc1 rfl (s_iconst dX12_baseLine_54 (by decide)) <|
  ms_oc1 rfl (s_iaload dX12_baseLine_55) <|
  ms_oc1 rfl (s_iconst dX12_baseLine_56 (by decide)) <|
  ms_oc1 rfl (s_icmpne (by decide) dX12_baseLine_57) <|
  ms_oc1 rfl (s_aload_n rfl dX12_baseLine_60) <|
  ms_oc1 rfl (s_iconst dX12_baseLine_61 (by decide)) <|
  ms_oc1 rfl (s_invV (r := (RX12, TX12, 45)) rfl rfl kw_1089 kw_1091 kw_41 kw_88 kw_1092 ⟨by decide +kernel, by decide +kernel, by decide +kernel⟩ (by decide) dX12_baseLine_62) <|
  ms_oc1 rfl (s_iret (b := true) rfl dX12_baseLine_65) <|
  ms_oc1 rfl (s_aload_n rfl dX12_baseLine_66) <|
  ms_oc1 rfl (s_aload_n rfl dX12_baseLine_67) <|
  ms_oc1 rfl (s_get (r := (RX12, TX12, 45)) rfl (by decide) rfl rfl kw_937 dX12_baseLine_68) <|
  ms_oc1 rfl (s_aload_n rfl dX12_baseLine_71) <|
  ms_oc1 rfl (s_get (r := (RX12, TX12, 45)) rfl (by decide) rfl rfl kw_924 dX12_baseLine_72) <|
  ms_oc1 rfl (s_iconst dX12_baseLine_75 (by decide)) <|
  ms_oc1 rfl (s_iaload dX12_baseLine_76) <|
  ms_oc1 rfl (s_invV (r := (RX12, TX12, 45)) rfl rfl kw_1102 kw_1104 kw_44 kw_88 kw_1105 ⟨by decide +kernel, by decide +kernel, by decide +kernel⟩ (by decide) dX12_baseLine_77) <|
  ms_oc1 rfl (s_aload_n rfl dX12_baseLine_80) <|
  ms_oc1 rfl (s_get (r := (RX12, TX12, 45)) rfl (by decide) rfl rfl kw_924 dX12_baseLine_81) <|
  ms_oc1 rfl (s_iconst dX12_baseLine_84 (by decide)) <|
  ms_oc1 rfl (s_dup2 dX12_baseLine_85) <|
  ms_oc1 rfl (s_iaload dX12_baseLine_86) <|
  ms_oc1 rfl (s_iconst dX12_baseLine_87 (by decide)) <|
  ms_oc1 rfl (s_iadd dX12_baseLine_88) <|
  ms_oc1 rfl (s_iastore dX12_baseLine_89) <|
  ms_oc1 rfl (s_aload_n rfl dX12_baseLine_90) <|
  ms_oc1 rfl (s_invV (r := (RX12, TX12, 45)) rfl rfl kw_1068 kw_1070 kw_37 kw_88 kw_1071 ⟨by decide +kernel, by decide +kernel, by decide +kernel⟩ (by decide) dX12_baseLine_91) <|
  ms_oc1 rfl (s_aload_n rfl dX12_baseLine_94) <|
  ms_oc1 rfl (s_bipush dX12_baseLine_95 (by decide) (by decide)) <|
  ms_oc1 rfl (s_invV (r := (RX12, TX12, 45)) rfl rfl kw_1106 kw_1108 kw_45 kw_88 kw_1109 ⟨by decide +kernel, by decide +kernel, by decide +kernel⟩ (by decide) dX12_baseLine_97) <|
  ms_oc1 rfl (s_ifeq (by decide) dX12_baseLine_100) <|
  ms_oc1 rfl (s_aload_n rfl dX12_baseLine_103) <|
  ms_oc1 rfl (s_invV (r := (RX12, TX12, 45)) rfl rfl kw_1068 kw_1070 kw_37 kw_88 kw_1071 ⟨by decide +kernel, by decide +kernel, by decide +kernel⟩ (by decide) dX12_baseLine_104) <|
  ms_oc1 rfl (s_iconst dX12_baseLine_107 (by decide)) <|
  ms_oc0 (s_iret (b := true) rfl dX12_baseLine_108)

def tX12_wantLine (G : ms_G) (Q : ms_Q) (d : Nat) : List (Nat × ms_T) := [(0, (o_ld 0 2)), (1, (o_invV G d mX12_go 12 0 0 0)), (100000, o_go G Q mX12_wantLine (d + 1) 4), (4, (o_ld 0 2)), (5, (o_invV G d mX12_isName 12 0 0 0)), (8, (o_if1 G Q mX12_wantLine (d + 1) (fun x => ¬ x = 0) 17)), (11, (o_ld 0 2)), (12, (o_ci 1)), (13, (o_invV G d mX12_bad 12 1 0 0)), (16, (o_ret Q true)), (17, (o_ld 0 2)), (18, (o_ld 0 2)), (19, (o_get 12 15 0)), (22, (o_invV G d mX12_find 12 1 0 0)), (25, (o_st 1 0)), (26, (o_ld 1 0)), (27, (o_ci (-1))), (28, (o_if2 G Q mX12_wantLine (d + 1) (fun a b => ¬ a = b) 37)), (31, (o_ld 0 2)), (32, (o_ci 3)), (33, (o_invV G d mX12_bad 12 1 0 0)), (36, (o_ret Q true)), (37, (o_ld 0 2)), (38, (o_get 12 2 2)), (41, (o_ci 2)), (42, (o_ald 100 0)), (43, (o_ci 4)), (44, (o_if2 G Q mX12_wantLine (d + 1) (fun a b => ¬ a = b) 53)), (47, (o_ld 0 2)), (48, (o_ci 5)), (49, (o_invV G d mX12_bad 12 1 0 0)), (52, (o_ret Q true)), (53, (o_ld 0 2)), (54, (o_get 12 2 2)), (57, (o_ci 123)), (59, (o_ld 0 2)), (60, (o_get 12 2 2)), (63, (o_ci 2)), (64, (o_ald 100 0)), (65, (o_bin (fun a b => w32 (a + b)))), (66, (o_ld 1 0)), (67, (o_ast 100 0 (fun x => x))), (68, (o_ld 0 2)), (69, (o_get 12 2 2)), (72, (o_ci 2)), (73, o_dup2), (74, (o_ald 100 0)), (75, (o_ci 1)), (76, (o_bin (fun a b => w32 (a + b)))), (77, (o_ast 100 0 (fun x => x))), (78, (o_ld 0 2)), (79, (o_invV G d mX12_go 12 0 0 0)), (82, (o_ld 0 2)), (83, (o_ci 59)), (85, (o_invV G d mX12_isSign 12 1 0 0)), (88, (o_if1 G Q mX12_wantLine (d + 1) (fun x => x = 0) 4)), (91, (o_ld 0 2)), (92, (o_invV G d mX12_go 12 0 0 0)), (95, (o_ld 0 2)), (96, (o_get 12 13 0)), (99, (o_if1 G Q mX12_wantLine (d + 1) (fun x => x = 0) 110)), (102, (o_ld 0 2)), (103, (o_ci 1)), (104, (o_invV G d mX12_bad 12 1 0 0)), (107, (o_if1 G Q mX12_wantLine (d + 1) (fun x => x = 0) 114)), (100000, o_go G Q mX12_wantLine (d + 1) 110), (110, (o_ci 1)), (111, (o_go G Q mX12_wantLine (d + 1) 115)), (114, (o_ci 0)), (100000, o_go G Q mX12_wantLine (d + 1) 115), (115, (o_ret Q true))]
set_option maxRecDepth 100000 in
set_option maxHeartbeats 4000000 in
theorem kX12_wantLine (G : ms_G) (Q : ms_Q) (d : Nat) : ms_Oc G Q mX12_wantLine (d + 1) (tX12_wantLine G Q d) :=
  ms_oc1 rfl (s_aload_n rfl dX12_wantLine_0) <|
  ms_occ (s_invV (r := (RX12, TX12, 45)) rfl rfl kw_1068 kw_1070 kw_37 kw_88 kw_1071 ⟨by decide +kernel, by decide +kernel, by decide +kernel⟩ (by decide) dX12_wantLine_1) <|
  ms_oc1 rfl (s_aload_n rfl dX12_wantLine_4) <|
  ms_oc1 rfl (s_invV (r := (RX12, TX12, 45)) rfl rfl kw_1093 kw_1095 kw_42 kw_88 kw_1096 ⟨by decide +kernel, by decide +kernel, by decide +kernel⟩ (by decide) dX12_wantLine_5) <|
  ms_oc1 rfl (s_ifne (by decide) dX12_wantLine_8) <|
  ms_oc1 rfl (s_aload_n rfl dX12_wantLine_11) <|
  ms_oc1 rfl (s_iconst dX12_wantLine_12 (by decide)) <|
  ms_oc1 rfl (s_invV (r := (RX12, TX12, 45)) rfl rfl kw_1089 kw_1091 kw_41 kw_88 kw_1092 ⟨by decide +kernel, by decide +kernel, by decide +kernel⟩ (by decide) dX12_wantLine_13) <|
  ms_oc1 rfl (s_iret (b := true) rfl dX12_wantLine_16) <|
  ms_oc1 rfl (s_aload_n rfl dX12_wantLine_17) <|
  ms_oc1 rfl (s_aload_n rfl dX12_wantLine_18) <|
  ms_oc1 rfl (s_get (r := (RX12, TX12, 45)) rfl (by decide) rfl rfl kw_937 dX12_wantLine_19) <|
  ms_oc1 rfl (s_invV (r := (RX12, TX12, 45)) rfl rfl kw_1098 kw_1100 kw_43 kw_88 kw_1101 ⟨by decide +kernel, by decide +kernel, by decide +kernel⟩ (by decide) dX12_wantLine_22) <|
  ms_oc1 rfl (s_istore_n rfl (by decide) dX12_wantLine_25) <|
  ms_oc1 rfl (s_iload_n rfl dX12_wantLine_26) <|
  ms_oc1 rfl (s_iconst dX12_wantLine_27 (by decide)) <|
  ms_oc1 rfl (s_icmpne (by decide) dX12_wantLine_28) <|
  ms_oc1 rfl (s_aload_n rfl dX12_wantLine_31) <|
  ms_oc1 rfl (s_iconst dX12_wantLine_32 (by decide)) <|
  ms_oc1 rfl (s_invV (r := (RX12, TX12, 45)) rfl rfl kw_1089 kw_1091 kw_41 kw_88 kw_1092 ⟨by decide +kernel, by decide +kernel, by decide +kernel⟩ (by decide) dX12_wantLine_33) <|
  ms_oc1 rfl (s_iret (b := true) rfl dX12_wantLine_36) <|
  ms_oc1 rfl (s_aload_n rfl dX12_wantLine_37) <|
  ms_oc1 rfl (s_get (r := (RX12, TX12, 45)) rfl (by decide) rfl rfl kw_924 dX12_wantLine_38) <|
  ms_oc1 rfl (s_iconst dX12_wantLine_41 (by decide)) <|
  ms_oc1 rfl (s_iaload dX12_wantLine_42) <|
  ms_oc1 rfl (s_iconst dX12_wantLine_43 (by decide)) <|
  ms_oc1 rfl (s_icmpne (by decide) dX12_wantLine_44) <|
  ms_oc1 rfl (s_aload_n rfl dX12_wantLine_47) <|
  ms_oc1 rfl (s_iconst dX12_wantLine_48 (by decide)) <|
  ms_oc1 rfl (s_invV (r := (RX12, TX12, 45)) rfl rfl kw_1089 kw_1091 kw_41 kw_88 kw_1092 ⟨by decide +kernel, by decide +kernel, by decide +kernel⟩ (by decide) dX12_wantLine_49) <|
  ms_oc1 rfl (s_iret (b := true) rfl dX12_wantLine_52) <|
  ms_oc1 rfl (s_aload_n rfl dX12_wantLine_53) <|
  ms_oc1 rfl (s_get (r := (RX12, TX12, 45)) rfl (by decide) rfl rfl kw_924 dX12_wantLine_54) <|
  ms_oc1 rfl (s_bipush dX12_wantLine_57 (by decide) (by decide)) <|
  ms_oc1 rfl (s_aload_n rfl dX12_wantLine_59) <|
  ms_oc1 rfl (s_get (r := (RX12, TX12, 45)) rfl (by decide) rfl rfl kw_924 dX12_wantLine_60) <|
  ms_oc1 rfl (s_iconst dX12_wantLine_63 (by decide)) <|
  ms_oc1 rfl (s_iaload dX12_wantLine_64) <|
  ms_oc1 rfl (s_iadd dX12_wantLine_65) <|
  ms_oc1 rfl (s_iload_n rfl dX12_wantLine_66) <|
  ms_oc1 rfl (s_iastore dX12_wantLine_67) <|
  ms_oc1 rfl (s_aload_n rfl dX12_wantLine_68) <|
  ms_oc1 rfl (s_get (r := (RX12, TX12, 45)) rfl (by decide) rfl rfl kw_924 dX12_wantLine_69) <|
  ms_oc1 rfl (s_iconst dX12_wantLine_72 (by decide)) <|
  ms_oc1 rfl (s_dup2 dX12_wantLine_73) <|
  ms_oc1 rfl (s_iaload dX12_wantLine_74) <|
  ms_oc1 rfl (s_iconst dX12_wantLine_75 (by decide)) <|
  ms_oc1 rfl (s_iadd dX12_wantLine_76) <|
  ms_oc1 rfl (s_iastore dX12_wantLine_77) <|
  ms_oc1 rfl (s_aload_n rfl dX12_wantLine_78) <|
  ms_oc1 rfl (s_invV (r := (RX12, TX12, 45)) rfl rfl kw_1068 kw_1070 kw_37 kw_88 kw_1071 ⟨by decide +kernel, by decide +kernel, by decide +kernel⟩ (by decide) dX12_wantLine_79) <|
  ms_oc1 rfl (s_aload_n rfl dX12_wantLine_82) <|
  ms_oc1 rfl (s_bipush dX12_wantLine_83 (by decide) (by decide)) <|
  ms_oc1 rfl (s_invV (r := (RX12, TX12, 45)) rfl rfl kw_1106 kw_1108 kw_45 kw_88 kw_1109 ⟨by decide +kernel, by decide +kernel, by decide +kernel⟩ (by decide) dX12_wantLine_85) <|
  ms_oc1 rfl (s_ifeq (by decide) dX12_wantLine_88) <|
  ms_oc1 rfl (s_aload_n rfl dX12_wantLine_91) <|
  ms_oc1 rfl (s_invV (r := (RX12, TX12, 45)) rfl rfl kw_1068 kw_1070 kw_37 kw_88 kw_1071 ⟨by decide +kernel, by decide +kernel, by decide +kernel⟩ (by decide) dX12_wantLine_92) <|
  ms_oc1 rfl (s_aload_n rfl dX12_wantLine_95) <|
  ms_oc1 rfl (s_get (r := (RX12, TX12, 45)) rfl (by decide) rfl rfl kw_935 dX12_wantLine_96) <|
  ms_oc1 rfl (s_ifeq (by decide) dX12_wantLine_99) <|
  ms_oc1 rfl (s_aload_n rfl dX12_wantLine_102) <|
  ms_oc1 rfl (s_iconst dX12_wantLine_103 (by decide)) <|
  ms_oc1 rfl (s_invV (r := (RX12, TX12, 45)) rfl rfl kw_1089 kw_1091 kw_41 kw_88 kw_1092 ⟨by decide +kernel, by decide +kernel, by decide +kernel⟩ (by decide) dX12_wantLine_104) <|
  ms_occ (s_ifeq (by decide) dX12_wantLine_107) <|
  ms_oc1 rfl (s_iconst dX12_wantLine_110 (by decide)) <|
  ms_oc1 rfl (s_goto (by decide) dX12_wantLine_111) <|
  ms_occ (s_iconst dX12_wantLine_114 (by decide)) <|
  ms_oc0 (s_iret (b := true) rfl dX12_wantLine_115)

def tX12_known (G : ms_G) (Q : ms_Q) (d : Nat) : List (Nat × ms_T) := [(0, (o_ld 0 2)), (1, (o_invV G d mX12_isName 12 0 0 0)), (4, (o_if1 G Q mX12_known (d + 1) (fun x => ¬ x = 0) 13)), (7, (o_ld 0 2)), (8, (o_ci 1)), (9, (o_invV G d mX12_bad 12 1 0 0)), (12, (o_ret Q true)), (13, (o_ld 0 2)), (14, (o_ld 0 2)), (15, (o_ld 0 2)), (16, (o_get 12 15 0)), (19, (o_invV G d mX12_find 12 1 0 0)), (22, (o_put 12 21 0)), (25, (o_ld 0 2)), (26, (o_get 12 21 0)), (29, (o_ci (-1))), (30, (o_if2 G Q mX12_known (d + 1) (fun a b => ¬ a = b) 39)), (33, (o_ld 0 2)), (34, (o_ci 3)), (35, (o_invV G d mX12_bad 12 1 0 0)), (38, (o_ret Q true)), (39, (o_ld 0 2)), (40, (o_invV G d mX12_go 12 0 0 0)), (43, (o_ci 1)), (44, (o_ret Q true))]
set_option maxRecDepth 100000 in
set_option maxHeartbeats 4000000 in
theorem kX12_known (G : ms_G) (Q : ms_Q) (d : Nat) : ms_Oc G Q mX12_known (d + 1) (tX12_known G Q d) :=
  ms_oc1 rfl (s_aload_n rfl dX12_known_0) <|
  ms_oc1 rfl (s_invV (r := (RX12, TX12, 45)) rfl rfl kw_1093 kw_1095 kw_42 kw_88 kw_1096 ⟨by decide +kernel, by decide +kernel, by decide +kernel⟩ (by decide) dX12_known_1) <|
  ms_oc1 rfl (s_ifne (by decide) dX12_known_4) <|
  ms_oc1 rfl (s_aload_n rfl dX12_known_7) <|
  ms_oc1 rfl (s_iconst dX12_known_8 (by decide)) <|
  ms_oc1 rfl (s_invV (r := (RX12, TX12, 45)) rfl rfl kw_1089 kw_1091 kw_41 kw_88 kw_1092 ⟨by decide +kernel, by decide +kernel, by decide +kernel⟩ (by decide) dX12_known_9) <|
  ms_oc1 rfl (s_iret (b := true) rfl dX12_known_12) <|
  ms_oc1 rfl (s_aload_n rfl dX12_known_13) <|
  ms_oc1 rfl (s_aload_n rfl dX12_known_14) <|
  ms_oc1 rfl (s_aload_n rfl dX12_known_15) <|
  ms_oc1 rfl (s_get (r := (RX12, TX12, 45)) rfl (by decide) rfl rfl kw_937 dX12_known_16) <|
  ms_oc1 rfl (s_invV (r := (RX12, TX12, 45)) rfl rfl kw_1098 kw_1100 kw_43 kw_88 kw_1101 ⟨by decide +kernel, by decide +kernel, by decide +kernel⟩ (by decide) dX12_known_19) <|
  ms_oc1 rfl (s_put (r := (RX12, TX12, 45)) rfl (by decide) rfl rfl (ms_nar0 rfl) (Or.inl rfl) kw_943 dX12_known_22) <|
  ms_oc1 rfl (s_aload_n rfl dX12_known_25) <|
  ms_oc1 rfl (s_get (r := (RX12, TX12, 45)) rfl (by decide) rfl rfl kw_943 dX12_known_26) <|
  ms_oc1 rfl (s_iconst dX12_known_29 (by decide)) <|
  ms_oc1 rfl (s_icmpne (by decide) dX12_known_30) <|
  ms_oc1 rfl (s_aload_n rfl dX12_known_33) <|
  ms_oc1 rfl (s_iconst dX12_known_34 (by decide)) <|
  ms_oc1 rfl (s_invV (r := (RX12, TX12, 45)) rfl rfl kw_1089 kw_1091 kw_41 kw_88 kw_1092 ⟨by decide +kernel, by decide +kernel, by decide +kernel⟩ (by decide) dX12_known_35) <|
  ms_oc1 rfl (s_iret (b := true) rfl dX12_known_38) <|
  ms_oc1 rfl (s_aload_n rfl dX12_known_39) <|
  ms_oc1 rfl (s_invV (r := (RX12, TX12, 45)) rfl rfl kw_1068 kw_1070 kw_37 kw_88 kw_1071 ⟨by decide +kernel, by decide +kernel, by decide +kernel⟩ (by decide) dX12_known_40) <|
  ms_oc1 rfl (s_iconst dX12_known_43 (by decide)) <|
  ms_oc0 (s_iret (b := true) rfl dX12_known_44)

def tX12_adds (G : ms_G) (Q : ms_Q) (d : Nat) : List (Nat × ms_T) := [(0, (o_ld 0 2)), (1, (o_get 12 22 2)), (4, (o_ld 0 2)), (5, (o_get 12 24 0)), (8, (o_ld 1 0)), (9, (o_ast 100 0 (fun x => x))), (10, (o_ld 0 2)), (11, (o_get 12 23 2)), (14, (o_ld 0 2)), (15, (o_get 12 24 0)), (18, (o_ld 2 0)), (19, (o_ast 100 0 (fun x => x))), (20, (o_ld 0 2)), (21, o_dup), (22, (o_get 12 24 0)), (25, (o_ci 1)), (26, (o_bin (fun a b => w32 (a + b)))), (27, (o_put 12 24 0)), (30, (o_ld 0 2)), (31, (o_get 12 2 2)), (34, (o_invS G d mX12_nodes 1 0 0)), (37, (o_ld 0 2)), (38, (o_get 12 24 0)), (41, (o_bin (fun a b => w32 (a + b)))), (42, (o_ci 1)), (43, (o_bin (fun a b => w32 (a - b)))), (44, (o_ret Q false))]
set_option maxRecDepth 100000 in
set_option maxHeartbeats 4000000 in
theorem kX12_adds (G : ms_G) (Q : ms_Q) (d : Nat) : ms_Oc G Q mX12_adds (d + 1) (tX12_adds G Q d) :=
  ms_oc1 rfl (s_aload_n rfl dX12_adds_0) <|
  ms_oc1 rfl (s_get (r := (RX12, TX12, 45)) rfl (by decide) rfl rfl kw_944 dX12_adds_1) <|
  ms_oc1 rfl (s_aload_n rfl dX12_adds_4) <|
  ms_oc1 rfl (s_get (r := (RX12, TX12, 45)) rfl (by decide) rfl rfl kw_946 dX12_adds_5) <|
  ms_oc1 rfl (s_iload_n rfl dX12_adds_8) <|
  ms_oc1 rfl (s_iastore dX12_adds_9) <|
  ms_oc1 rfl (s_aload_n rfl dX12_adds_10) <|
  ms_oc1 rfl (s_get (r := (RX12, TX12, 45)) rfl (by decide) rfl rfl kw_945 dX12_adds_11) <|
  ms_oc1 rfl (s_aload_n rfl dX12_adds_14) <|
  ms_oc1 rfl (s_get (r := (RX12, TX12, 45)) rfl (by decide) rfl rfl kw_946 dX12_adds_15) <|
  ms_oc1 rfl (s_iload_n rfl dX12_adds_18) <|
  ms_oc1 rfl (s_iastore dX12_adds_19) <|
  ms_oc1 rfl (s_aload_n rfl dX12_adds_20) <|
  ms_oc1 rfl (s_dup dX12_adds_21) <|
  ms_oc1 rfl (s_get (r := (RX12, TX12, 45)) rfl (by decide) rfl rfl kw_946 dX12_adds_22) <|
  ms_oc1 rfl (s_iconst dX12_adds_25 (by decide)) <|
  ms_oc1 rfl (s_iadd dX12_adds_26) <|
  ms_oc1 rfl (s_put (r := (RX12, TX12, 45)) rfl (by decide) rfl rfl (ms_nar0 rfl) (Or.inl rfl) kw_946 dX12_adds_27) <|
  ms_oc1 rfl (s_aload_n rfl dX12_adds_30) <|
  ms_oc1 rfl (s_get (r := (RX12, TX12, 45)) rfl (by decide) rfl rfl kw_924 dX12_adds_31) <|
  ms_oc1 rfl (s_invS kw_1122 kw_1123 kw_88 kw_1124 ⟨by decide +kernel, by decide +kernel, by decide +kernel⟩ (by decide) dX12_adds_34) <|
  ms_oc1 rfl (s_aload_n rfl dX12_adds_37) <|
  ms_oc1 rfl (s_get (r := (RX12, TX12, 45)) rfl (by decide) rfl rfl kw_946 dX12_adds_38) <|
  ms_oc1 rfl (s_iadd dX12_adds_41) <|
  ms_oc1 rfl (s_iconst dX12_adds_42 (by decide)) <|
  ms_oc1 rfl (s_isub dX12_adds_43) <|
  ms_oc0 (s_iret (b := false) rfl dX12_adds_44)

def tX12_highest (G : ms_G) (Q : ms_Q) (d : Nat) : List (Nat × ms_T) := [(0, (o_ci 1)), (1, (o_st 2 0)), (100000, o_go G Q mX12_highest (d + 1) 2), (2, (o_ci 2)), (3, (o_ld 2 0)), (4, (o_bin (fun a b => w32 (a * b)))), (5, (o_ld 1 0)), (6, (o_if2 G Q mX12_highest (d + 1) (fun a b => b < a) 16)), (9, (o_ld 2 0)), (10, (o_ci 2)), (11, (o_bin (fun a b => w32 (a * b)))), (12, (o_st 2 0)), (13, (o_go G Q mX12_highest (d + 1) 2)), (16, (o_ld 2 0)), (17, (o_ret Q false))]
set_option maxRecDepth 100000 in
set_option maxHeartbeats 4000000 in
theorem kX12_highest (G : ms_G) (Q : ms_Q) (d : Nat) : ms_Oc G Q mX12_highest (d + 1) (tX12_highest G Q d) :=
  ms_oc1 rfl (s_iconst dX12_highest_0 (by decide)) <|
  ms_occ (s_istore_n rfl (by decide) dX12_highest_1) <|
  ms_oc1 rfl (s_iconst dX12_highest_2 (by decide)) <|
  ms_oc1 rfl (s_iload_n rfl dX12_highest_3) <|
  ms_oc1 rfl (s_imul dX12_highest_4) <|
  ms_oc1 rfl (s_iload_n rfl dX12_highest_5) <|
  ms_oc1 rfl (s_icmpgt (by decide) dX12_highest_6) <|
  ms_oc1 rfl (s_iload_n rfl dX12_highest_9) <|
  ms_oc1 rfl (s_iconst dX12_highest_10 (by decide)) <|
  ms_oc1 rfl (s_imul dX12_highest_11) <|
  ms_oc1 rfl (s_istore_n rfl (by decide) dX12_highest_12) <|
  ms_oc1 rfl (s_goto (by decide) dX12_highest_13) <|
  ms_oc1 rfl (s_iload_n rfl dX12_highest_16) <|
  ms_oc0 (s_iret (b := false) rfl dX12_highest_17)

def tX12_power (G : ms_G) (Q : ms_Q) (d : Nat) : List (Nat × ms_T) := [(0, (o_ld 0 2)), (1, (o_get 12 13 0)), (4, (o_ci 2)), (5, (o_if2 G Q mX12_power (d + 1) (fun a b => a = b) 14)), (8, (o_ld 0 2)), (9, (o_ci 1)), (10, (o_invV G d mX12_bad 12 1 0 0)), (13, (o_ret Q true)), (14, (o_ld 0 2)), (15, (o_get 12 14 0)), (18, (o_un 0 1 (fun a => a))), (19, (o_cl (2))), (22, (o_cl (9999))), (25, (o_invS G d mX12_within 3 0 0)), (28, (o_if1 G Q mX12_power (d + 1) (fun x => ¬ x = 0) 37)), (31, (o_ld 0 2)), (32, (o_ci 4)), (33, (o_invV G d mX12_bad 12 1 0 0)), (36, (o_ret Q true)), (37, (o_ld 1 0)), (38, (o_st 2 0)), (39, (o_ld 0 2)), (40, (o_ld 0 2)), (41, (o_get 12 14 0)), (44, (o_invV G d mX12_highest 12 1 0 0)), (47, (o_ci 2)), (48, (o_dv wdiv)), (49, (o_st 3 0)), (100000, o_go G Q mX12_power (d + 1) 50), (50, (o_ld 3 0)), (51, (o_if1 G Q mX12_power (d + 1) (fun x => x ≤ 0) 84)), (54, (o_ld 0 2)), (55, (o_ld 2 0)), (56, (o_ld 2 0)), (57, (o_invV G d mX12_adds 12 2 0 0)), (60, (o_st 2 0)), (61, (o_ld 0 2)), (62, (o_get 12 14 0)), (65, (o_ld 3 0)), (66, (o_bin wand)), (67, (o_if1 G Q mX12_power (d + 1) (fun x => x ≤ 0) 77)), (70, (o_ld 0 2)), (71, (o_ld 2 0)), (72, (o_ld 1 0)), (73, (o_invV G d mX12_adds 12 2 0 0)), (76, (o_st 2 0)), (100000, o_go G Q mX12_power (d + 1) 77), (77, (o_ld 3 0)), (78, (o_ci 2)), (79, (o_dv wdiv)), (80, (o_st 3 0)), (81, (o_go G Q mX12_power (d + 1) 50)), (84, (o_ld 0 2)), (85, (o_invV G d mX12_go 12 0 0 0)), (88, (o_ci 1)), (89, (o_ret Q true))]
set_option maxRecDepth 100000 in
set_option maxHeartbeats 4000000 in
theorem kX12_power (G : ms_G) (Q : ms_Q) (d : Nat) : ms_Oc G Q mX12_power (d + 1) (tX12_power G Q d) :=
  ms_oc1 rfl (s_aload_n rfl dX12_power_0) <|
  ms_oc1 rfl (s_get (r := (RX12, TX12, 45)) rfl (by decide) rfl rfl kw_935 dX12_power_1) <|
  ms_oc1 rfl (s_iconst dX12_power_4 (by decide)) <|
  ms_oc1 rfl (s_icmpeq (by decide) dX12_power_5) <|
  ms_oc1 rfl (s_aload_n rfl dX12_power_8) <|
  ms_oc1 rfl (s_iconst dX12_power_9 (by decide)) <|
  ms_oc1 rfl (s_invV (r := (RX12, TX12, 45)) rfl rfl kw_1089 kw_1091 kw_41 kw_88 kw_1092 ⟨by decide +kernel, by decide +kernel, by decide +kernel⟩ (by decide) dX12_power_10) <|
  ms_oc1 rfl (s_iret (b := true) rfl dX12_power_13) <|
  ms_oc1 rfl (s_aload_n rfl dX12_power_14) <|
  ms_oc1 rfl (s_get (r := (RX12, TX12, 45)) rfl (by decide) rfl rfl kw_936 dX12_power_15) <|
  ms_oc1 rfl (s_i2l dX12_power_18) <|
  ms_oc1 rfl (s_ldc2 dX12_power_19 kw_1129 (by decide) (by decide)) <|
  ms_oc1 rfl (s_ldc2 dX12_power_22 kw_1130 (by decide) (by decide)) <|
  ms_oc1 rfl (s_invS kw_1062 kw_1063 kw_88 kw_1064 ⟨by decide +kernel, by decide +kernel, by decide +kernel⟩ (by decide) dX12_power_25) <|
  ms_oc1 rfl (s_ifne (by decide) dX12_power_28) <|
  ms_oc1 rfl (s_aload_n rfl dX12_power_31) <|
  ms_oc1 rfl (s_iconst dX12_power_32 (by decide)) <|
  ms_oc1 rfl (s_invV (r := (RX12, TX12, 45)) rfl rfl kw_1089 kw_1091 kw_41 kw_88 kw_1092 ⟨by decide +kernel, by decide +kernel, by decide +kernel⟩ (by decide) dX12_power_33) <|
  ms_oc1 rfl (s_iret (b := true) rfl dX12_power_36) <|
  ms_oc1 rfl (s_iload_n rfl dX12_power_37) <|
  ms_oc1 rfl (s_istore_n rfl (by decide) dX12_power_38) <|
  ms_oc1 rfl (s_aload_n rfl dX12_power_39) <|
  ms_oc1 rfl (s_aload_n rfl dX12_power_40) <|
  ms_oc1 rfl (s_get (r := (RX12, TX12, 45)) rfl (by decide) rfl rfl kw_936 dX12_power_41) <|
  ms_oc1 rfl (s_invV (r := (RX12, TX12, 45)) rfl rfl kw_1131 kw_1133 kw_50 kw_88 kw_1134 ⟨by decide +kernel, by decide +kernel, by decide +kernel⟩ (by decide) dX12_power_44) <|
  ms_oc1 rfl (s_iconst dX12_power_47 (by decide)) <|
  ms_oc1 rfl (s_idiv dX12_power_48) <|
  ms_occ (s_istore_n rfl (by decide) dX12_power_49) <|
  ms_oc1 rfl (s_iload_n rfl dX12_power_50) <|
  ms_oc1 rfl (s_ifle (by decide) dX12_power_51) <|
  ms_oc1 rfl (s_aload_n rfl dX12_power_54) <|
  ms_oc1 rfl (s_iload_n rfl dX12_power_55) <|
  ms_oc1 rfl (s_iload_n rfl dX12_power_56) <|
  ms_oc1 rfl (s_invV (r := (RX12, TX12, 45)) rfl rfl kw_1118 kw_1120 kw_48 kw_88 kw_1121 ⟨by decide +kernel, by decide +kernel, by decide +kernel⟩ (by decide) dX12_power_57) <|
  ms_oc1 rfl (s_istore_n rfl (by decide) dX12_power_60) <|
  ms_oc1 rfl (s_aload_n rfl dX12_power_61) <|
  ms_oc1 rfl (s_get (r := (RX12, TX12, 45)) rfl (by decide) rfl rfl kw_936 dX12_power_62) <|
  ms_oc1 rfl (s_iload_n rfl dX12_power_65) <|
  ms_oc1 rfl (s_iand dX12_power_66) <|
  ms_oc1 rfl (s_ifle (by decide) dX12_power_67) <|
  ms_oc1 rfl (s_aload_n rfl dX12_power_70) <|
  ms_oc1 rfl (s_iload_n rfl dX12_power_71) <|
  ms_oc1 rfl (s_iload_n rfl dX12_power_72) <|
  ms_oc1 rfl (s_invV (r := (RX12, TX12, 45)) rfl rfl kw_1118 kw_1120 kw_48 kw_88 kw_1121 ⟨by decide +kernel, by decide +kernel, by decide +kernel⟩ (by decide) dX12_power_73) <|
  ms_occ (s_istore_n rfl (by decide) dX12_power_76) <|
  ms_oc1 rfl (s_iload_n rfl dX12_power_77) <|
  ms_oc1 rfl (s_iconst dX12_power_78 (by decide)) <|
  ms_oc1 rfl (s_idiv dX12_power_79) <|
  ms_oc1 rfl (s_istore_n rfl (by decide) dX12_power_80) <|
  ms_oc1 rfl (s_goto (by decide) dX12_power_81) <|
  ms_oc1 rfl (s_aload_n rfl dX12_power_84) <|
  ms_oc1 rfl (s_invV (r := (RX12, TX12, 45)) rfl rfl kw_1068 kw_1070 kw_37 kw_88 kw_1071 ⟨by decide +kernel, by decide +kernel, by decide +kernel⟩ (by decide) dX12_power_85) <|
  ms_oc1 rfl (s_iconst dX12_power_88 (by decide)) <|
  ms_oc0 (s_iret (b := true) rfl dX12_power_89)

def tX12_statement (G : ms_G) (Q : ms_Q) (d : Nat) : List (Nat × ms_T) := [(0, (o_ld 0 2)), (1, (o_invV G d mX12_isName 12 0 0 0)), (4, (o_if1 G Q mX12_statement (d + 1) (fun x => ¬ x = 0) 13)), (7, (o_ld 0 2)), (8, (o_ci 1)), (9, (o_invV G d mX12_bad 12 1 0 0)), (12, (o_ret Q true)), (13, (o_ld 0 2)), (14, (o_ld 0 2)), (15, (o_get 12 15 0)), (18, (o_invV G d mX12_find 12 1 0 0)), (21, (o_ci (-1))), (22, (o_if2 G Q mX12_statement (d + 1) (fun a b => a = b) 31)), (25, (o_ld 0 2)), (26, (o_ci 2)), (27, (o_invV G d mX12_bad 12 1 0 0)), (30, (o_ret Q true)), (31, (o_ld 0 2)), (32, (o_get 12 15 0)), (35, (o_st 1 0)), (36, (o_ld 0 2)), (37, (o_invV G d mX12_go 12 0 0 0)), (40, (o_ld 0 2)), (41, (o_ci 61)), (43, (o_invV G d mX12_isSign 12 1 0 0)), (46, (o_if1 G Q mX12_statement (d + 1) (fun x => ¬ x = 0) 55)), (49, (o_ld 0 2)), (50, (o_ci 1)), (51, (o_invV G d mX12_bad 12 1 0 0)), (54, (o_ret Q true)), (55, (o_ld 0 2)), (56, (o_invV G d mX12_go 12 0 0 0)), (59, (o_ld 0 2)), (60, (o_invV G d mX12_known 12 0 0 0)), (63, (o_if1 G Q mX12_statement (d + 1) (fun x => ¬ x = 0) 68)), (66, (o_ci 0)), (67, (o_ret Q true)), (68, (o_ld 0 2)), (69, (o_get 12 21 0)), (72, (o_st 2 0)), (73, (o_ld 0 2)), (74, (o_ci 0)), (75, (o_put 12 24 0)), (78, (o_ld 0 2)), (79, (o_ci 42)), (81, (o_invV G d mX12_isSign 12 1 0 0)), (84, (o_if1 G Q mX12_statement (d + 1) (fun x => x = 0) 113)), (87, (o_ld 0 2)), (88, (o_invV G d mX12_go 12 0 0 0)), (91, (o_ld 0 2)), (92, (o_invV G d mX12_known 12 0 0 0)), (95, (o_if1 G Q mX12_statement (d + 1) (fun x => ¬ x = 0) 100)), (98, (o_ci 0)), (99, (o_ret Q true)), (100, (o_ld 0 2)), (101, (o_ld 2 0)), (102, (o_ld 0 2)), (103, (o_get 12 21 0)), (106, (o_invV G d mX12_adds 12 2 0 0)), (109, o_pop), (110, (o_go G Q mX12_statement (d + 1) 142)), (113, (o_ld 0 2)), (114, (o_ci 94)), (116, (o_invV G d mX12_isSign 12 1 0 0)), (119, (o_if1 G Q mX12_statement (d + 1) (fun x => x = 0) 136)), (122, (o_ld 0 2)), (123, (o_invV G d mX12_go 12 0 0 0)), (126, (o_ld 0 2)), (127, (o_ld 2 0)), (128, (o_invV G d mX12_power 12 1 0 0)), (131, (o_if1 G Q mX12_statement (d + 1) (fun x => ¬ x = 0) 142)), (134, (o_ci 0)), (135, (o_ret Q true)), (136, (o_ld 0 2)), (137, (o_ci 1)), (138, (o_invV G d mX12_bad 12 1 0 0)), (141, (o_ret Q true)), (142, (o_ld 0 2)), (143, (o_ci 59)), (145, (o_invV G d mX12_isSign 12 1 0 0)), (148, (o_if1 G Q mX12_statement (d + 1) (fun x => ¬ x = 0) 157)), (151, (o_ld 0 2)), (152, (o_ci 1)), (153, (o_invV G d mX12_bad 12 1 0 0)), (156, (o_ret Q true)), (157, (o_ld 0 2)), (158, (o_get 12 2 2)), (161, (o_ci 1)), (162, (o_ald 100 0)), (163, (o_ld 0 2)), (164, (o_get 12 24 0)), (167, (o_bin (fun a b => w32 (a + b)))), (168, (o_ci 60)), (170, (o_if2 G Q mX12_statement (d + 1) (fun a b => a ≤ b) 179)), (173, (o_ld 0 2)), (174, (o_ci 5)), (175, (o_invV G d mX12_bad 12 1 0 0)), (178, (o_ret Q true)), (179, (o_ci 0)), (180, (o_st 3 0)), (100000, o_go G Q mX12_statement (d + 1) 181), (181, (o_ld 3 0)), (182, (o_ld 0 2)), (183, (o_get 12 24 0)), (186, (o_if2 G Q mX12_statement (d + 1) (fun a b => b ≤ a) 215)), (189, (o_ld 0 2)), (190, (o_get 12 2 2)), (193, (o_ld 0 2)), (194, (o_get 12 22 2)), (197, (o_ld 3 0)), (198, (o_ald 100 0)), (199, (o_ld 0 2)), (200, (o_get 12 23 2)), (203, (o_ld 3 0)), (204, (o_ald 100 0)), (205, (o_invS G d mX12_puts 3 0 0)), (208, o_pop), (209, (o_inc 3 1)), (212, (o_go G Q mX12_statement (d + 1) 181)), (215, (o_ld 0 2)), (216, (o_ld 0 2)), (217, (o_get 12 2 2)), (220, (o_invV G d mX12_areHuge 12 1 0 0)), (223, (o_if1 G Q mX12_statement (d + 1) (fun x => x = 0) 233)), (226, (o_ld 0 2)), (227, (o_ci 6)), (229, (o_invV G d mX12_bad 12 1 0 0)), (232, (o_ret Q true)), (233, (o_ld 0 2)), (234, (o_ld 1 0)), (235, (o_ld 0 2)), (236, (o_get 12 2 2)), (239, (o_invS G d mX12_nodes 1 0 0)), (242, (o_ci 1)), (243, (o_bin (fun a b => w32 (a - b)))), (244, (o_invV G d mX12_gives 12 2 0 0)), (247, (o_ld 0 2)), (248, (o_invV G d mX12_go 12 0 0 0)), (251, (o_ci 1)), (252, (o_ret Q true))]
set_option maxRecDepth 100000 in
set_option maxHeartbeats 4000000 in
theorem kX12_statement (G : ms_G) (Q : ms_Q) (d : Nat) : ms_Oc G Q mX12_statement (d + 1) (tX12_statement G Q d) :=
  ms_oc1 rfl (s_aload_n rfl dX12_statement_0) <|
  ms_oc1 rfl (s_invV (r := (RX12, TX12, 45)) rfl rfl kw_1093 kw_1095 kw_42 kw_88 kw_1096 ⟨by decide +kernel, by decide +kernel, by decide +kernel⟩ (by decide) dX12_statement_1) <|
  ms_oc1 rfl (s_ifne (by decide) dX12_statement_4) <|
  ms_oc1 rfl (s_aload_n rfl dX12_statement_7) <|
  ms_oc1 rfl (s_iconst dX12_statement_8 (by decide)) <|
  ms_oc1 rfl (s_invV (r := (RX12, TX12, 45)) rfl rfl kw_1089 kw_1091 kw_41 kw_88 kw_1092 ⟨by decide +kernel, by decide +kernel, by decide +kernel⟩ (by decide) dX12_statement_9) <|
  ms_oc1 rfl (s_iret (b := true) rfl dX12_statement_12) <|
  ms_oc1 rfl (s_aload_n rfl dX12_statement_13) <|
  ms_oc1 rfl (s_aload_n rfl dX12_statement_14) <|
  ms_oc1 rfl (s_get (r := (RX12, TX12, 45)) rfl (by decide) rfl rfl kw_937 dX12_statement_15) <|
  ms_oc1 rfl (s_invV (r := (RX12, TX12, 45)) rfl rfl kw_1098 kw_1100 kw_43 kw_88 kw_1101 ⟨by decide +kernel, by decide +kernel, by decide +kernel⟩ (by decide) dX12_statement_18) <|
  ms_oc1 rfl (s_iconst dX12_statement_21 (by decide)) <|
  ms_oc1 rfl (s_icmpeq (by decide) dX12_statement_22) <|
  ms_oc1 rfl (s_aload_n rfl dX12_statement_25) <|
  ms_oc1 rfl (s_iconst dX12_statement_26 (by decide)) <|
  ms_oc1 rfl (s_invV (r := (RX12, TX12, 45)) rfl rfl kw_1089 kw_1091 kw_41 kw_88 kw_1092 ⟨by decide +kernel, by decide +kernel, by decide +kernel⟩ (by decide) dX12_statement_27) <|
  ms_oc1 rfl (s_iret (b := true) rfl dX12_statement_30) <|
  ms_oc1 rfl (s_aload_n rfl dX12_statement_31) <|
  ms_oc1 rfl (s_get (r := (RX12, TX12, 45)) rfl (by decide) rfl rfl kw_937 dX12_statement_32) <|
  ms_oc1 rfl (s_istore_n rfl (by decide) dX12_statement_35) <|
  ms_oc1 rfl (s_aload_n rfl dX12_statement_36) <|
  ms_oc1 rfl (s_invV (r := (RX12, TX12, 45)) rfl rfl kw_1068 kw_1070 kw_37 kw_88 kw_1071 ⟨by decide +kernel, by decide +kernel, by decide +kernel⟩ (by decide) dX12_statement_37) <|
  ms_oc1 rfl (s_aload_n rfl dX12_statement_40) <|
  ms_oc1 rfl (s_bipush dX12_statement_41 (by decide) (by decide)) <|
  ms_oc1 rfl (s_invV (r := (RX12, TX12, 45)) rfl rfl kw_1106 kw_1108 kw_45 kw_88 kw_1109 ⟨by decide +kernel, by decide +kernel, by decide +kernel⟩ (by decide) dX12_statement_43) <|
  ms_oc1 rfl (s_ifne (by decide) dX12_statement_46) <|
  ms_oc1 rfl (s_aload_n rfl dX12_statement_49) <|
  ms_oc1 rfl (s_iconst dX12_statement_50 (by decide)) <|
  ms_oc1 rfl (s_invV (r := (RX12, TX12, 45)) rfl rfl kw_1089 kw_1091 kw_41 kw_88 kw_1092 ⟨by decide +kernel, by decide +kernel, by decide +kernel⟩ (by decide) dX12_statement_51) <|
  ms_oc1 rfl (s_iret (b := true) rfl dX12_statement_54) <|
  ms_oc1 rfl (s_aload_n rfl dX12_statement_55) <|
  ms_oc1 rfl (s_invV (r := (RX12, TX12, 45)) rfl rfl kw_1068 kw_1070 kw_37 kw_88 kw_1071 ⟨by decide +kernel, by decide +kernel, by decide +kernel⟩ (by decide) dX12_statement_56) <|
  ms_oc1 rfl (s_aload_n rfl dX12_statement_59) <|
  ms_oc1 rfl (s_invV (r := (RX12, TX12, 45)) rfl rfl kw_1114 kw_1116 kw_47 kw_88 kw_1117 ⟨by decide +kernel, by decide +kernel, by decide +kernel⟩ (by decide) dX12_statement_60) <|
  ms_oc1 rfl (s_ifne (by decide) dX12_statement_63) <|
  ms_oc1 rfl (s_iconst dX12_statement_66 (by decide)) <|
  ms_oc1 rfl (s_iret (b := true) rfl dX12_statement_67) <|
  ms_oc1 rfl (s_aload_n rfl dX12_statement_68) <|
  ms_oc1 rfl (s_get (r := (RX12, TX12, 45)) rfl (by decide) rfl rfl kw_943 dX12_statement_69) <|
  ms_oc1 rfl (s_istore_n rfl (by decide) dX12_statement_72) <|
  ms_oc1 rfl (s_aload_n rfl dX12_statement_73) <|
  ms_oc1 rfl (s_iconst dX12_statement_74 (by decide)) <|
  ms_oc1 rfl (s_put (r := (RX12, TX12, 45)) rfl (by decide) rfl rfl (ms_nar0 rfl) (Or.inl rfl) kw_946 dX12_statement_75) <|
  ms_oc1 rfl (s_aload_n rfl dX12_statement_78) <|
  ms_oc1 rfl (s_bipush dX12_statement_79 (by decide) (by decide)) <|
  ms_oc1 rfl (s_invV (r := (RX12, TX12, 45)) rfl rfl kw_1106 kw_1108 kw_45 kw_88 kw_1109 ⟨by decide +kernel, by decide +kernel, by decide +kernel⟩ (by decide) dX12_statement_81) <|
  ms_oc1 rfl (s_ifeq (by decide) dX12_statement_84) <|
  ms_oc1 rfl (s_aload_n rfl dX12_statement_87) <|
  ms_oc1 rfl (s_invV (r := (RX12, TX12, 45)) rfl rfl kw_1068 kw_1070 kw_37 kw_88 kw_1071 ⟨by decide +kernel, by decide +kernel, by decide +kernel⟩ (by decide) dX12_statement_88) <|
  ms_oc1 rfl (s_aload_n rfl dX12_statement_91) <|
  ms_oc1 rfl (s_invV (r := (RX12, TX12, 45)) rfl rfl kw_1114 kw_1116 kw_47 kw_88 kw_1117 ⟨by decide +kernel, by decide +kernel, by decide +kernel⟩ (by decide) dX12_statement_92) <|
  ms_oc1 rfl (s_ifne (by decide) dX12_statement_95) <|
  ms_oc1 rfl (s_iconst dX12_statement_98 (by decide)) <|
  ms_oc1 rfl (s_iret (b := true) rfl dX12_statement_99) <|
  ms_oc1 rfl (s_aload_n rfl dX12_statement_100) <|
  ms_oc1 rfl (s_iload_n rfl dX12_statement_101) <|
  ms_oc1 rfl (s_aload_n rfl dX12_statement_102) <|
  ms_oc1 rfl (s_get (r := (RX12, TX12, 45)) rfl (by decide) rfl rfl kw_943 dX12_statement_103) <|
  ms_oc1 rfl (s_invV (r := (RX12, TX12, 45)) rfl rfl kw_1118 kw_1120 kw_48 kw_88 kw_1121 ⟨by decide +kernel, by decide +kernel, by decide +kernel⟩ (by decide) dX12_statement_106) <|
  ms_oc1 rfl (s_pop dX12_statement_109) <|
  ms_oc1 rfl (s_goto (by decide) dX12_statement_110) <|
  ms_oc1 rfl (s_aload_n rfl dX12_statement_113) <|
  ms_oc1 rfl (s_bipush dX12_statement_114 (by decide) (by decide)) <|
  ms_oc1 rfl (s_invV (r := (RX12, TX12, 45)) rfl rfl kw_1106 kw_1108 kw_45 kw_88 kw_1109 ⟨by decide +kernel, by decide +kernel, by decide +kernel⟩ (by decide) dX12_statement_116) <|
  ms_oc1 rfl (s_ifeq (by decide) dX12_statement_119) <|
  ms_oc1 rfl (s_aload_n rfl dX12_statement_122) <|
  ms_oc1 rfl (s_invV (r := (RX12, TX12, 45)) rfl rfl kw_1068 kw_1070 kw_37 kw_88 kw_1071 ⟨by decide +kernel, by decide +kernel, by decide +kernel⟩ (by decide) dX12_statement_123) <|
  ms_oc1 rfl (s_aload_n rfl dX12_statement_126) <|
  ms_oc1 rfl (s_iload_n rfl dX12_statement_127) <|
  ms_oc1 rfl (s_invV (r := (RX12, TX12, 45)) rfl rfl kw_1125 kw_1127 kw_49 kw_88 kw_1128 ⟨by decide +kernel, by decide +kernel, by decide +kernel⟩ (by decide) dX12_statement_128) <|
  ms_oc1 rfl (s_ifne (by decide) dX12_statement_131) <|
  ms_oc1 rfl (s_iconst dX12_statement_134 (by decide)) <|
  ms_oc1 rfl (s_iret (b := true) rfl dX12_statement_135) <|
  ms_oc1 rfl (s_aload_n rfl dX12_statement_136) <|
  ms_oc1 rfl (s_iconst dX12_statement_137 (by decide)) <|
  ms_oc1 rfl (s_invV (r := (RX12, TX12, 45)) rfl rfl kw_1089 kw_1091 kw_41 kw_88 kw_1092 ⟨by decide +kernel, by decide +kernel, by decide +kernel⟩ (by decide) dX12_statement_138) <|
  ms_oc1 rfl (s_iret (b := true) rfl dX12_statement_141) <|
  ms_oc1 rfl (s_aload_n rfl dX12_statement_142) <|
  ms_oc1 rfl (s_bipush dX12_statement_143 (by decide) (by decide)) <|
  ms_oc1 rfl (s_invV (r := (RX12, TX12, 45)) rfl rfl kw_1106 kw_1108 kw_45 kw_88 kw_1109 ⟨by decide +kernel, by decide +kernel, by decide +kernel⟩ (by decide) dX12_statement_145) <|
  ms_oc1 rfl (s_ifne (by decide) dX12_statement_148) <|
  ms_oc1 rfl (s_aload_n rfl dX12_statement_151) <|
  ms_oc1 rfl (s_iconst dX12_statement_152 (by decide)) <|
  ms_oc1 rfl (s_invV (r := (RX12, TX12, 45)) rfl rfl kw_1089 kw_1091 kw_41 kw_88 kw_1092 ⟨by decide +kernel, by decide +kernel, by decide +kernel⟩ (by decide) dX12_statement_153) <|
  ms_oc1 rfl (s_iret (b := true) rfl dX12_statement_156) <|
  ms_oc1 rfl (s_aload_n rfl dX12_statement_157) <|
  ms_oc1 rfl (s_get (r := (RX12, TX12, 45)) rfl (by decide) rfl rfl kw_924 dX12_statement_158) <|
  ms_oc1 rfl (s_iconst dX12_statement_161 (by decide)) <|
  ms_oc1 rfl (s_iaload dX12_statement_162) <|
  ms_oc1 rfl (s_aload_n rfl dX12_statement_163) <|
  ms_oc1 rfl (s_get (r := (RX12, TX12, 45)) rfl (by decide) rfl rfl kw_946 dX12_statement_164) <|
  ms_oc1 rfl (s_iadd dX12_statement_167) <|
  ms_oc1 rfl (s_bipush dX12_statement_168 (by decide) (by decide)) <|
  ms_oc1 rfl (s_icmple (by decide) dX12_statement_170) <|
  ms_oc1 rfl (s_aload_n rfl dX12_statement_173) <|
  ms_oc1 rfl (s_iconst dX12_statement_174 (by decide)) <|
  ms_oc1 rfl (s_invV (r := (RX12, TX12, 45)) rfl rfl kw_1089 kw_1091 kw_41 kw_88 kw_1092 ⟨by decide +kernel, by decide +kernel, by decide +kernel⟩ (by decide) dX12_statement_175) <|
  ms_oc1 rfl (s_iret (b := true) rfl dX12_statement_178) <|
  ms_oc1 rfl (s_iconst dX12_statement_179 (by decide)) <|
  ms_occ (s_istore_n rfl (by decide) dX12_statement_180) <|
  ms_oc1 rfl (s_iload_n rfl dX12_statement_181) <|
  ms_oc1 rfl (s_aload_n rfl dX12_statement_182) <|
  ms_oc1 rfl (s_get (r := (RX12, TX12, 45)) rfl (by decide) rfl rfl kw_946 dX12_statement_183) <|
  ms_oc1 rfl (s_icmpge (by decide) dX12_statement_186) <|
  ms_oc1 rfl (s_aload_n rfl dX12_statement_189) <|
  ms_oc1 rfl (s_get (r := (RX12, TX12, 45)) rfl (by decide) rfl rfl kw_924 dX12_statement_190) <|
  ms_oc1 rfl (s_aload_n rfl dX12_statement_193) <|
  ms_oc1 rfl (s_get (r := (RX12, TX12, 45)) rfl (by decide) rfl rfl kw_944 dX12_statement_194) <|
  ms_oc1 rfl (s_iload_n rfl dX12_statement_197) <|
  ms_oc1 rfl (s_iaload dX12_statement_198) <|
  ms_oc1 rfl (s_aload_n rfl dX12_statement_199) <|
  ms_oc1 rfl (s_get (r := (RX12, TX12, 45)) rfl (by decide) rfl rfl kw_945 dX12_statement_200) <|
  ms_oc1 rfl (s_iload_n rfl dX12_statement_203) <|
  ms_oc1 rfl (s_iaload dX12_statement_204) <|
  ms_oc1 rfl (s_invS kw_1135 kw_1136 kw_88 kw_1137 ⟨by decide +kernel, by decide +kernel, by decide +kernel⟩ (by decide) dX12_statement_205) <|
  ms_oc1 rfl (s_pop dX12_statement_208) <|
  ms_oc1 rfl (s_iinc (by decide) dX12_statement_209) <|
  ms_oc1 rfl (s_goto (by decide) dX12_statement_212) <|
  ms_oc1 rfl (s_aload_n rfl dX12_statement_215) <|
  ms_oc1 rfl (s_aload_n rfl dX12_statement_216) <|
  ms_oc1 rfl (s_get (r := (RX12, TX12, 45)) rfl (by decide) rfl rfl kw_924 dX12_statement_217) <|
  ms_oc1 rfl (s_invV (r := (RX12, TX12, 45)) rfl rfl kw_1138 kw_1140 kw_51 kw_88 kw_1141 ⟨by decide +kernel, by decide +kernel, by decide +kernel⟩ (by decide) dX12_statement_220) <|
  ms_oc1 rfl (s_ifeq (by decide) dX12_statement_223) <|
  ms_oc1 rfl (s_aload_n rfl dX12_statement_226) <|
  ms_oc1 rfl (s_bipush dX12_statement_227 (by decide) (by decide)) <|
  ms_oc1 rfl (s_invV (r := (RX12, TX12, 45)) rfl rfl kw_1089 kw_1091 kw_41 kw_88 kw_1092 ⟨by decide +kernel, by decide +kernel, by decide +kernel⟩ (by decide) dX12_statement_229) <|
  ms_oc1 rfl (s_iret (b := true) rfl dX12_statement_232) <|
  ms_oc1 rfl (s_aload_n rfl dX12_statement_233) <|
  ms_oc1 rfl (s_iload_n rfl dX12_statement_234) <|
  ms_oc1 rfl (s_aload_n rfl dX12_statement_235) <|
  ms_oc1 rfl (s_get (r := (RX12, TX12, 45)) rfl (by decide) rfl rfl kw_924 dX12_statement_236) <|
  ms_oc1 rfl (s_invS kw_1122 kw_1123 kw_88 kw_1124 ⟨by decide +kernel, by decide +kernel, by decide +kernel⟩ (by decide) dX12_statement_239) <|
  ms_oc1 rfl (s_iconst dX12_statement_242 (by decide)) <|
  ms_oc1 rfl (s_isub dX12_statement_243) <|
  ms_oc1 rfl (s_invV (r := (RX12, TX12, 45)) rfl rfl kw_1102 kw_1104 kw_44 kw_88 kw_1105 ⟨by decide +kernel, by decide +kernel, by decide +kernel⟩ (by decide) dX12_statement_244) <|
  ms_oc1 rfl (s_aload_n rfl dX12_statement_247) <|
  ms_oc1 rfl (s_invV (r := (RX12, TX12, 45)) rfl rfl kw_1068 kw_1070 kw_37 kw_88 kw_1071 ⟨by decide +kernel, by decide +kernel, by decide +kernel⟩ (by decide) dX12_statement_248) <|
  ms_oc1 rfl (s_iconst dX12_statement_251 (by decide)) <|
  ms_oc0 (s_iret (b := true) rfl dX12_statement_252)

def tX12_init (G : ms_G) (Q : ms_Q) (d : Nat) : List (Nat × ms_T) := [(0, (o_ld 0 2)), (1, o_oi), (4, (o_ld 0 2)), (5, (o_ci 127)), (7, (o_newa 100)), (9, (o_put 12 1 2)), (12, (o_ld 0 2)), (13, (o_ci 127)), (15, (o_newa 100)), (17, (o_put 12 2 2)), (20, (o_ld 0 2)), (21, (o_ci 1524)), (24, (o_newa 100)), (26, (o_put 12 3 2)), (29, (o_ld 0 2)), (30, (o_ci 381)), (33, (o_newa 100)), (35, (o_put 12 5 2)), (38, (o_ld 0 2)), (39, (o_ci 3)), (40, (o_newa 103)), (42, (o_put 12 6 2)), (45, (o_ld 0 2)), (46, (o_ci 256)), (49, (o_newa 101)), (51, (o_put 12 7 2)), (54, (o_ld 0 2)), (55, (o_ci 500)), (58, (o_newa 102)), (60, (o_put 12 8 2)), (63, (o_ld 0 2)), (64, (o_ci 64)), (66, (o_newa 100)), (68, (o_put 12 18 2)), (71, (o_ld 0 2)), (72, (o_ci 64)), (74, (o_newa 100)), (76, (o_put 12 19 2)), (79, (o_ld 0 2)), (80, (o_ci 32)), (82, (o_newa 100)), (84, (o_put 12 22 2)), (87, (o_ld 0 2)), (88, (o_ci 32)), (90, (o_newa 100)), (92, (o_put 12 23 2)), (95, (o_ld 0 2)), (96, (o_ci 64)), (98, (o_newa 103)), (100, (o_put 12 25 2)), (103, (o_ld 0 2)), (104, (o_ci 64)), (106, (o_newa 100)), (108, (o_put 12 26 2)), (111, (o_ld 0 2)), (112, (o_ci 64)), (114, (o_newa 101)), (116, (o_put 12 27 2)), (119, (o_ld 0 2)), (120, (o_ci 64)), (122, (o_newa 100)), (124, (o_put 12 28 2)), (127, (o_ld 0 2)), (128, (o_ci 64)), (130, (o_newa 100)), (132, (o_put 12 29 2)), (135, (o_ld 0 2)), (136, (o_ci 127)), (138, (o_newa 100)), (140, (o_put 12 30 2)), (143, (o_ld 0 2)), (144, (o_ci 10000)), (147, (o_newa 103)), (149, (o_put 12 31 2)), (152, (o_ld 0 2)), (153, (o_ci 10000)), (156, (o_newa 100)), (158, (o_put 12 32 2)), (161, (o_ld 0 2)), (162, (o_ci 10000)), (165, (o_newa 100)), (167, (o_put 12 33 2)), (170, (o_ld 0 2)), (171, (o_ci 10000)), (174, (o_newa 100)), (176, (o_put 12 34 2)), (179, (o_ld 0 2)), (180, (o_ci 16)), (182, (o_newa 101)), (184, (o_put 12 35 2)), (187, (o_ld 0 2)), (188, (o_ci 10000)), (191, (o_newa 103)), (193, (o_put 12 36 2)), (196, (o_ld 0 2)), (197, (o_ci 10000)), (200, (o_newa 100)), (202, (o_put 12 37 2)), (205, (o_ld 0 2)), (206, (o_ci 64)), (208, (o_newa 100)), (210, (o_put 12 41 2)), (213, (o_vret Q))]
set_option maxRecDepth 100000 in
set_option maxHeartbeats 4000000 in
theorem kX12_init (G : ms_G) (Q : ms_Q) (d : Nat) : ms_Oc G Q mX12_init (d + 1) (tX12_init G Q d) :=
  ms_oc1 rfl (s_aload_n rfl dX12_init_0) <|
  ms_oc1 rfl (s_oi kw_921 kw_102 kw_103 dX12_init_1) <|
  ms_oc1 rfl (s_aload_n rfl dX12_init_4) <|
  ms_oc1 rfl (s_bipush dX12_init_5 (by decide) (by decide)) <|
  ms_oc1 rfl (s_newa (ty := .int) rfl kw_153 dX12_init_7 (Or.inl ⟨rfl, rfl⟩)) <|
  ms_oc1 rfl (s_put (r := (RX12, TX12, 45)) rfl (by decide) rfl rfl (ms_nar2 (fun r => by cases r <;> exact ⟨rfl, rfl⟩)) (Or.inr ⟨rfl, rfl⟩) kw_923 dX12_init_9) <|
  ms_oc1 rfl (s_aload_n rfl dX12_init_12) <|
  ms_oc1 rfl (s_bipush dX12_init_13 (by decide) (by decide)) <|
  ms_oc1 rfl (s_newa (ty := .int) rfl kw_153 dX12_init_15 (Or.inl ⟨rfl, rfl⟩)) <|
  ms_oc1 rfl (s_put (r := (RX12, TX12, 45)) rfl (by decide) rfl rfl (ms_nar2 (fun r => by cases r <;> exact ⟨rfl, rfl⟩)) (Or.inr ⟨rfl, rfl⟩) kw_924 dX12_init_17) <|
  ms_oc1 rfl (s_aload_n rfl dX12_init_20) <|
  ms_oc1 rfl (s_sipush dX12_init_21 (by decide) (by decide)) <|
  ms_oc1 rfl (s_newa (ty := .int) rfl kw_153 dX12_init_24 (Or.inl ⟨rfl, rfl⟩)) <|
  ms_oc1 rfl (s_put (r := (RX12, TX12, 45)) rfl (by decide) rfl rfl (ms_nar2 (fun r => by cases r <;> exact ⟨rfl, rfl⟩)) (Or.inr ⟨rfl, rfl⟩) kw_925 dX12_init_26) <|
  ms_oc1 rfl (s_aload_n rfl dX12_init_29) <|
  ms_oc1 rfl (s_sipush dX12_init_30 (by decide) (by decide)) <|
  ms_oc1 rfl (s_newa (ty := .int) rfl kw_153 dX12_init_33 (Or.inl ⟨rfl, rfl⟩)) <|
  ms_oc1 rfl (s_put (r := (RX12, TX12, 45)) rfl (by decide) rfl rfl (ms_nar2 (fun r => by cases r <;> exact ⟨rfl, rfl⟩)) (Or.inr ⟨rfl, rfl⟩) kw_927 dX12_init_35) <|
  ms_oc1 rfl (s_aload_n rfl dX12_init_38) <|
  ms_oc1 rfl (s_iconst dX12_init_39 (by decide)) <|
  ms_oc1 rfl (s_newa (ty := .boolean) rfl kw_174 dX12_init_40 (Or.inr (Or.inr (Or.inr ⟨rfl, rfl⟩)))) <|
  ms_oc1 rfl (s_put (r := (RX12, TX12, 45)) rfl (by decide) rfl rfl (ms_nar2 (fun r => by cases r <;> exact ⟨rfl, rfl⟩)) (Or.inr ⟨rfl, rfl⟩) kw_928 dX12_init_42) <|
  ms_oc1 rfl (s_aload_n rfl dX12_init_45) <|
  ms_oc1 rfl (s_sipush dX12_init_46 (by decide) (by decide)) <|
  ms_oc1 rfl (s_newa (ty := .long) rfl kw_200 dX12_init_49 (Or.inr (Or.inl ⟨rfl, rfl⟩))) <|
  ms_oc1 rfl (s_put (r := (RX12, TX12, 45)) rfl (by decide) rfl rfl (ms_nar2 (fun r => by cases r <;> exact ⟨rfl, rfl⟩)) (Or.inr ⟨rfl, rfl⟩) kw_929 dX12_init_51) <|
  ms_oc1 rfl (s_aload_n rfl dX12_init_54) <|
  ms_oc1 rfl (s_sipush dX12_init_55 (by decide) (by decide)) <|
  ms_oc1 rfl (s_newa (ty := .byte) rfl kw_216 dX12_init_58 (Or.inr (Or.inr (Or.inl ⟨rfl, rfl⟩)))) <|
  ms_oc1 rfl (s_put (r := (RX12, TX12, 45)) rfl (by decide) rfl rfl (ms_nar2 (fun r => by cases r <;> exact ⟨rfl, rfl⟩)) (Or.inr ⟨rfl, rfl⟩) kw_930 dX12_init_60) <|
  ms_oc1 rfl (s_aload_n rfl dX12_init_63) <|
  ms_oc1 rfl (s_bipush dX12_init_64 (by decide) (by decide)) <|
  ms_oc1 rfl (s_newa (ty := .int) rfl kw_153 dX12_init_66 (Or.inl ⟨rfl, rfl⟩)) <|
  ms_oc1 rfl (s_put (r := (RX12, TX12, 45)) rfl (by decide) rfl rfl (ms_nar2 (fun r => by cases r <;> exact ⟨rfl, rfl⟩)) (Or.inr ⟨rfl, rfl⟩) kw_940 dX12_init_68) <|
  ms_oc1 rfl (s_aload_n rfl dX12_init_71) <|
  ms_oc1 rfl (s_bipush dX12_init_72 (by decide) (by decide)) <|
  ms_oc1 rfl (s_newa (ty := .int) rfl kw_153 dX12_init_74 (Or.inl ⟨rfl, rfl⟩)) <|
  ms_oc1 rfl (s_put (r := (RX12, TX12, 45)) rfl (by decide) rfl rfl (ms_nar2 (fun r => by cases r <;> exact ⟨rfl, rfl⟩)) (Or.inr ⟨rfl, rfl⟩) kw_941 dX12_init_76) <|
  ms_oc1 rfl (s_aload_n rfl dX12_init_79) <|
  ms_oc1 rfl (s_bipush dX12_init_80 (by decide) (by decide)) <|
  ms_oc1 rfl (s_newa (ty := .int) rfl kw_153 dX12_init_82 (Or.inl ⟨rfl, rfl⟩)) <|
  ms_oc1 rfl (s_put (r := (RX12, TX12, 45)) rfl (by decide) rfl rfl (ms_nar2 (fun r => by cases r <;> exact ⟨rfl, rfl⟩)) (Or.inr ⟨rfl, rfl⟩) kw_944 dX12_init_84) <|
  ms_oc1 rfl (s_aload_n rfl dX12_init_87) <|
  ms_oc1 rfl (s_bipush dX12_init_88 (by decide) (by decide)) <|
  ms_oc1 rfl (s_newa (ty := .int) rfl kw_153 dX12_init_90 (Or.inl ⟨rfl, rfl⟩)) <|
  ms_oc1 rfl (s_put (r := (RX12, TX12, 45)) rfl (by decide) rfl rfl (ms_nar2 (fun r => by cases r <;> exact ⟨rfl, rfl⟩)) (Or.inr ⟨rfl, rfl⟩) kw_945 dX12_init_92) <|
  ms_oc1 rfl (s_aload_n rfl dX12_init_95) <|
  ms_oc1 rfl (s_bipush dX12_init_96 (by decide) (by decide)) <|
  ms_oc1 rfl (s_newa (ty := .boolean) rfl kw_174 dX12_init_98 (Or.inr (Or.inr (Or.inr ⟨rfl, rfl⟩)))) <|
  ms_oc1 rfl (s_put (r := (RX12, TX12, 45)) rfl (by decide) rfl rfl (ms_nar2 (fun r => by cases r <;> exact ⟨rfl, rfl⟩)) (Or.inr ⟨rfl, rfl⟩) kw_947 dX12_init_100) <|
  ms_oc1 rfl (s_aload_n rfl dX12_init_103) <|
  ms_oc1 rfl (s_bipush dX12_init_104 (by decide) (by decide)) <|
  ms_oc1 rfl (s_newa (ty := .int) rfl kw_153 dX12_init_106 (Or.inl ⟨rfl, rfl⟩)) <|
  ms_oc1 rfl (s_put (r := (RX12, TX12, 45)) rfl (by decide) rfl rfl (ms_nar2 (fun r => by cases r <;> exact ⟨rfl, rfl⟩)) (Or.inr ⟨rfl, rfl⟩) kw_948 dX12_init_108) <|
  ms_oc1 rfl (s_aload_n rfl dX12_init_111) <|
  ms_oc1 rfl (s_bipush dX12_init_112 (by decide) (by decide)) <|
  ms_oc1 rfl (s_newa (ty := .long) rfl kw_200 dX12_init_114 (Or.inr (Or.inl ⟨rfl, rfl⟩))) <|
  ms_oc1 rfl (s_put (r := (RX12, TX12, 45)) rfl (by decide) rfl rfl (ms_nar2 (fun r => by cases r <;> exact ⟨rfl, rfl⟩)) (Or.inr ⟨rfl, rfl⟩) kw_949 dX12_init_116) <|
  ms_oc1 rfl (s_aload_n rfl dX12_init_119) <|
  ms_oc1 rfl (s_bipush dX12_init_120 (by decide) (by decide)) <|
  ms_oc1 rfl (s_newa (ty := .int) rfl kw_153 dX12_init_122 (Or.inl ⟨rfl, rfl⟩)) <|
  ms_oc1 rfl (s_put (r := (RX12, TX12, 45)) rfl (by decide) rfl rfl (ms_nar2 (fun r => by cases r <;> exact ⟨rfl, rfl⟩)) (Or.inr ⟨rfl, rfl⟩) kw_950 dX12_init_124) <|
  ms_oc1 rfl (s_aload_n rfl dX12_init_127) <|
  ms_oc1 rfl (s_bipush dX12_init_128 (by decide) (by decide)) <|
  ms_oc1 rfl (s_newa (ty := .int) rfl kw_153 dX12_init_130 (Or.inl ⟨rfl, rfl⟩)) <|
  ms_oc1 rfl (s_put (r := (RX12, TX12, 45)) rfl (by decide) rfl rfl (ms_nar2 (fun r => by cases r <;> exact ⟨rfl, rfl⟩)) (Or.inr ⟨rfl, rfl⟩) kw_951 dX12_init_132) <|
  ms_oc1 rfl (s_aload_n rfl dX12_init_135) <|
  ms_oc1 rfl (s_bipush dX12_init_136 (by decide) (by decide)) <|
  ms_oc1 rfl (s_newa (ty := .int) rfl kw_153 dX12_init_138 (Or.inl ⟨rfl, rfl⟩)) <|
  ms_oc1 rfl (s_put (r := (RX12, TX12, 45)) rfl (by decide) rfl rfl (ms_nar2 (fun r => by cases r <;> exact ⟨rfl, rfl⟩)) (Or.inr ⟨rfl, rfl⟩) kw_952 dX12_init_140) <|
  ms_oc1 rfl (s_aload_n rfl dX12_init_143) <|
  ms_oc1 rfl (s_sipush dX12_init_144 (by decide) (by decide)) <|
  ms_oc1 rfl (s_newa (ty := .boolean) rfl kw_174 dX12_init_147 (Or.inr (Or.inr (Or.inr ⟨rfl, rfl⟩)))) <|
  ms_oc1 rfl (s_put (r := (RX12, TX12, 45)) rfl (by decide) rfl rfl (ms_nar2 (fun r => by cases r <;> exact ⟨rfl, rfl⟩)) (Or.inr ⟨rfl, rfl⟩) kw_953 dX12_init_149) <|
  ms_oc1 rfl (s_aload_n rfl dX12_init_152) <|
  ms_oc1 rfl (s_sipush dX12_init_153 (by decide) (by decide)) <|
  ms_oc1 rfl (s_newa (ty := .int) rfl kw_153 dX12_init_156 (Or.inl ⟨rfl, rfl⟩)) <|
  ms_oc1 rfl (s_put (r := (RX12, TX12, 45)) rfl (by decide) rfl rfl (ms_nar2 (fun r => by cases r <;> exact ⟨rfl, rfl⟩)) (Or.inr ⟨rfl, rfl⟩) kw_954 dX12_init_158) <|
  ms_oc1 rfl (s_aload_n rfl dX12_init_161) <|
  ms_oc1 rfl (s_sipush dX12_init_162 (by decide) (by decide)) <|
  ms_oc1 rfl (s_newa (ty := .int) rfl kw_153 dX12_init_165 (Or.inl ⟨rfl, rfl⟩)) <|
  ms_oc1 rfl (s_put (r := (RX12, TX12, 45)) rfl (by decide) rfl rfl (ms_nar2 (fun r => by cases r <;> exact ⟨rfl, rfl⟩)) (Or.inr ⟨rfl, rfl⟩) kw_955 dX12_init_167) <|
  ms_oc1 rfl (s_aload_n rfl dX12_init_170) <|
  ms_oc1 rfl (s_sipush dX12_init_171 (by decide) (by decide)) <|
  ms_oc1 rfl (s_newa (ty := .int) rfl kw_153 dX12_init_174 (Or.inl ⟨rfl, rfl⟩)) <|
  ms_oc1 rfl (s_put (r := (RX12, TX12, 45)) rfl (by decide) rfl rfl (ms_nar2 (fun r => by cases r <;> exact ⟨rfl, rfl⟩)) (Or.inr ⟨rfl, rfl⟩) kw_956 dX12_init_176) <|
  ms_oc1 rfl (s_aload_n rfl dX12_init_179) <|
  ms_oc1 rfl (s_bipush dX12_init_180 (by decide) (by decide)) <|
  ms_oc1 rfl (s_newa (ty := .long) rfl kw_200 dX12_init_182 (Or.inr (Or.inl ⟨rfl, rfl⟩))) <|
  ms_oc1 rfl (s_put (r := (RX12, TX12, 45)) rfl (by decide) rfl rfl (ms_nar2 (fun r => by cases r <;> exact ⟨rfl, rfl⟩)) (Or.inr ⟨rfl, rfl⟩) kw_957 dX12_init_184) <|
  ms_oc1 rfl (s_aload_n rfl dX12_init_187) <|
  ms_oc1 rfl (s_sipush dX12_init_188 (by decide) (by decide)) <|
  ms_oc1 rfl (s_newa (ty := .boolean) rfl kw_174 dX12_init_191 (Or.inr (Or.inr (Or.inr ⟨rfl, rfl⟩)))) <|
  ms_oc1 rfl (s_put (r := (RX12, TX12, 45)) rfl (by decide) rfl rfl (ms_nar2 (fun r => by cases r <;> exact ⟨rfl, rfl⟩)) (Or.inr ⟨rfl, rfl⟩) kw_958 dX12_init_193) <|
  ms_oc1 rfl (s_aload_n rfl dX12_init_196) <|
  ms_oc1 rfl (s_sipush dX12_init_197 (by decide) (by decide)) <|
  ms_oc1 rfl (s_newa (ty := .int) rfl kw_153 dX12_init_200 (Or.inl ⟨rfl, rfl⟩)) <|
  ms_oc1 rfl (s_put (r := (RX12, TX12, 45)) rfl (by decide) rfl rfl (ms_nar2 (fun r => by cases r <;> exact ⟨rfl, rfl⟩)) (Or.inr ⟨rfl, rfl⟩) kw_959 dX12_init_202) <|
  ms_oc1 rfl (s_aload_n rfl dX12_init_205) <|
  ms_oc1 rfl (s_bipush dX12_init_206 (by decide) (by decide)) <|
  ms_oc1 rfl (s_newa (ty := .int) rfl kw_153 dX12_init_208 (Or.inl ⟨rfl, rfl⟩)) <|
  ms_oc1 rfl (s_put (r := (RX12, TX12, 45)) rfl (by decide) rfl rfl (ms_nar2 (fun r => by cases r <;> exact ⟨rfl, rfl⟩)) (Or.inr ⟨rfl, rfl⟩) kw_963 dX12_init_210) <|
  ms_oc0 (s_vret rfl dX12_init_213)

def tX12_text (G : ms_G) (Q : ms_Q) (d : Nat) : List (Nat × ms_T) := [(0, (o_ld 0 2)), (1, (o_ci 0)), (2, (o_put 12 0 0)), (5, (o_ld 1 0)), (6, (o_un 0 1 (fun a => a))), (7, (o_cl 0)), (8, (o_ld 0 2)), (9, (o_get 12 9 0)), (12, (o_un 0 1 (fun a => a))), (13, (o_invS G d mX12_within 3 0 0)), (16, (o_if1 G Q mX12_text (d + 1) (fun x => ¬ x = 0) 21)), (19, (o_ci (-1))), (20, (o_ret Q false)), (21, (o_ld 0 2)), (22, (o_ld 1 0)), (23, (o_put 12 10 0)), (26, (o_ld 0 2)), (27, (o_ci 0)), (28, (o_put 12 9 0)), (31, (o_ld 0 2)), (32, (o_ci 0)), (33, (o_put 12 12 0)), (36, (o_ld 0 2)), (37, (o_ci 0)), (38, (o_put 12 17 0)), (41, (o_ld 0 2)), (42, (o_ci 0)), (43, (o_put 12 20 0)), (46, (o_ld 0 2)), (47, (o_get 12 2 2)), (50, (o_invS G d mX12_clears 1 0 0)), (53, (o_ld 0 2)), (54, (o_invV G d mX12_go 12 0 0 0)), (57, (o_ld 0 2)), (58, (o_invV G d mX12_baseLine 12 0 0 0)), (61, (o_st 2 0)), (100000, o_go G Q mX12_text (d + 1) 62), (62, (o_ld 2 0)), (63, (o_if1 G Q mX12_text (d + 1) (fun x => x = 0) 83)), (66, (o_ld 0 2)), (67, (o_ci (755156))), (69, (o_invV G d mX12_is 12 1 0 0)), (72, (o_if1 G Q mX12_text (d + 1) (fun x => ¬ x = 0) 83)), (75, (o_ld 0 2)), (76, (o_invV G d mX12_statement 12 0 0 0)), (79, (o_st 2 0)), (80, (o_go G Q mX12_text (d + 1) 62)), (83, (o_ld 2 0)), (84, (o_if1 G Q mX12_text (d + 1) (fun x => x = 0) 98)), (87, (o_ld 0 2)), (88, (o_invV G d mX12_wantLine 12 0 0 0)), (91, (o_if1 G Q mX12_text (d + 1) (fun x => x = 0) 98)), (94, (o_ci 1)), (95, (o_go G Q mX12_text (d + 1) 99)), (98, (o_ci 0)), (100000, o_go G Q mX12_text (d + 1) 99), (99, (o_st 2 0)), (100, (o_ld 2 0)), (101, (o_if1 G Q mX12_text (d + 1) (fun x => x = 0) 111)), (104, (o_ld 0 2)), (105, (o_invV G d mX12_becomes 12 0 0 0)), (108, (o_go G Q mX12_text (d + 1) 118)), (111, (o_ci (-2))), (113, (o_ld 0 2)), (114, (o_get 12 17 0)), (117, (o_bin (fun a b => w32 (a - b)))), (100000, o_go G Q mX12_text (d + 1) 118), (118, (o_ret Q false))]
set_option maxRecDepth 100000 in
set_option maxHeartbeats 4000000 in
theorem kX12_text (G : ms_G) (Q : ms_Q) (d : Nat) : ms_Oc G Q mX12_text (d + 1) (tX12_text G Q d) :=
  ms_oc1 rfl (s_aload_n rfl dX12_text_0) <|
  ms_oc1 rfl (s_iconst dX12_text_1 (by decide)) <|
  ms_oc1 rfl (s_put (r := (RX12, TX12, 45)) rfl (by decide) rfl rfl (ms_nar0 rfl) (Or.inl rfl) kw_922 dX12_text_2) <|
  ms_oc1 rfl (s_iload_n rfl dX12_text_5) <|
  ms_oc1 rfl (s_i2l dX12_text_6) <|
  ms_oc1 rfl (s_lconst dX12_text_7 (by decide) (by decide)) <|
  ms_oc1 rfl (s_aload_n rfl dX12_text_8) <|
  ms_oc1 rfl (s_get (r := (RX12, TX12, 45)) rfl (by decide) rfl rfl kw_931 dX12_text_9) <|
  ms_oc1 rfl (s_i2l dX12_text_12) <|
  ms_oc1 rfl (s_invS kw_1062 kw_1063 kw_88 kw_1064 ⟨by decide +kernel, by decide +kernel, by decide +kernel⟩ (by decide) dX12_text_13) <|
  ms_oc1 rfl (s_ifne (by decide) dX12_text_16) <|
  ms_oc1 rfl (s_iconst dX12_text_19 (by decide)) <|
  ms_oc1 rfl (s_iret (b := false) rfl dX12_text_20) <|
  ms_oc1 rfl (s_aload_n rfl dX12_text_21) <|
  ms_oc1 rfl (s_iload_n rfl dX12_text_22) <|
  ms_oc1 rfl (s_put (r := (RX12, TX12, 45)) rfl (by decide) rfl rfl (ms_nar0 rfl) (Or.inl rfl) kw_932 dX12_text_23) <|
  ms_oc1 rfl (s_aload_n rfl dX12_text_26) <|
  ms_oc1 rfl (s_iconst dX12_text_27 (by decide)) <|
  ms_oc1 rfl (s_put (r := (RX12, TX12, 45)) rfl (by decide) rfl rfl (ms_nar0 rfl) (Or.inl rfl) kw_931 dX12_text_28) <|
  ms_oc1 rfl (s_aload_n rfl dX12_text_31) <|
  ms_oc1 rfl (s_iconst dX12_text_32 (by decide)) <|
  ms_oc1 rfl (s_put (r := (RX12, TX12, 45)) rfl (by decide) rfl rfl (ms_nar0 rfl) (Or.inl rfl) kw_934 dX12_text_33) <|
  ms_oc1 rfl (s_aload_n rfl dX12_text_36) <|
  ms_oc1 rfl (s_iconst dX12_text_37 (by decide)) <|
  ms_oc1 rfl (s_put (r := (RX12, TX12, 45)) rfl (by decide) rfl rfl (ms_nar0 rfl) (Or.inl rfl) kw_939 dX12_text_38) <|
  ms_oc1 rfl (s_aload_n rfl dX12_text_41) <|
  ms_oc1 rfl (s_iconst dX12_text_42 (by decide)) <|
  ms_oc1 rfl (s_put (r := (RX12, TX12, 45)) rfl (by decide) rfl rfl (ms_nar0 rfl) (Or.inl rfl) kw_942 dX12_text_43) <|
  ms_oc1 rfl (s_aload_n rfl dX12_text_46) <|
  ms_oc1 rfl (s_get (r := (RX12, TX12, 45)) rfl (by decide) rfl rfl kw_924 dX12_text_47) <|
  ms_oc1 rfl (s_invS kw_1065 kw_1066 kw_88 kw_1067 ⟨by decide +kernel, by decide +kernel, by decide +kernel⟩ (by decide) dX12_text_50) <|
  ms_oc1 rfl (s_aload_n rfl dX12_text_53) <|
  ms_oc1 rfl (s_invV (r := (RX12, TX12, 45)) rfl rfl kw_1068 kw_1070 kw_37 kw_88 kw_1071 ⟨by decide +kernel, by decide +kernel, by decide +kernel⟩ (by decide) dX12_text_54) <|
  ms_oc1 rfl (s_aload_n rfl dX12_text_57) <|
  ms_oc1 rfl (s_invV (r := (RX12, TX12, 45)) rfl rfl kw_1080 kw_1082 kw_39 kw_88 kw_1083 ⟨by decide +kernel, by decide +kernel, by decide +kernel⟩ (by decide) dX12_text_58) <|
  ms_occ (s_istore_n rfl (by decide) dX12_text_61) <|
  ms_oc1 rfl (s_iload_n rfl dX12_text_62) <|
  ms_oc1 rfl (s_ifeq (by decide) dX12_text_63) <|
  ms_oc1 rfl (s_aload_n rfl dX12_text_66) <|
  ms_oc1 rfl (s_ldc dX12_text_67 kw_1097 (by decide) (by decide)) <|
  ms_oc1 rfl (s_invV (r := (RX12, TX12, 45)) rfl rfl kw_1085 kw_1087 kw_40 kw_88 kw_1088 ⟨by decide +kernel, by decide +kernel, by decide +kernel⟩ (by decide) dX12_text_69) <|
  ms_oc1 rfl (s_ifne (by decide) dX12_text_72) <|
  ms_oc1 rfl (s_aload_n rfl dX12_text_75) <|
  ms_oc1 rfl (s_invV (r := (RX12, TX12, 45)) rfl rfl kw_1110 kw_1112 kw_46 kw_88 kw_1113 ⟨by decide +kernel, by decide +kernel, by decide +kernel⟩ (by decide) dX12_text_76) <|
  ms_oc1 rfl (s_istore_n rfl (by decide) dX12_text_79) <|
  ms_oc1 rfl (s_goto (by decide) dX12_text_80) <|
  ms_oc1 rfl (s_iload_n rfl dX12_text_83) <|
  ms_oc1 rfl (s_ifeq (by decide) dX12_text_84) <|
  ms_oc1 rfl (s_aload_n rfl dX12_text_87) <|
  ms_oc1 rfl (s_invV (r := (RX12, TX12, 45)) rfl rfl kw_1153 kw_1155 kw_53 kw_88 kw_1156 ⟨by decide +kernel, by decide +kernel, by decide +kernel⟩ (by decide) dX12_text_88) <|
  ms_oc1 rfl (s_ifeq (by decide) dX12_text_91) <|
  ms_oc1 rfl (s_iconst dX12_text_94 (by decide)) <|
  ms_oc1 rfl (s_goto (by decide) dX12_text_95) <|
  ms_occ (s_iconst dX12_text_98 (by decide)) <|
  ms_oc1 rfl (s_istore_n rfl (by decide) dX12_text_99) <|
  ms_oc1 rfl (s_iload_n rfl dX12_text_100) <|
  ms_oc1 rfl (s_ifeq (by decide) dX12_text_101) <|
  ms_oc1 rfl (s_aload_n rfl dX12_text_104) <|
  ms_oc1 rfl (s_invV (r := (RX12, TX12, 45)) rfl rfl kw_1157 kw_1159 kw_54 kw_88 kw_1160 ⟨by decide +kernel, by decide +kernel, by decide +kernel⟩ (by decide) dX12_text_105) <|
  ms_oc1 rfl (s_goto (by decide) dX12_text_108) <|
  ms_oc1 rfl (s_bipush dX12_text_111 (by decide) (by decide)) <|
  ms_oc1 rfl (s_aload_n rfl dX12_text_113) <|
  ms_oc1 rfl (s_get (r := (RX12, TX12, 45)) rfl (by decide) rfl rfl kw_939 dX12_text_114) <|
  ms_occ (s_isub dX12_text_117) <|
  ms_oc0 (s_iret (b := false) rfl dX12_text_118)

def tX12_needs (G : ms_G) (Q : ms_Q) (d : Nat) : List (Nat × ms_T) := [(0, (o_ci 0)), (1, (o_st 1 0)), (100000, o_go G Q mX12_needs (d + 1) 2), (2, (o_ld 1 0)), (3, (o_ci 64)), (5, (o_if2 G Q mX12_needs (d + 1) (fun a b => b ≤ a) 21)), (8, (o_ld 0 2)), (9, (o_get 12 25 2)), (12, (o_ld 1 0)), (13, (o_ci 0)), (14, o_bast), (15, (o_inc 1 1)), (18, (o_go G Q mX12_needs (d + 1) 2)), (21, (o_ci 0)), (22, (o_st 1 0)), (100000, o_go G Q mX12_needs (d + 1) 23), (23, (o_ld 1 0)), (24, (o_ld 0 2)), (25, (o_get 12 1 2)), (28, (o_ci 2)), (29, (o_ald 100 0)), (30, (o_if2 G Q mX12_needs (d + 1) (fun a b => b ≤ a) 54)), (33, (o_ld 0 2)), (34, (o_get 12 25 2)), (37, (o_ld 0 2)), (38, (o_get 12 1 2)), (41, (o_ci 123)), (43, (o_ld 1 0)), (44, (o_bin (fun a b => w32 (a + b)))), (45, (o_ald 100 0)), (46, (o_ci 1)), (47, o_bast), (48, (o_inc 1 1)), (51, (o_go G Q mX12_needs (d + 1) 23)), (54, (o_ld 0 2)), (55, (o_get 12 1 2)), (58, (o_invS G d mX12_nodes 1 0 0)), (61, (o_ci 1)), (62, (o_bin (fun a b => w32 (a - b)))), (63, (o_st 1 0)), (100000, o_go G Q mX12_needs (d + 1) 64), (64, (o_ld 1 0)), (65, (o_ld 0 2)), (66, (o_get 12 1 2)), (69, (o_ci 0)), (70, (o_ald 100 0)), (71, (o_if2 G Q mX12_needs (d + 1) (fun a b => a < b) 117)), (74, (o_ld 0 2)), (75, (o_get 12 25 2)), (78, (o_ld 1 0)), (79, o_bald), (80, (o_if1 G Q mX12_needs (d + 1) (fun x => x = 0) 111)), (83, (o_ld 0 2)), (84, (o_get 12 25 2)), (87, (o_ld 0 2)), (88, (o_get 12 1 2)), (91, (o_ld 1 0)), (92, (o_invS G d mX12_leftOf 2 0 0)), (95, (o_ci 1)), (96, o_bast), (97, (o_ld 0 2)), (98, (o_get 12 25 2)), (101, (o_ld 0 2)), (102, (o_get 12 1 2)), (105, (o_ld 1 0)), (106, (o_invS G d mX12_rightOf 2 0 0)), (109, (o_ci 1)), (110, o_bast), (100000, o_go G Q mX12_needs (d + 1) 111), (111, (o_inc 1 (-1))), (114, (o_go G Q mX12_needs (d + 1) 64)), (117, (o_vret Q))]
set_option maxRecDepth 100000 in
set_option maxHeartbeats 4000000 in
theorem kX12_needs (G : ms_G) (Q : ms_Q) (d : Nat) : ms_Oc G Q mX12_needs (d + 1) (tX12_needs G Q d) :=
  ms_oc1 rfl (s_iconst dX12_needs_0 (by decide)) <|
  ms_occ (s_istore_n rfl (by decide) dX12_needs_1) <|
  ms_oc1 rfl (s_iload_n rfl dX12_needs_2) <|
  ms_oc1 rfl (s_bipush dX12_needs_3 (by decide) (by decide)) <|
  ms_oc1 rfl (s_icmpge (by decide) dX12_needs_5) <|
  ms_oc1 rfl (s_aload_n rfl dX12_needs_8) <|
  ms_oc1 rfl (s_get (r := (RX12, TX12, 45)) rfl (by decide) rfl rfl kw_947 dX12_needs_9) <|
  ms_oc1 rfl (s_iload_n rfl dX12_needs_12) <|
  ms_oc1 rfl (s_iconst dX12_needs_13 (by decide)) <|
  ms_oc1 rfl (s_bastore dX12_needs_14) <|
  ms_oc1 rfl (s_iinc (by decide) dX12_needs_15) <|
  ms_oc1 rfl (s_goto (by decide) dX12_needs_18) <|
  ms_oc1 rfl (s_iconst dX12_needs_21 (by decide)) <|
  ms_occ (s_istore_n rfl (by decide) dX12_needs_22) <|
  ms_oc1 rfl (s_iload_n rfl dX12_needs_23) <|
  ms_oc1 rfl (s_aload_n rfl dX12_needs_24) <|
  ms_oc1 rfl (s_get (r := (RX12, TX12, 45)) rfl (by decide) rfl rfl kw_923 dX12_needs_25) <|
  ms_oc1 rfl (s_iconst dX12_needs_28 (by decide)) <|
  ms_oc1 rfl (s_iaload dX12_needs_29) <|
  ms_oc1 rfl (s_icmpge (by decide) dX12_needs_30) <|
  ms_oc1 rfl (s_aload_n rfl dX12_needs_33) <|
  ms_oc1 rfl (s_get (r := (RX12, TX12, 45)) rfl (by decide) rfl rfl kw_947 dX12_needs_34) <|
  ms_oc1 rfl (s_aload_n rfl dX12_needs_37) <|
  ms_oc1 rfl (s_get (r := (RX12, TX12, 45)) rfl (by decide) rfl rfl kw_923 dX12_needs_38) <|
  ms_oc1 rfl (s_bipush dX12_needs_41 (by decide) (by decide)) <|
  ms_oc1 rfl (s_iload_n rfl dX12_needs_43) <|
  ms_oc1 rfl (s_iadd dX12_needs_44) <|
  ms_oc1 rfl (s_iaload dX12_needs_45) <|
  ms_oc1 rfl (s_iconst dX12_needs_46 (by decide)) <|
  ms_oc1 rfl (s_bastore dX12_needs_47) <|
  ms_oc1 rfl (s_iinc (by decide) dX12_needs_48) <|
  ms_oc1 rfl (s_goto (by decide) dX12_needs_51) <|
  ms_oc1 rfl (s_aload_n rfl dX12_needs_54) <|
  ms_oc1 rfl (s_get (r := (RX12, TX12, 45)) rfl (by decide) rfl rfl kw_923 dX12_needs_55) <|
  ms_oc1 rfl (s_invS kw_1122 kw_1123 kw_88 kw_1124 ⟨by decide +kernel, by decide +kernel, by decide +kernel⟩ (by decide) dX12_needs_58) <|
  ms_oc1 rfl (s_iconst dX12_needs_61 (by decide)) <|
  ms_oc1 rfl (s_isub dX12_needs_62) <|
  ms_occ (s_istore_n rfl (by decide) dX12_needs_63) <|
  ms_oc1 rfl (s_iload_n rfl dX12_needs_64) <|
  ms_oc1 rfl (s_aload_n rfl dX12_needs_65) <|
  ms_oc1 rfl (s_get (r := (RX12, TX12, 45)) rfl (by decide) rfl rfl kw_923 dX12_needs_66) <|
  ms_oc1 rfl (s_iconst dX12_needs_69 (by decide)) <|
  ms_oc1 rfl (s_iaload dX12_needs_70) <|
  ms_oc1 rfl (s_icmplt (by decide) dX12_needs_71) <|
  ms_oc1 rfl (s_aload_n rfl dX12_needs_74) <|
  ms_oc1 rfl (s_get (r := (RX12, TX12, 45)) rfl (by decide) rfl rfl kw_947 dX12_needs_75) <|
  ms_oc1 rfl (s_iload_n rfl dX12_needs_78) <|
  ms_oc1 rfl (s_baload dX12_needs_79) <|
  ms_oc1 rfl (s_ifeq (by decide) dX12_needs_80) <|
  ms_oc1 rfl (s_aload_n rfl dX12_needs_83) <|
  ms_oc1 rfl (s_get (r := (RX12, TX12, 45)) rfl (by decide) rfl rfl kw_947 dX12_needs_84) <|
  ms_oc1 rfl (s_aload_n rfl dX12_needs_87) <|
  ms_oc1 rfl (s_get (r := (RX12, TX12, 45)) rfl (by decide) rfl rfl kw_923 dX12_needs_88) <|
  ms_oc1 rfl (s_iload_n rfl dX12_needs_91) <|
  ms_oc1 rfl (s_invS kw_1146 kw_1147 kw_88 kw_1148 ⟨by decide +kernel, by decide +kernel, by decide +kernel⟩ (by decide) dX12_needs_92) <|
  ms_oc1 rfl (s_iconst dX12_needs_95 (by decide)) <|
  ms_oc1 rfl (s_bastore dX12_needs_96) <|
  ms_oc1 rfl (s_aload_n rfl dX12_needs_97) <|
  ms_oc1 rfl (s_get (r := (RX12, TX12, 45)) rfl (by decide) rfl rfl kw_947 dX12_needs_98) <|
  ms_oc1 rfl (s_aload_n rfl dX12_needs_101) <|
  ms_oc1 rfl (s_get (r := (RX12, TX12, 45)) rfl (by decide) rfl rfl kw_923 dX12_needs_102) <|
  ms_oc1 rfl (s_iload_n rfl dX12_needs_105) <|
  ms_oc1 rfl (s_invS kw_1149 kw_1150 kw_88 kw_1151 ⟨by decide +kernel, by decide +kernel, by decide +kernel⟩ (by decide) dX12_needs_106) <|
  ms_oc1 rfl (s_iconst dX12_needs_109 (by decide)) <|
  ms_occ (s_bastore dX12_needs_110) <|
  ms_oc1 rfl (s_iinc (by decide) dX12_needs_111) <|
  ms_oc1 rfl (s_goto (by decide) dX12_needs_114) <|
  ms_oc0 (s_vret rfl dX12_needs_117)

def tX12_depthsAll (G : ms_G) (Q : ms_Q) (d : Nat) : List (Nat × ms_T) := [(0, (o_ci 0)), (1, (o_st 1 0)), (2, (o_ci 0)), (3, (o_st 2 0)), (100000, o_go G Q mX12_depthsAll (d + 1) 4), (4, (o_ld 2 0)), (5, (o_ld 0 2)), (6, (o_get 12 1 2)), (9, (o_invS G d mX12_nodes 1 0 0)), (12, (o_if2 G Q mX12_depthsAll (d + 1) (fun a b => b ≤ a) 83)), (15, (o_ld 0 2)), (16, (o_get 12 26 2)), (19, (o_ld 2 0)), (20, (o_ld 2 0)), (21, (o_ld 0 2)), (22, (o_get 12 1 2)), (25, (o_ci 0)), (26, (o_ald 100 0)), (27, (o_if2 G Q mX12_depthsAll (d + 1) (fun a b => b ≤ a) 34)), (30, (o_ci 0)), (31, (o_go G Q mX12_depthsAll (d + 1) 65)), (34, (o_ci 1)), (35, (o_ld 0 2)), (36, (o_get 12 26 2)), (39, (o_ld 0 2)), (40, (o_get 12 1 2)), (43, (o_ld 2 0)), (44, (o_invS G d mX12_leftOf 2 0 0)), (47, (o_ald 100 0)), (48, (o_ld 0 2)), (49, (o_get 12 26 2)), (52, (o_ld 0 2)), (53, (o_get 12 1 2)), (56, (o_ld 2 0)), (57, (o_invS G d mX12_rightOf 2 0 0)), (60, (o_ald 100 0)), (61, (o_mx (fun a b => if a < b then b else a))), (64, (o_bin (fun a b => w32 (a + b)))), (100000, o_go G Q mX12_depthsAll (d + 1) 65), (65, (o_ast 100 0 (fun x => x))), (66, (o_ld 1 0)), (67, (o_ld 0 2)), (68, (o_get 12 26 2)), (71, (o_ld 2 0)), (72, (o_ald 100 0)), (73, (o_mx (fun a b => if a < b then b else a))), (76, (o_st 1 0)), (77, (o_inc 2 1)), (80, (o_go G Q mX12_depthsAll (d + 1) 4)), (83, (o_ld 1 0)), (84, (o_ret Q false))]
set_option maxRecDepth 100000 in
set_option maxHeartbeats 4000000 in
theorem kX12_depthsAll (G : ms_G) (Q : ms_Q) (d : Nat) : ms_Oc G Q mX12_depthsAll (d + 1) (tX12_depthsAll G Q d) :=
  ms_oc1 rfl (s_iconst dX12_depthsAll_0 (by decide)) <|
  ms_oc1 rfl (s_istore_n rfl (by decide) dX12_depthsAll_1) <|
  ms_oc1 rfl (s_iconst dX12_depthsAll_2 (by decide)) <|
  ms_occ (s_istore_n rfl (by decide) dX12_depthsAll_3) <|
  ms_oc1 rfl (s_iload_n rfl dX12_depthsAll_4) <|
  ms_oc1 rfl (s_aload_n rfl dX12_depthsAll_5) <|
  ms_oc1 rfl (s_get (r := (RX12, TX12, 45)) rfl (by decide) rfl rfl kw_923 dX12_depthsAll_6) <|
  ms_oc1 rfl (s_invS kw_1122 kw_1123 kw_88 kw_1124 ⟨by decide +kernel, by decide +kernel, by decide +kernel⟩ (by decide) dX12_depthsAll_9) <|
  ms_oc1 rfl (s_icmpge (by decide) dX12_depthsAll_12) <|
  ms_oc1 rfl (s_aload_n rfl dX12_depthsAll_15) <|
  ms_oc1 rfl (s_get (r := (RX12, TX12, 45)) rfl (by decide) rfl rfl kw_948 dX12_depthsAll_16) <|
  ms_oc1 rfl (s_iload_n rfl dX12_depthsAll_19) <|
  ms_oc1 rfl (s_iload_n rfl dX12_depthsAll_20) <|
  ms_oc1 rfl (s_aload_n rfl dX12_depthsAll_21) <|
  ms_oc1 rfl (s_get (r := (RX12, TX12, 45)) rfl (by decide) rfl rfl kw_923 dX12_depthsAll_22) <|
  ms_oc1 rfl (s_iconst dX12_depthsAll_25 (by decide)) <|
  ms_oc1 rfl (s_iaload dX12_depthsAll_26) <|
  ms_oc1 rfl (s_icmpge (by decide) dX12_depthsAll_27) <|
  ms_oc1 rfl (s_iconst dX12_depthsAll_30 (by decide)) <|
  ms_oc1 rfl (s_goto (by decide) dX12_depthsAll_31) <|
  ms_oc1 rfl (s_iconst dX12_depthsAll_34 (by decide)) <|
  ms_oc1 rfl (s_aload_n rfl dX12_depthsAll_35) <|
  ms_oc1 rfl (s_get (r := (RX12, TX12, 45)) rfl (by decide) rfl rfl kw_948 dX12_depthsAll_36) <|
  ms_oc1 rfl (s_aload_n rfl dX12_depthsAll_39) <|
  ms_oc1 rfl (s_get (r := (RX12, TX12, 45)) rfl (by decide) rfl rfl kw_923 dX12_depthsAll_40) <|
  ms_oc1 rfl (s_iload_n rfl dX12_depthsAll_43) <|
  ms_oc1 rfl (s_invS kw_1146 kw_1147 kw_88 kw_1148 ⟨by decide +kernel, by decide +kernel, by decide +kernel⟩ (by decide) dX12_depthsAll_44) <|
  ms_oc1 rfl (s_iaload dX12_depthsAll_47) <|
  ms_oc1 rfl (s_aload_n rfl dX12_depthsAll_48) <|
  ms_oc1 rfl (s_get (r := (RX12, TX12, 45)) rfl (by decide) rfl rfl kw_948 dX12_depthsAll_49) <|
  ms_oc1 rfl (s_aload_n rfl dX12_depthsAll_52) <|
  ms_oc1 rfl (s_get (r := (RX12, TX12, 45)) rfl (by decide) rfl rfl kw_923 dX12_depthsAll_53) <|
  ms_oc1 rfl (s_iload_n rfl dX12_depthsAll_56) <|
  ms_oc1 rfl (s_invS kw_1149 kw_1150 kw_88 kw_1151 ⟨by decide +kernel, by decide +kernel, by decide +kernel⟩ (by decide) dX12_depthsAll_57) <|
  ms_oc1 rfl (s_iaload dX12_depthsAll_60) <|
  ms_oc1 rfl (s_mmax kw_1188 kw_574 kw_91 kw_575 dX12_depthsAll_61) <|
  ms_occ (s_iadd dX12_depthsAll_64) <|
  ms_oc1 rfl (s_iastore dX12_depthsAll_65) <|
  ms_oc1 rfl (s_iload_n rfl dX12_depthsAll_66) <|
  ms_oc1 rfl (s_aload_n rfl dX12_depthsAll_67) <|
  ms_oc1 rfl (s_get (r := (RX12, TX12, 45)) rfl (by decide) rfl rfl kw_948 dX12_depthsAll_68) <|
  ms_oc1 rfl (s_iload_n rfl dX12_depthsAll_71) <|
  ms_oc1 rfl (s_iaload dX12_depthsAll_72) <|
  ms_oc1 rfl (s_mmax kw_1188 kw_574 kw_91 kw_575 dX12_depthsAll_73) <|
  ms_oc1 rfl (s_istore_n rfl (by decide) dX12_depthsAll_76) <|
  ms_oc1 rfl (s_iinc (by decide) dX12_depthsAll_77) <|
  ms_oc1 rfl (s_goto (by decide) dX12_depthsAll_80) <|
  ms_oc1 rfl (s_iload_n rfl dX12_depthsAll_83) <|
  ms_oc0 (s_iret (b := false) rfl dX12_depthsAll_84)

def tX12_sortOf (G : ms_G) (Q : ms_Q) (d : Nat) : List (Nat × ms_T) := [(0, (o_ld 1 0)), (1, (o_ld 0 2)), (2, (o_get 12 1 2)), (5, (o_ci 0)), (6, (o_ald 100 0)), (7, (o_if2 G Q mX12_sortOf (d + 1) (fun a b => b ≤ a) 12)), (10, (o_ci 3)), (11, (o_ret Q false)), (12, (o_ld 0 2)), (13, (o_get 12 1 2)), (16, (o_ld 1 0)), (17, (o_invS G d mX12_leftOf 2 0 0)), (20, (o_st 2 0)), (21, (o_ld 0 2)), (22, (o_get 12 1 2)), (25, (o_ld 1 0)), (26, (o_invS G d mX12_rightOf 2 0 0)), (29, (o_st 3 0)), (30, (o_ld 2 0)), (31, (o_ld 3 0)), (32, (o_if2 G Q mX12_sortOf (d + 1) (fun a b => ¬ a = b) 39)), (35, (o_ci 0)), (36, (o_go G Q mX12_sortOf (d + 1) 58)), (39, (o_ld 2 0)), (40, (o_ld 1 0)), (41, (o_ci 1)), (42, (o_bin (fun a b => w32 (a - b)))), (43, (o_if2 G Q mX12_sortOf (d + 1) (fun a b => a = b) 53)), (46, (o_ld 3 0)), (47, (o_ld 1 0)), (48, (o_ci 1)), (49, (o_bin (fun a b => w32 (a - b)))), (50, (o_if2 G Q mX12_sortOf (d + 1) (fun a b => ¬ a = b) 57)), (100000, o_go G Q mX12_sortOf (d + 1) 53), (53, (o_ci 1)), (54, (o_go G Q mX12_sortOf (d + 1) 58)), (57, (o_ci 2)), (100000, o_go G Q mX12_sortOf (d + 1) 58), (58, (o_ret Q false))]
set_option maxRecDepth 100000 in
set_option maxHeartbeats 4000000 in
theorem kX12_sortOf (G : ms_G) (Q : ms_Q) (d : Nat) : ms_Oc G Q mX12_sortOf (d + 1) (tX12_sortOf G Q d) :=
  ms_oc1 rfl (s_iload_n rfl dX12_sortOf_0) <|
  ms_oc1 rfl (s_aload_n rfl dX12_sortOf_1) <|
  ms_oc1 rfl (s_get (r := (RX12, TX12, 45)) rfl (by decide) rfl rfl kw_923 dX12_sortOf_2) <|
  ms_oc1 rfl (s_iconst dX12_sortOf_5 (by decide)) <|
  ms_oc1 rfl (s_iaload dX12_sortOf_6) <|
  ms_oc1 rfl (s_icmpge (by decide) dX12_sortOf_7) <|
  ms_oc1 rfl (s_iconst dX12_sortOf_10 (by decide)) <|
  ms_oc1 rfl (s_iret (b := false) rfl dX12_sortOf_11) <|
  ms_oc1 rfl (s_aload_n rfl dX12_sortOf_12) <|
  ms_oc1 rfl (s_get (r := (RX12, TX12, 45)) rfl (by decide) rfl rfl kw_923 dX12_sortOf_13) <|
  ms_oc1 rfl (s_iload_n rfl dX12_sortOf_16) <|
  ms_oc1 rfl (s_invS kw_1146 kw_1147 kw_88 kw_1148 ⟨by decide +kernel, by decide +kernel, by decide +kernel⟩ (by decide) dX12_sortOf_17) <|
  ms_oc1 rfl (s_istore_n rfl (by decide) dX12_sortOf_20) <|
  ms_oc1 rfl (s_aload_n rfl dX12_sortOf_21) <|
  ms_oc1 rfl (s_get (r := (RX12, TX12, 45)) rfl (by decide) rfl rfl kw_923 dX12_sortOf_22) <|
  ms_oc1 rfl (s_iload_n rfl dX12_sortOf_25) <|
  ms_oc1 rfl (s_invS kw_1149 kw_1150 kw_88 kw_1151 ⟨by decide +kernel, by decide +kernel, by decide +kernel⟩ (by decide) dX12_sortOf_26) <|
  ms_oc1 rfl (s_istore_n rfl (by decide) dX12_sortOf_29) <|
  ms_oc1 rfl (s_iload_n rfl dX12_sortOf_30) <|
  ms_oc1 rfl (s_iload_n rfl dX12_sortOf_31) <|
  ms_oc1 rfl (s_icmpne (by decide) dX12_sortOf_32) <|
  ms_oc1 rfl (s_iconst dX12_sortOf_35 (by decide)) <|
  ms_oc1 rfl (s_goto (by decide) dX12_sortOf_36) <|
  ms_oc1 rfl (s_iload_n rfl dX12_sortOf_39) <|
  ms_oc1 rfl (s_iload_n rfl dX12_sortOf_40) <|
  ms_oc1 rfl (s_iconst dX12_sortOf_41 (by decide)) <|
  ms_oc1 rfl (s_isub dX12_sortOf_42) <|
  ms_oc1 rfl (s_icmpeq (by decide) dX12_sortOf_43) <|
  ms_oc1 rfl (s_iload_n rfl dX12_sortOf_46) <|
  ms_oc1 rfl (s_iload_n rfl dX12_sortOf_47) <|
  ms_oc1 rfl (s_iconst dX12_sortOf_48 (by decide)) <|
  ms_oc1 rfl (s_isub dX12_sortOf_49) <|
  ms_occ (s_icmpne (by decide) dX12_sortOf_50) <|
  ms_oc1 rfl (s_iconst dX12_sortOf_53 (by decide)) <|
  ms_oc1 rfl (s_goto (by decide) dX12_sortOf_54) <|
  ms_occ (s_iconst dX12_sortOf_57 (by decide)) <|
  ms_oc0 (s_iret (b := false) rfl dX12_sortOf_58)

def tX12_sorts (G : ms_G) (Q : ms_Q) (d : Nat) : List (Nat × ms_T) := [(0, (o_ci 0)), (1, (o_st 2 0)), (2, (o_ld 0 2)), (3, (o_get 12 1 2)), (6, (o_ci 0)), (7, (o_ald 100 0)), (8, (o_st 3 0)), (100000, o_go G Q mX12_sorts (d + 1) 9), (9, (o_ld 3 0)), (10, (o_ld 0 2)), (11, (o_get 12 1 2)), (14, (o_invS G d mX12_nodes 1 0 0)), (17, (o_if2 G Q mX12_sorts (d + 1) (fun a b => b ≤ a) 43)), (20, (o_ld 2 0)), (21, (o_ld 0 2)), (22, (o_ld 3 0)), (23, (o_invV G d mX12_sortOf 12 1 0 0)), (26, (o_ld 1 0)), (27, (o_if2 G Q mX12_sorts (d + 1) (fun a b => ¬ a = b) 34)), (30, (o_ci 1)), (31, (o_go G Q mX12_sorts (d + 1) 35)), (34, (o_ci 0)), (100000, o_go G Q mX12_sorts (d + 1) 35), (35, (o_bin (fun a b => w32 (a + b)))), (36, (o_st 2 0)), (37, (o_inc 3 1)), (40, (o_go G Q mX12_sorts (d + 1) 9)), (43, (o_ld 2 0)), (44, (o_ret Q false))]
set_option maxRecDepth 100000 in
set_option maxHeartbeats 4000000 in
theorem kX12_sorts (G : ms_G) (Q : ms_Q) (d : Nat) : ms_Oc G Q mX12_sorts (d + 1) (tX12_sorts G Q d) :=
  ms_oc1 rfl (s_iconst dX12_sorts_0 (by decide)) <|
  ms_oc1 rfl (s_istore_n rfl (by decide) dX12_sorts_1) <|
  ms_oc1 rfl (s_aload_n rfl dX12_sorts_2) <|
  ms_oc1 rfl (s_get (r := (RX12, TX12, 45)) rfl (by decide) rfl rfl kw_923 dX12_sorts_3) <|
  ms_oc1 rfl (s_iconst dX12_sorts_6 (by decide)) <|
  ms_oc1 rfl (s_iaload dX12_sorts_7) <|
  ms_occ (s_istore_n rfl (by decide) dX12_sorts_8) <|
  ms_oc1 rfl (s_iload_n rfl dX12_sorts_9) <|
  ms_oc1 rfl (s_aload_n rfl dX12_sorts_10) <|
  ms_oc1 rfl (s_get (r := (RX12, TX12, 45)) rfl (by decide) rfl rfl kw_923 dX12_sorts_11) <|
  ms_oc1 rfl (s_invS kw_1122 kw_1123 kw_88 kw_1124 ⟨by decide +kernel, by decide +kernel, by decide +kernel⟩ (by decide) dX12_sorts_14) <|
  ms_oc1 rfl (s_icmpge (by decide) dX12_sorts_17) <|
  ms_oc1 rfl (s_iload_n rfl dX12_sorts_20) <|
  ms_oc1 rfl (s_aload_n rfl dX12_sorts_21) <|
  ms_oc1 rfl (s_iload_n rfl dX12_sorts_22) <|
  ms_oc1 rfl (s_invV (r := (RX12, TX12, 45)) rfl rfl kw_1176 kw_1178 kw_57 kw_88 kw_1179 ⟨by decide +kernel, by decide +kernel, by decide +kernel⟩ (by decide) dX12_sorts_23) <|
  ms_oc1 rfl (s_iload_n rfl dX12_sorts_26) <|
  ms_oc1 rfl (s_icmpne (by decide) dX12_sorts_27) <|
  ms_oc1 rfl (s_iconst dX12_sorts_30 (by decide)) <|
  ms_oc1 rfl (s_goto (by decide) dX12_sorts_31) <|
  ms_occ (s_iconst dX12_sorts_34 (by decide)) <|
  ms_oc1 rfl (s_iadd dX12_sorts_35) <|
  ms_oc1 rfl (s_istore_n rfl (by decide) dX12_sorts_36) <|
  ms_oc1 rfl (s_iinc (by decide) dX12_sorts_37) <|
  ms_oc1 rfl (s_goto (by decide) dX12_sorts_40) <|
  ms_oc1 rfl (s_iload_n rfl dX12_sorts_43) <|
  ms_oc0 (s_iret (b := false) rfl dX12_sorts_44)

def tX12_isNode (G : ms_G) (Q : ms_Q) (d : Nat) : List (Nat × ms_T) := [(0, (o_ld 1 0)), (1, (o_un 0 1 (fun a => a))), (2, (o_cl 0)), (3, (o_ld 0 2)), (4, (o_get 12 1 2)), (7, (o_invS G d mX12_nodes 1 0 0)), (10, (o_ci 1)), (11, (o_bin (fun a b => w32 (a - b)))), (12, (o_un 0 1 (fun a => a))), (13, (o_invS G d mX12_within 3 0 0)), (16, (o_ret Q true))]
set_option maxRecDepth 100000 in
set_option maxHeartbeats 4000000 in
theorem kX12_isNode (G : ms_G) (Q : ms_Q) (d : Nat) : ms_Oc G Q mX12_isNode (d + 1) (tX12_isNode G Q d) :=
  ms_oc1 rfl (s_iload_n rfl dX12_isNode_0) <|
  ms_oc1 rfl (s_i2l dX12_isNode_1) <|
  ms_oc1 rfl (s_lconst dX12_isNode_2 (by decide) (by decide)) <|
  ms_oc1 rfl (s_aload_n rfl dX12_isNode_3) <|
  ms_oc1 rfl (s_get (r := (RX12, TX12, 45)) rfl (by decide) rfl rfl kw_923 dX12_isNode_4) <|
  ms_oc1 rfl (s_invS kw_1122 kw_1123 kw_88 kw_1124 ⟨by decide +kernel, by decide +kernel, by decide +kernel⟩ (by decide) dX12_isNode_7) <|
  ms_oc1 rfl (s_iconst dX12_isNode_10 (by decide)) <|
  ms_oc1 rfl (s_isub dX12_isNode_11) <|
  ms_oc1 rfl (s_i2l dX12_isNode_12) <|
  ms_oc1 rfl (s_invS kw_1062 kw_1063 kw_88 kw_1064 ⟨by decide +kernel, by decide +kernel, by decide +kernel⟩ (by decide) dX12_isNode_13) <|
  ms_oc0 (s_iret (b := true) rfl dX12_isNode_16)

def tX12_count (G : ms_G) (Q : ms_Q) (d : Nat) : List (Nat × ms_T) := [(0, (o_ld 0 2)), (1, (o_ci 0)), (2, (o_put 12 0 0)), (5, (o_ci 0)), (6, (o_st 2 0)), (7, (o_ld 1 0)), (8, (o_sw G Q mX12_count (d + 1) (0) 12 [76, 83, 90, 97, 97, 97, 105, 152, 157, 162, 194, 199, 204] 211)), (76, (o_ld 0 2)), (77, (o_get 12 1 2)), (80, (o_ci 0)), (81, (o_ald 100 0)), (82, (o_ret Q false)), (83, (o_ld 0 2)), (84, (o_get 12 1 2)), (87, (o_ci 1)), (88, (o_ald 100 0)), (89, (o_ret Q false)), (90, (o_ld 0 2)), (91, (o_get 12 1 2)), (94, (o_ci 2)), (95, (o_ald 100 0)), (96, (o_ret Q false)), (97, (o_ld 0 2)), (98, (o_ld 1 0)), (99, (o_ci 3)), (100, (o_bin (fun a b => w32 (a - b)))), (101, (o_invV G d mX12_sorts 12 1 0 0)), (104, (o_ret Q false)), (105, (o_ld 0 2)), (106, (o_invV G d mX12_needs 12 0 0 0)), (109, (o_ld 0 2)), (110, (o_get 12 1 2)), (113, (o_ci 0)), (114, (o_ald 100 0)), (115, (o_st 3 0)), (100000, o_go G Q mX12_count (d + 1) 116), (116, (o_ld 3 0)), (117, (o_ld 0 2)), (118, (o_get 12 1 2)), (121, (o_invS G d mX12_nodes 1 0 0)), (124, (o_if2 G Q mX12_count (d + 1) (fun a b => b ≤ a) 150)), (127, (o_ld 2 0)), (128, (o_ld 0 2)), (129, (o_get 12 25 2)), (132, (o_ld 3 0)), (133, o_bald), (134, (o_if1 G Q mX12_count (d + 1) (fun x => x = 0) 141)), (137, (o_ci 1)), (138, (o_go G Q mX12_count (d + 1) 142)), (141, (o_ci 0)), (100000, o_go G Q mX12_count (d + 1) 142), (142, (o_bin (fun a b => w32 (a + b)))), (143, (o_st 2 0)), (144, (o_inc 3 1)), (147, (o_go G Q mX12_count (d + 1) 116)), (150, (o_ld 2 0)), (151, (o_ret Q false)), (152, (o_ld 0 2)), (153, (o_invV G d mX12_depthsAll 12 0 0 0)), (156, (o_ret Q false)), (157, (o_ld 0 2)), (158, (o_get 12 4 0)), (161, (o_ret Q false)), (162, (o_ci 0)), (163, (o_st 3 0)), (100000, o_go G Q mX12_count (d + 1) 164), (164, (o_ld 3 0)), (165, (o_ci 3)), (166, (o_if2 G Q mX12_count (d + 1) (fun a b => b ≤ a) 192)), (169, (o_ld 2 0)), (170, (o_ld 0 2)), (171, (o_get 12 6 2)), (174, (o_ld 3 0)), (175, o_bald), (176, (o_if1 G Q mX12_count (d + 1) (fun x => x = 0) 183)), (179, (o_ci 1)), (180, (o_go G Q mX12_count (d + 1) 184)), (183, (o_ci 0)), (100000, o_go G Q mX12_count (d + 1) 184), (184, (o_bin (fun a b => w32 (a + b)))), (185, (o_st 2 0)), (186, (o_inc 3 1)), (189, (o_go G Q mX12_count (d + 1) 164)), (192, (o_ld 2 0)), (193, (o_ret Q false)), (194, (o_ld 0 2)), (195, (o_get 12 9 0)), (198, (o_ret Q false)), (199, (o_ld 0 2)), (200, (o_get 12 39 0)), (203, (o_ret Q false)), (204, (o_ld 0 2)), (205, (o_get 12 40 0)), (208, (o_ci 1)), (209, (o_bin (fun a b => w32 (a - b)))), (210, (o_ret Q false)), (211, (o_ci (-1))), (212, (o_ret Q false))]
set_option maxRecDepth 100000 in
set_option maxHeartbeats 4000000 in
theorem kX12_count (G : ms_G) (Q : ms_Q) (d : Nat) : ms_Oc G Q mX12_count (d + 1) (tX12_count G Q d) :=
  ms_oc1 rfl (s_aload_n rfl dX12_count_0) <|
  ms_oc1 rfl (s_iconst dX12_count_1 (by decide)) <|
  ms_oc1 rfl (s_put (r := (RX12, TX12, 45)) rfl (by decide) rfl rfl (ms_nar0 rfl) (Or.inl rfl) kw_922 dX12_count_2) <|
  ms_oc1 rfl (s_iconst dX12_count_5 (by decide)) <|
  ms_oc1 rfl (s_istore_n rfl (by decide) dX12_count_6) <|
  ms_oc1 rfl (s_iload_n rfl dX12_count_7) <|
  ms_oc1 rfl (s_tsw dX12_count_8 (by decide) (by decide) (by decide)) <|
  ms_oc1 rfl (s_aload_n rfl dX12_count_76) <|
  ms_oc1 rfl (s_get (r := (RX12, TX12, 45)) rfl (by decide) rfl rfl kw_923 dX12_count_77) <|
  ms_oc1 rfl (s_iconst dX12_count_80 (by decide)) <|
  ms_oc1 rfl (s_iaload dX12_count_81) <|
  ms_oc1 rfl (s_iret (b := false) rfl dX12_count_82) <|
  ms_oc1 rfl (s_aload_n rfl dX12_count_83) <|
  ms_oc1 rfl (s_get (r := (RX12, TX12, 45)) rfl (by decide) rfl rfl kw_923 dX12_count_84) <|
  ms_oc1 rfl (s_iconst dX12_count_87 (by decide)) <|
  ms_oc1 rfl (s_iaload dX12_count_88) <|
  ms_oc1 rfl (s_iret (b := false) rfl dX12_count_89) <|
  ms_oc1 rfl (s_aload_n rfl dX12_count_90) <|
  ms_oc1 rfl (s_get (r := (RX12, TX12, 45)) rfl (by decide) rfl rfl kw_923 dX12_count_91) <|
  ms_oc1 rfl (s_iconst dX12_count_94 (by decide)) <|
  ms_oc1 rfl (s_iaload dX12_count_95) <|
  ms_oc1 rfl (s_iret (b := false) rfl dX12_count_96) <|
  ms_oc1 rfl (s_aload_n rfl dX12_count_97) <|
  ms_oc1 rfl (s_iload_n rfl dX12_count_98) <|
  ms_oc1 rfl (s_iconst dX12_count_99 (by decide)) <|
  ms_oc1 rfl (s_isub dX12_count_100) <|
  ms_oc1 rfl (s_invV (r := (RX12, TX12, 45)) rfl rfl kw_1172 kw_1174 kw_56 kw_88 kw_1175 ⟨by decide +kernel, by decide +kernel, by decide +kernel⟩ (by decide) dX12_count_101) <|
  ms_oc1 rfl (s_iret (b := false) rfl dX12_count_104) <|
  ms_oc1 rfl (s_aload_n rfl dX12_count_105) <|
  ms_oc1 rfl (s_invV (r := (RX12, TX12, 45)) rfl rfl kw_1180 kw_1182 kw_58 kw_88 kw_1183 ⟨by decide +kernel, by decide +kernel, by decide +kernel⟩ (by decide) dX12_count_106) <|
  ms_oc1 rfl (s_aload_n rfl dX12_count_109) <|
  ms_oc1 rfl (s_get (r := (RX12, TX12, 45)) rfl (by decide) rfl rfl kw_923 dX12_count_110) <|
  ms_oc1 rfl (s_iconst dX12_count_113 (by decide)) <|
  ms_oc1 rfl (s_iaload dX12_count_114) <|
  ms_occ (s_istore_n rfl (by decide) dX12_count_115) <|
  ms_oc1 rfl (s_iload_n rfl dX12_count_116) <|
  ms_oc1 rfl (s_aload_n rfl dX12_count_117) <|
  ms_oc1 rfl (s_get (r := (RX12, TX12, 45)) rfl (by decide) rfl rfl kw_923 dX12_count_118) <|
  ms_oc1 rfl (s_invS kw_1122 kw_1123 kw_88 kw_1124 ⟨by decide +kernel, by decide +kernel, by decide +kernel⟩ (by decide) dX12_count_121) <|
  ms_oc1 rfl (s_icmpge (by decide) dX12_count_124) <|
  ms_oc1 rfl (s_iload_n rfl dX12_count_127) <|
  ms_oc1 rfl (s_aload_n rfl dX12_count_128) <|
  ms_oc1 rfl (s_get (r := (RX12, TX12, 45)) rfl (by decide) rfl rfl kw_947 dX12_count_129) <|
  ms_oc1 rfl (s_iload_n rfl dX12_count_132) <|
  ms_oc1 rfl (s_baload dX12_count_133) <|
  ms_oc1 rfl (s_ifeq (by decide) dX12_count_134) <|
  ms_oc1 rfl (s_iconst dX12_count_137 (by decide)) <|
  ms_oc1 rfl (s_goto (by decide) dX12_count_138) <|
  ms_occ (s_iconst dX12_count_141 (by decide)) <|
  ms_oc1 rfl (s_iadd dX12_count_142) <|
  ms_oc1 rfl (s_istore_n rfl (by decide) dX12_count_143) <|
  ms_oc1 rfl (s_iinc (by decide) dX12_count_144) <|
  ms_oc1 rfl (s_goto (by decide) dX12_count_147) <|
  ms_oc1 rfl (s_iload_n rfl dX12_count_150) <|
  ms_oc1 rfl (s_iret (b := false) rfl dX12_count_151) <|
  ms_oc1 rfl (s_aload_n rfl dX12_count_152) <|
  ms_oc1 rfl (s_invV (r := (RX12, TX12, 45)) rfl rfl kw_1184 kw_1186 kw_59 kw_88 kw_1187 ⟨by decide +kernel, by decide +kernel, by decide +kernel⟩ (by decide) dX12_count_153) <|
  ms_oc1 rfl (s_iret (b := false) rfl dX12_count_156) <|
  ms_oc1 rfl (s_aload_n rfl dX12_count_157) <|
  ms_oc1 rfl (s_get (r := (RX12, TX12, 45)) rfl (by decide) rfl rfl kw_926 dX12_count_158) <|
  ms_oc1 rfl (s_iret (b := false) rfl dX12_count_161) <|
  ms_oc1 rfl (s_iconst dX12_count_162 (by decide)) <|
  ms_occ (s_istore_n rfl (by decide) dX12_count_163) <|
  ms_oc1 rfl (s_iload_n rfl dX12_count_164) <|
  ms_oc1 rfl (s_iconst dX12_count_165 (by decide)) <|
  ms_oc1 rfl (s_icmpge (by decide) dX12_count_166) <|
  ms_oc1 rfl (s_iload_n rfl dX12_count_169) <|
  ms_oc1 rfl (s_aload_n rfl dX12_count_170) <|
  ms_oc1 rfl (s_get (r := (RX12, TX12, 45)) rfl (by decide) rfl rfl kw_928 dX12_count_171) <|
  ms_oc1 rfl (s_iload_n rfl dX12_count_174) <|
  ms_oc1 rfl (s_baload dX12_count_175) <|
  ms_oc1 rfl (s_ifeq (by decide) dX12_count_176) <|
  ms_oc1 rfl (s_iconst dX12_count_179 (by decide)) <|
  ms_oc1 rfl (s_goto (by decide) dX12_count_180) <|
  ms_occ (s_iconst dX12_count_183 (by decide)) <|
  ms_oc1 rfl (s_iadd dX12_count_184) <|
  ms_oc1 rfl (s_istore_n rfl (by decide) dX12_count_185) <|
  ms_oc1 rfl (s_iinc (by decide) dX12_count_186) <|
  ms_oc1 rfl (s_goto (by decide) dX12_count_189) <|
  ms_oc1 rfl (s_iload_n rfl dX12_count_192) <|
  ms_oc1 rfl (s_iret (b := false) rfl dX12_count_193) <|
  ms_oc1 rfl (s_aload_n rfl dX12_count_194) <|
  ms_oc1 rfl (s_get (r := (RX12, TX12, 45)) rfl (by decide) rfl rfl kw_931 dX12_count_195) <|
  ms_oc1 rfl (s_iret (b := false) rfl dX12_count_198) <|
  ms_oc1 rfl (s_aload_n rfl dX12_count_199) <|
  ms_oc1 rfl (s_get (r := (RX12, TX12, 45)) rfl (by decide) rfl rfl kw_961 dX12_count_200) <|
  ms_oc1 rfl (s_iret (b := false) rfl dX12_count_203) <|
  ms_oc1 rfl (s_aload_n rfl dX12_count_204) <|
  ms_oc1 rfl (s_get (r := (RX12, TX12, 45)) rfl (by decide) rfl rfl kw_962 dX12_count_205) <|
  ms_oc1 rfl (s_iconst dX12_count_208 (by decide)) <|
  ms_oc1 rfl (s_isub dX12_count_209) <|
  ms_oc1 rfl (s_iret (b := false) rfl dX12_count_210) <|
  ms_oc1 rfl (s_iconst dX12_count_211 (by decide)) <|
  ms_oc0 (s_iret (b := false) rfl dX12_count_212)

def tX12_node (G : ms_G) (Q : ms_Q) (d : Nat) : List (Nat × ms_T) := [(0, (o_ld 0 2)), (1, (o_ld 0 2)), (2, (o_ld 1 0)), (3, (o_invV G d mX12_isNode 12 1 0 0)), (6, (o_if1 G Q mX12_node (d + 1) (fun x => x = 0) 25)), (9, (o_ld 2 0)), (10, (o_un 0 1 (fun a => a))), (11, (o_cl 0)), (12, (o_cl (6))), (15, (o_invS G d mX12_within 3 0 0)), (18, (o_if1 G Q mX12_node (d + 1) (fun x => x = 0) 25)), (21, (o_ci 0)), (22, (o_go G Q mX12_node (d + 1) 26)), (25, (o_ci 1)), (100000, o_go G Q mX12_node (d + 1) 26), (26, (o_put 12 0 0)), (29, (o_ld 0 2)), (30, (o_get 12 0 0)), (33, (o_if1 G Q mX12_node (d + 1) (fun x => x ≤ 0) 38)), (36, (o_ci 0)), (37, (o_ret Q false)), (38, (o_ld 2 0)), (39, (o_sw G Q mX12_node (d + 1) (0) 5 [76, 85, 94, 100, 112, 131] 151)), (76, (o_ld 0 2)), (77, (o_get 12 1 2)), (80, (o_ld 1 0)), (81, (o_invS G d mX12_leftOf 2 0 0)), (84, (o_ret Q false)), (85, (o_ld 0 2)), (86, (o_get 12 1 2)), (89, (o_ld 1 0)), (90, (o_invS G d mX12_rightOf 2 0 0)), (93, (o_ret Q false)), (94, (o_ld 0 2)), (95, (o_ld 1 0)), (96, (o_invV G d mX12_sortOf 12 1 0 0)), (99, (o_ret Q false)), (100, (o_ld 0 2)), (101, (o_invV G d mX12_depthsAll 12 0 0 0)), (104, o_pop), (105, (o_ld 0 2)), (106, (o_get 12 26 2)), (109, (o_ld 1 0)), (110, (o_ald 100 0)), (111, (o_ret Q false)), (112, (o_ld 0 2)), (113, (o_invV G d mX12_needs 12 0 0 0)), (116, (o_ld 0 2)), (117, (o_get 12 25 2)), (120, (o_ld 1 0)), (121, o_bald), (122, (o_if1 G Q mX12_node (d + 1) (fun x => x = 0) 129)), (125, (o_ci 1)), (126, (o_go G Q mX12_node (d + 1) 130)), (129, (o_ci 0)), (100000, o_go G Q mX12_node (d + 1) 130), (130, (o_ret Q false)), (131, (o_ld 0 2)), (132, (o_ld 0 2)), (133, (o_get 12 1 2)), (136, (o_invV G d mX12_powersOf 12 1 0 0)), (139, (o_ld 0 2)), (140, (o_ld 1 0)), (141, (o_ld 0 2)), (142, (o_get 12 1 2)), (145, (o_ci 0)), (146, (o_ald 100 0)), (147, (o_invV G d mX12_firstAlike 12 2 0 0)), (150, (o_ret Q false)), (151, (o_ci 0)), (152, (o_st 3 0)), (153, (o_ld 0 2)), (154, (o_get 12 1 2)), (157, (o_ci 0)), (158, (o_ald 100 0)), (159, (o_st 4 0)), (100000, o_go G Q mX12_node (d + 1) 161), (161, (o_ld 4 0)), (163, (o_ld 0 2)), (164, (o_get 12 1 2)), (167, (o_invS G d mX12_nodes 1 0 0)), (170, (o_if2 G Q mX12_node (d + 1) (fun a b => b ≤ a) 219)), (173, (o_ld 3 0)), (174, (o_ld 0 2)), (175, (o_get 12 1 2)), (178, (o_ld 4 0)), (180, (o_invS G d mX12_leftOf 2 0 0)), (183, (o_ld 1 0)), (184, (o_if2 G Q mX12_node (d + 1) (fun a b => ¬ a = b) 191)), (187, (o_ci 1)), (188, (o_go G Q mX12_node (d + 1) 192)), (191, (o_ci 0)), (100000, o_go G Q mX12_node (d + 1) 192), (192, (o_ld 0 2)), (193, (o_get 12 1 2)), (196, (o_ld 4 0)), (198, (o_invS G d mX12_rightOf 2 0 0)), (201, (o_ld 1 0)), (202, (o_if2 G Q mX12_node (d + 1) (fun a b => ¬ a = b) 209)), (205, (o_ci 1)), (206, (o_go G Q mX12_node (d + 1) 210)), (209, (o_ci 0)), (100000, o_go G Q mX12_node (d + 1) 210), (210, (o_bin (fun a b => w32 (a + b)))), (211, (o_bin (fun a b => w32 (a + b)))), (212, (o_st 3 0)), (213, (o_inc 4 1)), (216, (o_go G Q mX12_node (d + 1) 161)), (219, (o_ld 3 0)), (220, (o_ret Q false))]
set_option maxRecDepth 100000 in
set_option maxHeartbeats 4000000 in
theorem kX12_node (G : ms_G) (Q : ms_Q) (d : Nat) : ms_Oc G Q mX12_node (d + 1) (tX12_node G Q d) :=
  ms_oc1 rfl (s_aload_n rfl dX12_node_0) <|
  ms_oc1 rfl (s_aload_n rfl dX12_node_1) <|
  ms_oc1 rfl (s_iload_n rfl dX12_node_2) <|
  ms_oc1 rfl (s_invV (r := (RX12, TX12, 45)) rfl rfl kw_1193 kw_1195 kw_60 kw_88 kw_1196 ⟨by decide +kernel, by decide +kernel, by decide +kernel⟩ (by decide) dX12_node_3) <|
  ms_oc1 rfl (s_ifeq (by decide) dX12_node_6) <|
  ms_oc1 rfl (s_iload_n rfl dX12_node_9) <|
  ms_oc1 rfl (s_i2l dX12_node_10) <|
  ms_oc1 rfl (s_lconst dX12_node_11 (by decide) (by decide)) <|
  ms_oc1 rfl (s_ldc2 dX12_node_12 kw_1197 (by decide) (by decide)) <|
  ms_oc1 rfl (s_invS kw_1062 kw_1063 kw_88 kw_1064 ⟨by decide +kernel, by decide +kernel, by decide +kernel⟩ (by decide) dX12_node_15) <|
  ms_oc1 rfl (s_ifeq (by decide) dX12_node_18) <|
  ms_oc1 rfl (s_iconst dX12_node_21 (by decide)) <|
  ms_oc1 rfl (s_goto (by decide) dX12_node_22) <|
  ms_occ (s_iconst dX12_node_25 (by decide)) <|
  ms_oc1 rfl (s_put (r := (RX12, TX12, 45)) rfl (by decide) rfl rfl (ms_nar0 rfl) (Or.inl rfl) kw_922 dX12_node_26) <|
  ms_oc1 rfl (s_aload_n rfl dX12_node_29) <|
  ms_oc1 rfl (s_get (r := (RX12, TX12, 45)) rfl (by decide) rfl rfl kw_922 dX12_node_30) <|
  ms_oc1 rfl (s_ifle (by decide) dX12_node_33) <|
  ms_oc1 rfl (s_iconst dX12_node_36 (by decide)) <|
  ms_oc1 rfl (s_iret (b := false) rfl dX12_node_37) <|
  ms_oc1 rfl (s_iload_n rfl dX12_node_38) <|
  ms_oc1 rfl (s_tsw dX12_node_39 (by decide) (by decide) (by decide)) <|
  ms_oc1 rfl (s_aload_n rfl dX12_node_76) <|
  ms_oc1 rfl (s_get (r := (RX12, TX12, 45)) rfl (by decide) rfl rfl kw_923 dX12_node_77) <|
  ms_oc1 rfl (s_iload_n rfl dX12_node_80) <|
  ms_oc1 rfl (s_invS kw_1146 kw_1147 kw_88 kw_1148 ⟨by decide +kernel, by decide +kernel, by decide +kernel⟩ (by decide) dX12_node_81) <|
  ms_oc1 rfl (s_iret (b := false) rfl dX12_node_84) <|
  ms_oc1 rfl (s_aload_n rfl dX12_node_85) <|
  ms_oc1 rfl (s_get (r := (RX12, TX12, 45)) rfl (by decide) rfl rfl kw_923 dX12_node_86) <|
  ms_oc1 rfl (s_iload_n rfl dX12_node_89) <|
  ms_oc1 rfl (s_invS kw_1149 kw_1150 kw_88 kw_1151 ⟨by decide +kernel, by decide +kernel, by decide +kernel⟩ (by decide) dX12_node_90) <|
  ms_oc1 rfl (s_iret (b := false) rfl dX12_node_93) <|
  ms_oc1 rfl (s_aload_n rfl dX12_node_94) <|
  ms_oc1 rfl (s_iload_n rfl dX12_node_95) <|
  ms_oc1 rfl (s_invV (r := (RX12, TX12, 45)) rfl rfl kw_1176 kw_1178 kw_57 kw_88 kw_1179 ⟨by decide +kernel, by decide +kernel, by decide +kernel⟩ (by decide) dX12_node_96) <|
  ms_oc1 rfl (s_iret (b := false) rfl dX12_node_99) <|
  ms_oc1 rfl (s_aload_n rfl dX12_node_100) <|
  ms_oc1 rfl (s_invV (r := (RX12, TX12, 45)) rfl rfl kw_1184 kw_1186 kw_59 kw_88 kw_1187 ⟨by decide +kernel, by decide +kernel, by decide +kernel⟩ (by decide) dX12_node_101) <|
  ms_oc1 rfl (s_pop dX12_node_104) <|
  ms_oc1 rfl (s_aload_n rfl dX12_node_105) <|
  ms_oc1 rfl (s_get (r := (RX12, TX12, 45)) rfl (by decide) rfl rfl kw_948 dX12_node_106) <|
  ms_oc1 rfl (s_iload_n rfl dX12_node_109) <|
  ms_oc1 rfl (s_iaload dX12_node_110) <|
  ms_oc1 rfl (s_iret (b := false) rfl dX12_node_111) <|
  ms_oc1 rfl (s_aload_n rfl dX12_node_112) <|
  ms_oc1 rfl (s_invV (r := (RX12, TX12, 45)) rfl rfl kw_1180 kw_1182 kw_58 kw_88 kw_1183 ⟨by decide +kernel, by decide +kernel, by decide +kernel⟩ (by decide) dX12_node_113) <|
  ms_oc1 rfl (s_aload_n rfl dX12_node_116) <|
  ms_oc1 rfl (s_get (r := (RX12, TX12, 45)) rfl (by decide) rfl rfl kw_947 dX12_node_117) <|
  ms_oc1 rfl (s_iload_n rfl dX12_node_120) <|
  ms_oc1 rfl (s_baload dX12_node_121) <|
  ms_oc1 rfl (s_ifeq (by decide) dX12_node_122) <|
  ms_oc1 rfl (s_iconst dX12_node_125 (by decide)) <|
  ms_oc1 rfl (s_goto (by decide) dX12_node_126) <|
  ms_occ (s_iconst dX12_node_129 (by decide)) <|
  ms_oc1 rfl (s_iret (b := false) rfl dX12_node_130) <|
  ms_oc1 rfl (s_aload_n rfl dX12_node_131) <|
  ms_oc1 rfl (s_aload_n rfl dX12_node_132) <|
  ms_oc1 rfl (s_get (r := (RX12, TX12, 45)) rfl (by decide) rfl rfl kw_923 dX12_node_133) <|
  ms_oc1 rfl (s_invV (r := (RX12, TX12, 45)) rfl rfl kw_1142 kw_1144 kw_52 kw_88 kw_1145 ⟨by decide +kernel, by decide +kernel, by decide +kernel⟩ (by decide) dX12_node_136) <|
  ms_oc1 rfl (s_aload_n rfl dX12_node_139) <|
  ms_oc1 rfl (s_iload_n rfl dX12_node_140) <|
  ms_oc1 rfl (s_aload_n rfl dX12_node_141) <|
  ms_oc1 rfl (s_get (r := (RX12, TX12, 45)) rfl (by decide) rfl rfl kw_923 dX12_node_142) <|
  ms_oc1 rfl (s_iconst dX12_node_145 (by decide)) <|
  ms_oc1 rfl (s_iaload dX12_node_146) <|
  ms_oc1 rfl (s_invV (r := (RX12, TX12, 45)) rfl rfl kw_1198 kw_1200 kw_61 kw_88 kw_1201 ⟨by decide +kernel, by decide +kernel, by decide +kernel⟩ (by decide) dX12_node_147) <|
  ms_oc1 rfl (s_iret (b := false) rfl dX12_node_150) <|
  ms_oc1 rfl (s_iconst dX12_node_151 (by decide)) <|
  ms_oc1 rfl (s_istore_n rfl (by decide) dX12_node_152) <|
  ms_oc1 rfl (s_aload_n rfl dX12_node_153) <|
  ms_oc1 rfl (s_get (r := (RX12, TX12, 45)) rfl (by decide) rfl rfl kw_923 dX12_node_154) <|
  ms_oc1 rfl (s_iconst dX12_node_157 (by decide)) <|
  ms_oc1 rfl (s_iaload dX12_node_158) <|
  ms_occ (s_istore (by decide) dX12_node_159) <|
  ms_oc1 rfl (s_iload dX12_node_161) <|
  ms_oc1 rfl (s_aload_n rfl dX12_node_163) <|
  ms_oc1 rfl (s_get (r := (RX12, TX12, 45)) rfl (by decide) rfl rfl kw_923 dX12_node_164) <|
  ms_oc1 rfl (s_invS kw_1122 kw_1123 kw_88 kw_1124 ⟨by decide +kernel, by decide +kernel, by decide +kernel⟩ (by decide) dX12_node_167) <|
  ms_oc1 rfl (s_icmpge (by decide) dX12_node_170) <|
  ms_oc1 rfl (s_iload_n rfl dX12_node_173) <|
  ms_oc1 rfl (s_aload_n rfl dX12_node_174) <|
  ms_oc1 rfl (s_get (r := (RX12, TX12, 45)) rfl (by decide) rfl rfl kw_923 dX12_node_175) <|
  ms_oc1 rfl (s_iload dX12_node_178) <|
  ms_oc1 rfl (s_invS kw_1146 kw_1147 kw_88 kw_1148 ⟨by decide +kernel, by decide +kernel, by decide +kernel⟩ (by decide) dX12_node_180) <|
  ms_oc1 rfl (s_iload_n rfl dX12_node_183) <|
  ms_oc1 rfl (s_icmpne (by decide) dX12_node_184) <|
  ms_oc1 rfl (s_iconst dX12_node_187 (by decide)) <|
  ms_oc1 rfl (s_goto (by decide) dX12_node_188) <|
  ms_occ (s_iconst dX12_node_191 (by decide)) <|
  ms_oc1 rfl (s_aload_n rfl dX12_node_192) <|
  ms_oc1 rfl (s_get (r := (RX12, TX12, 45)) rfl (by decide) rfl rfl kw_923 dX12_node_193) <|
  ms_oc1 rfl (s_iload dX12_node_196) <|
  ms_oc1 rfl (s_invS kw_1149 kw_1150 kw_88 kw_1151 ⟨by decide +kernel, by decide +kernel, by decide +kernel⟩ (by decide) dX12_node_198) <|
  ms_oc1 rfl (s_iload_n rfl dX12_node_201) <|
  ms_oc1 rfl (s_icmpne (by decide) dX12_node_202) <|
  ms_oc1 rfl (s_iconst dX12_node_205 (by decide)) <|
  ms_oc1 rfl (s_goto (by decide) dX12_node_206) <|
  ms_occ (s_iconst dX12_node_209 (by decide)) <|
  ms_oc1 rfl (s_iadd dX12_node_210) <|
  ms_oc1 rfl (s_iadd dX12_node_211) <|
  ms_oc1 rfl (s_istore_n rfl (by decide) dX12_node_212) <|
  ms_oc1 rfl (s_iinc (by decide) dX12_node_213) <|
  ms_oc1 rfl (s_goto (by decide) dX12_node_216) <|
  ms_oc1 rfl (s_iload_n rfl dX12_node_219) <|
  ms_oc0 (s_iret (b := false) rfl dX12_node_220)

def tX12_exponent (G : ms_G) (Q : ms_Q) (d : Nat) : List (Nat × ms_T) := [(0, (o_ld 0 2)), (1, (o_ci 0)), (2, (o_put 12 0 0)), (5, (o_ld 0 2)), (6, (o_ld 1 0)), (7, (o_invV G d mX12_isNode 12 1 0 0)), (10, (o_if1 G Q mX12_exponent (d + 1) (fun x => x = 0) 31)), (13, (o_ld 2 0)), (14, (o_un 0 1 (fun a => a))), (15, (o_cl 0)), (16, (o_ld 0 2)), (17, (o_get 12 1 2)), (20, (o_ci 0)), (21, (o_ald 100 0)), (22, (o_ci 1)), (23, (o_bin (fun a b => w32 (a - b)))), (24, (o_un 0 1 (fun a => a))), (25, (o_invS G d mX12_within 3 0 0)), (28, (o_if1 G Q mX12_exponent (d + 1) (fun x => ¬ x = 0) 35)), (100000, o_go G Q mX12_exponent (d + 1) 31), (31, (o_cl (-1))), (34, (o_lret Q)), (35, (o_ld 0 2)), (36, (o_ld 0 2)), (37, (o_get 12 1 2)), (40, (o_invV G d mX12_powersOf 12 1 0 0)), (43, (o_ld 0 2)), (44, (o_get 12 7 2)), (47, (o_ci 4)), (48, (o_ld 1 0)), (49, (o_bin (fun a b => w32 (a * b)))), (50, (o_ld 2 0)), (51, (o_bin (fun a b => w32 (a + b)))), (52, (o_ald 101 1)), (53, (o_lret Q))]
set_option maxRecDepth 100000 in
set_option maxHeartbeats 4000000 in
theorem kX12_exponent (G : ms_G) (Q : ms_Q) (d : Nat) : ms_Oc G Q mX12_exponent (d + 1) (tX12_exponent G Q d) :=
  ms_oc1 rfl (s_aload_n rfl dX12_exponent_0) <|
  ms_oc1 rfl (s_iconst dX12_exponent_1 (by decide)) <|
  ms_oc1 rfl (s_put (r := (RX12, TX12, 45)) rfl (by decide) rfl rfl (ms_nar0 rfl) (Or.inl rfl) kw_922 dX12_exponent_2) <|
  ms_oc1 rfl (s_aload_n rfl dX12_exponent_5) <|
  ms_oc1 rfl (s_iload_n rfl dX12_exponent_6) <|
  ms_oc1 rfl (s_invV (r := (RX12, TX12, 45)) rfl rfl kw_1193 kw_1195 kw_60 kw_88 kw_1196 ⟨by decide +kernel, by decide +kernel, by decide +kernel⟩ (by decide) dX12_exponent_7) <|
  ms_oc1 rfl (s_ifeq (by decide) dX12_exponent_10) <|
  ms_oc1 rfl (s_iload_n rfl dX12_exponent_13) <|
  ms_oc1 rfl (s_i2l dX12_exponent_14) <|
  ms_oc1 rfl (s_lconst dX12_exponent_15 (by decide) (by decide)) <|
  ms_oc1 rfl (s_aload_n rfl dX12_exponent_16) <|
  ms_oc1 rfl (s_get (r := (RX12, TX12, 45)) rfl (by decide) rfl rfl kw_923 dX12_exponent_17) <|
  ms_oc1 rfl (s_iconst dX12_exponent_20 (by decide)) <|
  ms_oc1 rfl (s_iaload dX12_exponent_21) <|
  ms_oc1 rfl (s_iconst dX12_exponent_22 (by decide)) <|
  ms_oc1 rfl (s_isub dX12_exponent_23) <|
  ms_oc1 rfl (s_i2l dX12_exponent_24) <|
  ms_oc1 rfl (s_invS kw_1062 kw_1063 kw_88 kw_1064 ⟨by decide +kernel, by decide +kernel, by decide +kernel⟩ (by decide) dX12_exponent_25) <|
  ms_occ (s_ifne (by decide) dX12_exponent_28) <|
  ms_oc1 rfl (s_ldc2 dX12_exponent_31 kw_1210 (by decide) (by decide)) <|
  ms_oc1 rfl (s_lret rfl dX12_exponent_34) <|
  ms_oc1 rfl (s_aload_n rfl dX12_exponent_35) <|
  ms_oc1 rfl (s_aload_n rfl dX12_exponent_36) <|
  ms_oc1 rfl (s_get (r := (RX12, TX12, 45)) rfl (by decide) rfl rfl kw_923 dX12_exponent_37) <|
  ms_oc1 rfl (s_invV (r := (RX12, TX12, 45)) rfl rfl kw_1142 kw_1144 kw_52 kw_88 kw_1145 ⟨by decide +kernel, by decide +kernel, by decide +kernel⟩ (by decide) dX12_exponent_40) <|
  ms_oc1 rfl (s_aload_n rfl dX12_exponent_43) <|
  ms_oc1 rfl (s_get (r := (RX12, TX12, 45)) rfl (by decide) rfl rfl kw_929 dX12_exponent_44) <|
  ms_oc1 rfl (s_iconst dX12_exponent_47 (by decide)) <|
  ms_oc1 rfl (s_iload_n rfl dX12_exponent_48) <|
  ms_oc1 rfl (s_imul dX12_exponent_49) <|
  ms_oc1 rfl (s_iload_n rfl dX12_exponent_50) <|
  ms_oc1 rfl (s_iadd dX12_exponent_51) <|
  ms_oc1 rfl (s_laload dX12_exponent_52) <|
  ms_oc0 (s_lret rfl dX12_exponent_53)

def tX12_wanted (G : ms_G) (Q : ms_Q) (d : Nat) : List (Nat × ms_T) := [(0, (o_ld 0 2)), (1, (o_ci 0)), (2, (o_put 12 0 0)), (5, (o_ld 1 0)), (6, (o_un 0 1 (fun a => a))), (7, (o_cl 0)), (8, (o_ld 0 2)), (9, (o_get 12 1 2)), (12, (o_ci 2)), (13, (o_ald 100 0)), (14, (o_ci 1)), (15, (o_bin (fun a b => w32 (a - b)))), (16, (o_un 0 1 (fun a => a))), (17, (o_invS G d mX12_within 3 0 0)), (20, (o_if1 G Q mX12_wanted (d + 1) (fun x => x = 0) 35)), (23, (o_ld 0 2)), (24, (o_get 12 1 2)), (27, (o_ci 123)), (29, (o_ld 1 0)), (30, (o_bin (fun a b => w32 (a + b)))), (31, (o_ald 100 0)), (32, (o_go G Q mX12_wanted (d + 1) 36)), (35, (o_ci (-1))), (100000, o_go G Q mX12_wanted (d + 1) 36), (36, (o_ret Q false))]
set_option maxRecDepth 100000 in
set_option maxHeartbeats 4000000 in
theorem kX12_wanted (G : ms_G) (Q : ms_Q) (d : Nat) : ms_Oc G Q mX12_wanted (d + 1) (tX12_wanted G Q d) :=
  ms_oc1 rfl (s_aload_n rfl dX12_wanted_0) <|
  ms_oc1 rfl (s_iconst dX12_wanted_1 (by decide)) <|
  ms_oc1 rfl (s_put (r := (RX12, TX12, 45)) rfl (by decide) rfl rfl (ms_nar0 rfl) (Or.inl rfl) kw_922 dX12_wanted_2) <|
  ms_oc1 rfl (s_iload_n rfl dX12_wanted_5) <|
  ms_oc1 rfl (s_i2l dX12_wanted_6) <|
  ms_oc1 rfl (s_lconst dX12_wanted_7 (by decide) (by decide)) <|
  ms_oc1 rfl (s_aload_n rfl dX12_wanted_8) <|
  ms_oc1 rfl (s_get (r := (RX12, TX12, 45)) rfl (by decide) rfl rfl kw_923 dX12_wanted_9) <|
  ms_oc1 rfl (s_iconst dX12_wanted_12 (by decide)) <|
  ms_oc1 rfl (s_iaload dX12_wanted_13) <|
  ms_oc1 rfl (s_iconst dX12_wanted_14 (by decide)) <|
  ms_oc1 rfl (s_isub dX12_wanted_15) <|
  ms_oc1 rfl (s_i2l dX12_wanted_16) <|
  ms_oc1 rfl (s_invS kw_1062 kw_1063 kw_88 kw_1064 ⟨by decide +kernel, by decide +kernel, by decide +kernel⟩ (by decide) dX12_wanted_17) <|
  ms_oc1 rfl (s_ifeq (by decide) dX12_wanted_20) <|
  ms_oc1 rfl (s_aload_n rfl dX12_wanted_23) <|
  ms_oc1 rfl (s_get (r := (RX12, TX12, 45)) rfl (by decide) rfl rfl kw_923 dX12_wanted_24) <|
  ms_oc1 rfl (s_bipush dX12_wanted_27 (by decide) (by decide)) <|
  ms_oc1 rfl (s_iload_n rfl dX12_wanted_29) <|
  ms_oc1 rfl (s_iadd dX12_wanted_30) <|
  ms_oc1 rfl (s_iaload dX12_wanted_31) <|
  ms_oc1 rfl (s_goto (by decide) dX12_wanted_32) <|
  ms_occ (s_iconst dX12_wanted_35 (by decide)) <|
  ms_oc0 (s_iret (b := false) rfl dX12_wanted_36)

def tX12_run (G : ms_G) (Q : ms_Q) (d : Nat) : List (Nat × ms_T) := [(0, (o_ld 0 2)), (1, (o_ci 0)), (2, (o_put 12 0 0)), (5, (o_ld 0 2)), (6, (o_ld 1 0)), (7, (o_invV G d mX12_isNode 12 1 0 0)), (10, (o_if1 G Q mX12_run (d + 1) (fun x => x = 0) 27)), (13, (o_ld 2 0)), (14, (o_un 0 1 (fun a => a))), (15, (o_cl (2))), (18, (o_cl (1000000000))), (21, (o_invS G d mX12_within 3 0 0)), (24, (o_if1 G Q mX12_run (d + 1) (fun x => ¬ x = 0) 29)), (100000, o_go G Q mX12_run (d + 1) 27), (27, (o_ci (-1))), (28, (o_ret Q false)), (29, (o_ci 0)), (30, (o_st 7 0)), (100000, o_go G Q mX12_run (d + 1) 32), (32, (o_ld 7 0)), (34, (o_ld 1 0)), (35, (o_if2 G Q mX12_run (d + 1) (fun a b => b < a) 146)), (38, (o_ld 7 0)), (40, (o_ld 0 2)), (41, (o_get 12 1 2)), (44, (o_ci 0)), (45, (o_ald 100 0)), (46, (o_if2 G Q mX12_run (d + 1) (fun a b => b ≤ a) 101)), (49, (o_ld 7 0)), (51, (o_if1 G Q mX12_run (d + 1) (fun x => ¬ x = 0) 58)), (54, (o_ld 3 0)), (55, (o_go G Q mX12_run (d + 1) 82)), (58, (o_ld 7 0)), (60, (o_ci 1)), (61, (o_if2 G Q mX12_run (d + 1) (fun a b => ¬ a = b) 69)), (64, (o_ld 4 0)), (66, (o_go G Q mX12_run (d + 1) 82)), (69, (o_ld 7 0)), (71, (o_ci 2)), (72, (o_if2 G Q mX12_run (d + 1) (fun a b => ¬ a = b) 80)), (75, (o_ld 5 0)), (77, (o_go G Q mX12_run (d + 1) 82)), (80, (o_ld 6 0)), (100000, o_go G Q mX12_run (d + 1) 82), (82, (o_st 8 0)), (84, (o_ld 0 2)), (85, (o_get 12 27 2)), (88, (o_ld 7 0)), (90, (o_ld 8 0)), (92, (o_ld 2 0)), (93, (o_invS G d mJ9_floorMod_7cf53 2 0 0)), (96, (o_un 0 1 (fun a => a))), (97, (o_ast 101 1 (fun x => x))), (98, (o_go G Q mX12_run (d + 1) 140)), (101, (o_ld 0 2)), (102, (o_get 12 27 2)), (105, (o_ld 7 0)), (107, (o_ld 0 2)), (108, (o_get 12 27 2)), (111, (o_ld 0 2)), (112, (o_get 12 1 2)), (115, (o_ld 7 0)), (117, (o_invS G d mX12_leftOf 2 0 0)), (120, (o_ald 101 1)), (121, (o_ld 0 2)), (122, (o_get 12 27 2)), (125, (o_ld 0 2)), (126, (o_get 12 1 2)), (129, (o_ld 7 0)), (131, (o_invS G d mX12_rightOf 2 0 0)), (134, (o_ald 101 1)), (135, (o_lbin (fun a b => w64 (a * b)))), (136, (o_ld 2 0)), (137, (o_un 0 1 (fun a => a))), (138, (o_ldv wlrem)), (139, (o_ast 101 1 (fun x => x))), (100000, o_go G Q mX12_run (d + 1) 140), (140, (o_inc 7 1)), (143, (o_go G Q mX12_run (d + 1) 32)), (146, (o_ld 0 2)), (147, (o_get 12 27 2)), (150, (o_ld 1 0)), (151, (o_ald 101 1)), (152, (o_un 1 0 w32)), (153, (o_ret Q false))]
set_option maxRecDepth 100000 in
set_option maxHeartbeats 4000000 in
theorem kX12_run (G : ms_G) (Q : ms_Q) (d : Nat) : ms_Oc G Q mX12_run (d + 1) (tX12_run G Q d) :=
  ms_oc1 rfl (s_aload_n rfl dX12_run_0) <|
  ms_oc1 rfl (s_iconst dX12_run_1 (by decide)) <|
  ms_oc1 rfl (s_put (r := (RX12, TX12, 45)) rfl (by decide) rfl rfl (ms_nar0 rfl) (Or.inl rfl) kw_922 dX12_run_2) <|
  ms_oc1 rfl (s_aload_n rfl dX12_run_5) <|
  ms_oc1 rfl (s_iload_n rfl dX12_run_6) <|
  ms_oc1 rfl (s_invV (r := (RX12, TX12, 45)) rfl rfl kw_1193 kw_1195 kw_60 kw_88 kw_1196 ⟨by decide +kernel, by decide +kernel, by decide +kernel⟩ (by decide) dX12_run_7) <|
  ms_oc1 rfl (s_ifeq (by decide) dX12_run_10) <|
  ms_oc1 rfl (s_iload_n rfl dX12_run_13) <|
  ms_oc1 rfl (s_i2l dX12_run_14) <|
  ms_oc1 rfl (s_ldc2 dX12_run_15 kw_1129 (by decide) (by decide)) <|
  ms_oc1 rfl (s_ldc2 dX12_run_18 kw_1219 (by decide) (by decide)) <|
  ms_oc1 rfl (s_invS kw_1062 kw_1063 kw_88 kw_1064 ⟨by decide +kernel, by decide +kernel, by decide +kernel⟩ (by decide) dX12_run_21) <|
  ms_occ (s_ifne (by decide) dX12_run_24) <|
  ms_oc1 rfl (s_iconst dX12_run_27 (by decide)) <|
  ms_oc1 rfl (s_iret (b := false) rfl dX12_run_28) <|
  ms_oc1 rfl (s_iconst dX12_run_29 (by decide)) <|
  ms_occ (s_istore (by decide) dX12_run_30) <|
  ms_oc1 rfl (s_iload dX12_run_32) <|
  ms_oc1 rfl (s_iload_n rfl dX12_run_34) <|
  ms_oc1 rfl (s_icmpgt (by decide) dX12_run_35) <|
  ms_oc1 rfl (s_iload dX12_run_38) <|
  ms_oc1 rfl (s_aload_n rfl dX12_run_40) <|
  ms_oc1 rfl (s_get (r := (RX12, TX12, 45)) rfl (by decide) rfl rfl kw_923 dX12_run_41) <|
  ms_oc1 rfl (s_iconst dX12_run_44 (by decide)) <|
  ms_oc1 rfl (s_iaload dX12_run_45) <|
  ms_oc1 rfl (s_icmpge (by decide) dX12_run_46) <|
  ms_oc1 rfl (s_iload dX12_run_49) <|
  ms_oc1 rfl (s_ifne (by decide) dX12_run_51) <|
  ms_oc1 rfl (s_iload_n rfl dX12_run_54) <|
  ms_oc1 rfl (s_goto (by decide) dX12_run_55) <|
  ms_oc1 rfl (s_iload dX12_run_58) <|
  ms_oc1 rfl (s_iconst dX12_run_60 (by decide)) <|
  ms_oc1 rfl (s_icmpne (by decide) dX12_run_61) <|
  ms_oc1 rfl (s_iload dX12_run_64) <|
  ms_oc1 rfl (s_goto (by decide) dX12_run_66) <|
  ms_oc1 rfl (s_iload dX12_run_69) <|
  ms_oc1 rfl (s_iconst dX12_run_71 (by decide)) <|
  ms_oc1 rfl (s_icmpne (by decide) dX12_run_72) <|
  ms_oc1 rfl (s_iload dX12_run_75) <|
  ms_oc1 rfl (s_goto (by decide) dX12_run_77) <|
  ms_occ (s_iload dX12_run_80) <|
  ms_oc1 rfl (s_istore (by decide) dX12_run_82) <|
  ms_oc1 rfl (s_aload_n rfl dX12_run_84) <|
  ms_oc1 rfl (s_get (r := (RX12, TX12, 45)) rfl (by decide) rfl rfl kw_949 dX12_run_85) <|
  ms_oc1 rfl (s_iload dX12_run_88) <|
  ms_oc1 rfl (s_iload dX12_run_90) <|
  ms_oc1 rfl (s_iload_n rfl dX12_run_92) <|
  ms_oc1 rfl (s_invS kw_1220 kw_608 kw_91 kw_609 ⟨by decide +kernel, by decide +kernel, by decide +kernel⟩ (by decide) dX12_run_93) <|
  ms_oc1 rfl (s_i2l dX12_run_96) <|
  ms_oc1 rfl (s_lastore dX12_run_97) <|
  ms_oc1 rfl (s_goto (by decide) dX12_run_98) <|
  ms_oc1 rfl (s_aload_n rfl dX12_run_101) <|
  ms_oc1 rfl (s_get (r := (RX12, TX12, 45)) rfl (by decide) rfl rfl kw_949 dX12_run_102) <|
  ms_oc1 rfl (s_iload dX12_run_105) <|
  ms_oc1 rfl (s_aload_n rfl dX12_run_107) <|
  ms_oc1 rfl (s_get (r := (RX12, TX12, 45)) rfl (by decide) rfl rfl kw_949 dX12_run_108) <|
  ms_oc1 rfl (s_aload_n rfl dX12_run_111) <|
  ms_oc1 rfl (s_get (r := (RX12, TX12, 45)) rfl (by decide) rfl rfl kw_923 dX12_run_112) <|
  ms_oc1 rfl (s_iload dX12_run_115) <|
  ms_oc1 rfl (s_invS kw_1146 kw_1147 kw_88 kw_1148 ⟨by decide +kernel, by decide +kernel, by decide +kernel⟩ (by decide) dX12_run_117) <|
  ms_oc1 rfl (s_laload dX12_run_120) <|
  ms_oc1 rfl (s_aload_n rfl dX12_run_121) <|
  ms_oc1 rfl (s_get (r := (RX12, TX12, 45)) rfl (by decide) rfl rfl kw_949 dX12_run_122) <|
  ms_oc1 rfl (s_aload_n rfl dX12_run_125) <|
  ms_oc1 rfl (s_get (r := (RX12, TX12, 45)) rfl (by decide) rfl rfl kw_923 dX12_run_126) <|
  ms_oc1 rfl (s_iload dX12_run_129) <|
  ms_oc1 rfl (s_invS kw_1149 kw_1150 kw_88 kw_1151 ⟨by decide +kernel, by decide +kernel, by decide +kernel⟩ (by decide) dX12_run_131) <|
  ms_oc1 rfl (s_laload dX12_run_134) <|
  ms_oc1 rfl (s_lmul dX12_run_135) <|
  ms_oc1 rfl (s_iload_n rfl dX12_run_136) <|
  ms_oc1 rfl (s_i2l dX12_run_137) <|
  ms_oc1 rfl (s_lrem dX12_run_138) <|
  ms_occ (s_lastore dX12_run_139) <|
  ms_oc1 rfl (s_iinc (by decide) dX12_run_140) <|
  ms_oc1 rfl (s_goto (by decide) dX12_run_143) <|
  ms_oc1 rfl (s_aload_n rfl dX12_run_146) <|
  ms_oc1 rfl (s_get (r := (RX12, TX12, 45)) rfl (by decide) rfl rfl kw_949 dX12_run_147) <|
  ms_oc1 rfl (s_iload_n rfl dX12_run_150) <|
  ms_oc1 rfl (s_laload dX12_run_151) <|
  ms_oc1 rfl (s_l2i dX12_run_152) <|
  ms_oc0 (s_iret (b := false) rfl dX12_run_153)

def tX12_add (G : ms_G) (Q : ms_Q) (d : Nat) : List (Nat × ms_T) := [(0, (o_ld 0 2)), (1, (o_ci 0)), (2, (o_put 12 0 0)), (5, (o_ld 0 2)), (6, (o_ld 1 0)), (7, (o_invV G d mX12_isNode 12 1 0 0)), (10, (o_if1 G Q mX12_add (d + 1) (fun x => x = 0) 32)), (13, (o_ld 0 2)), (14, (o_ld 2 0)), (15, (o_invV G d mX12_isNode 12 1 0 0)), (18, (o_if1 G Q mX12_add (d + 1) (fun x => x = 0) 32)), (21, (o_ld 0 2)), (22, (o_get 12 1 2)), (25, (o_ci 1)), (26, (o_ald 100 0)), (27, (o_ci 60)), (29, (o_if2 G Q mX12_add (d + 1) (fun a b => ¬ a = b) 34)), (100000, o_go G Q mX12_add (d + 1) 32), (32, (o_ci (-1))), (33, (o_ret Q false)), (34, (o_ld 0 2)), (35, (o_get 12 1 2)), (38, (o_ci 0)), (39, (o_ld 0 2)), (40, (o_get 12 2 2)), (43, (o_ci 0)), (44, (o_invS G d mX12_copies 4 0 0)), (47, (o_ld 0 2)), (48, (o_get 12 2 2)), (51, (o_ld 1 0)), (52, (o_ld 2 0)), (53, (o_invS G d mX12_puts 3 0 0)), (56, (o_st 3 0)), (57, (o_ld 0 2)), (58, (o_ld 0 2)), (59, (o_get 12 2 2)), (62, (o_invV G d mX12_areHuge 12 1 0 0)), (65, (o_if1 G Q mX12_add (d + 1) (fun x => x = 0) 71)), (68, (o_ci (-2))), (70, (o_ret Q false)), (71, (o_ld 0 2)), (72, (o_invV G d mX12_becomes 12 0 0 0)), (75, o_pop), (76, (o_ld 3 0)), (77, (o_ret Q false))]
set_option maxRecDepth 100000 in
set_option maxHeartbeats 4000000 in
theorem kX12_add (G : ms_G) (Q : ms_Q) (d : Nat) : ms_Oc G Q mX12_add (d + 1) (tX12_add G Q d) :=
  ms_oc1 rfl (s_aload_n rfl dX12_add_0) <|
  ms_oc1 rfl (s_iconst dX12_add_1 (by decide)) <|
  ms_oc1 rfl (s_put (r := (RX12, TX12, 45)) rfl (by decide) rfl rfl (ms_nar0 rfl) (Or.inl rfl) kw_922 dX12_add_2) <|
  ms_oc1 rfl (s_aload_n rfl dX12_add_5) <|
  ms_oc1 rfl (s_iload_n rfl dX12_add_6) <|
  ms_oc1 rfl (s_invV (r := (RX12, TX12, 45)) rfl rfl kw_1193 kw_1195 kw_60 kw_88 kw_1196 ⟨by decide +kernel, by decide +kernel, by decide +kernel⟩ (by decide) dX12_add_7) <|
  ms_oc1 rfl (s_ifeq (by decide) dX12_add_10) <|
  ms_oc1 rfl (s_aload_n rfl dX12_add_13) <|
  ms_oc1 rfl (s_iload_n rfl dX12_add_14) <|
  ms_oc1 rfl (s_invV (r := (RX12, TX12, 45)) rfl rfl kw_1193 kw_1195 kw_60 kw_88 kw_1196 ⟨by decide +kernel, by decide +kernel, by decide +kernel⟩ (by decide) dX12_add_15) <|
  ms_oc1 rfl (s_ifeq (by decide) dX12_add_18) <|
  ms_oc1 rfl (s_aload_n rfl dX12_add_21) <|
  ms_oc1 rfl (s_get (r := (RX12, TX12, 45)) rfl (by decide) rfl rfl kw_923 dX12_add_22) <|
  ms_oc1 rfl (s_iconst dX12_add_25 (by decide)) <|
  ms_oc1 rfl (s_iaload dX12_add_26) <|
  ms_oc1 rfl (s_bipush dX12_add_27 (by decide) (by decide)) <|
  ms_occ (s_icmpne (by decide) dX12_add_29) <|
  ms_oc1 rfl (s_iconst dX12_add_32 (by decide)) <|
  ms_oc1 rfl (s_iret (b := false) rfl dX12_add_33) <|
  ms_oc1 rfl (s_aload_n rfl dX12_add_34) <|
  ms_oc1 rfl (s_get (r := (RX12, TX12, 45)) rfl (by decide) rfl rfl kw_923 dX12_add_35) <|
  ms_oc1 rfl (s_iconst dX12_add_38 (by decide)) <|
  ms_oc1 rfl (s_aload_n rfl dX12_add_39) <|
  ms_oc1 rfl (s_get (r := (RX12, TX12, 45)) rfl (by decide) rfl rfl kw_924 dX12_add_40) <|
  ms_oc1 rfl (s_iconst dX12_add_43 (by decide)) <|
  ms_oc1 rfl (s_invS kw_1165 kw_1166 kw_88 kw_1167 ⟨by decide +kernel, by decide +kernel, by decide +kernel⟩ (by decide) dX12_add_44) <|
  ms_oc1 rfl (s_aload_n rfl dX12_add_47) <|
  ms_oc1 rfl (s_get (r := (RX12, TX12, 45)) rfl (by decide) rfl rfl kw_924 dX12_add_48) <|
  ms_oc1 rfl (s_iload_n rfl dX12_add_51) <|
  ms_oc1 rfl (s_iload_n rfl dX12_add_52) <|
  ms_oc1 rfl (s_invS kw_1135 kw_1136 kw_88 kw_1137 ⟨by decide +kernel, by decide +kernel, by decide +kernel⟩ (by decide) dX12_add_53) <|
  ms_oc1 rfl (s_istore_n rfl (by decide) dX12_add_56) <|
  ms_oc1 rfl (s_aload_n rfl dX12_add_57) <|
  ms_oc1 rfl (s_aload_n rfl dX12_add_58) <|
  ms_oc1 rfl (s_get (r := (RX12, TX12, 45)) rfl (by decide) rfl rfl kw_924 dX12_add_59) <|
  ms_oc1 rfl (s_invV (r := (RX12, TX12, 45)) rfl rfl kw_1138 kw_1140 kw_51 kw_88 kw_1141 ⟨by decide +kernel, by decide +kernel, by decide +kernel⟩ (by decide) dX12_add_62) <|
  ms_oc1 rfl (s_ifeq (by decide) dX12_add_65) <|
  ms_oc1 rfl (s_bipush dX12_add_68 (by decide) (by decide)) <|
  ms_oc1 rfl (s_iret (b := false) rfl dX12_add_70) <|
  ms_oc1 rfl (s_aload_n rfl dX12_add_71) <|
  ms_oc1 rfl (s_invV (r := (RX12, TX12, 45)) rfl rfl kw_1157 kw_1159 kw_54 kw_88 kw_1160 ⟨by decide +kernel, by decide +kernel, by decide +kernel⟩ (by decide) dX12_add_72) <|
  ms_oc1 rfl (s_pop dX12_add_75) <|
  ms_oc1 rfl (s_iload_n rfl dX12_add_76) <|
  ms_oc0 (s_iret (b := false) rfl dX12_add_77)

def tX12_want (G : ms_G) (Q : ms_Q) (d : Nat) : List (Nat × ms_T) := [(0, (o_ld 0 2)), (1, (o_ci 0)), (2, (o_put 12 0 0)), (5, (o_ld 1 0)), (6, (o_un 0 1 (fun a => a))), (7, (o_cl 0)), (8, (o_ld 0 2)), (9, (o_get 12 1 2)), (12, (o_ci 2)), (13, (o_ald 100 0)), (14, (o_un 0 1 (fun a => a))), (15, (o_invS G d mX12_within 3 0 0)), (18, (o_if1 G Q mX12_want (d + 1) (fun x => x = 0) 34)), (21, (o_ld 1 0)), (22, (o_ci 4)), (23, (o_if2 G Q mX12_want (d + 1) (fun a b => a = b) 34)), (26, (o_ld 0 2)), (27, (o_ld 2 0)), (28, (o_invV G d mX12_isNode 12 1 0 0)), (31, (o_if1 G Q mX12_want (d + 1) (fun x => ¬ x = 0) 36)), (100000, o_go G Q mX12_want (d + 1) 34), (34, (o_ci (-1))), (35, (o_ret Q false)), (36, (o_ld 0 2)), (37, (o_invV G d mX12_keeps 12 0 0 0)), (40, (o_ld 0 2)), (41, (o_get 12 1 2)), (44, (o_ci 123)), (46, (o_ld 1 0)), (47, (o_bin (fun a b => w32 (a + b)))), (48, (o_ld 2 0)), (49, (o_ast 100 0 (fun x => x))), (50, (o_ld 0 2)), (51, (o_get 12 1 2)), (54, (o_ci 2)), (55, (o_ld 0 2)), (56, (o_get 12 1 2)), (59, (o_ci 2)), (60, (o_ald 100 0)), (61, (o_ld 1 0)), (62, (o_ci 1)), (63, (o_bin (fun a b => w32 (a + b)))), (64, (o_mx (fun a b => if a < b then b else a))), (67, (o_ast 100 0 (fun x => x))), (68, (o_ld 0 2)), (69, (o_get 12 1 2)), (72, (o_ci 2)), (73, (o_ald 100 0)), (74, (o_ret Q false))]
set_option maxRecDepth 100000 in
set_option maxHeartbeats 4000000 in
theorem kX12_want (G : ms_G) (Q : ms_Q) (d : Nat) : ms_Oc G Q mX12_want (d + 1) (tX12_want G Q d) :=
  ms_oc1 rfl (s_aload_n rfl dX12_want_0) <|
  ms_oc1 rfl (s_iconst dX12_want_1 (by decide)) <|
  ms_oc1 rfl (s_put (r := (RX12, TX12, 45)) rfl (by decide) rfl rfl (ms_nar0 rfl) (Or.inl rfl) kw_922 dX12_want_2) <|
  ms_oc1 rfl (s_iload_n rfl dX12_want_5) <|
  ms_oc1 rfl (s_i2l dX12_want_6) <|
  ms_oc1 rfl (s_lconst dX12_want_7 (by decide) (by decide)) <|
  ms_oc1 rfl (s_aload_n rfl dX12_want_8) <|
  ms_oc1 rfl (s_get (r := (RX12, TX12, 45)) rfl (by decide) rfl rfl kw_923 dX12_want_9) <|
  ms_oc1 rfl (s_iconst dX12_want_12 (by decide)) <|
  ms_oc1 rfl (s_iaload dX12_want_13) <|
  ms_oc1 rfl (s_i2l dX12_want_14) <|
  ms_oc1 rfl (s_invS kw_1062 kw_1063 kw_88 kw_1064 ⟨by decide +kernel, by decide +kernel, by decide +kernel⟩ (by decide) dX12_want_15) <|
  ms_oc1 rfl (s_ifeq (by decide) dX12_want_18) <|
  ms_oc1 rfl (s_iload_n rfl dX12_want_21) <|
  ms_oc1 rfl (s_iconst dX12_want_22 (by decide)) <|
  ms_oc1 rfl (s_icmpeq (by decide) dX12_want_23) <|
  ms_oc1 rfl (s_aload_n rfl dX12_want_26) <|
  ms_oc1 rfl (s_iload_n rfl dX12_want_27) <|
  ms_oc1 rfl (s_invV (r := (RX12, TX12, 45)) rfl rfl kw_1193 kw_1195 kw_60 kw_88 kw_1196 ⟨by decide +kernel, by decide +kernel, by decide +kernel⟩ (by decide) dX12_want_28) <|
  ms_occ (s_ifne (by decide) dX12_want_31) <|
  ms_oc1 rfl (s_iconst dX12_want_34 (by decide)) <|
  ms_oc1 rfl (s_iret (b := false) rfl dX12_want_35) <|
  ms_oc1 rfl (s_aload_n rfl dX12_want_36) <|
  ms_oc1 rfl (s_invV (r := (RX12, TX12, 45)) rfl rfl kw_1161 kw_1163 kw_55 kw_88 kw_1164 ⟨by decide +kernel, by decide +kernel, by decide +kernel⟩ (by decide) dX12_want_37) <|
  ms_oc1 rfl (s_aload_n rfl dX12_want_40) <|
  ms_oc1 rfl (s_get (r := (RX12, TX12, 45)) rfl (by decide) rfl rfl kw_923 dX12_want_41) <|
  ms_oc1 rfl (s_bipush dX12_want_44 (by decide) (by decide)) <|
  ms_oc1 rfl (s_iload_n rfl dX12_want_46) <|
  ms_oc1 rfl (s_iadd dX12_want_47) <|
  ms_oc1 rfl (s_iload_n rfl dX12_want_48) <|
  ms_oc1 rfl (s_iastore dX12_want_49) <|
  ms_oc1 rfl (s_aload_n rfl dX12_want_50) <|
  ms_oc1 rfl (s_get (r := (RX12, TX12, 45)) rfl (by decide) rfl rfl kw_923 dX12_want_51) <|
  ms_oc1 rfl (s_iconst dX12_want_54 (by decide)) <|
  ms_oc1 rfl (s_aload_n rfl dX12_want_55) <|
  ms_oc1 rfl (s_get (r := (RX12, TX12, 45)) rfl (by decide) rfl rfl kw_923 dX12_want_56) <|
  ms_oc1 rfl (s_iconst dX12_want_59 (by decide)) <|
  ms_oc1 rfl (s_iaload dX12_want_60) <|
  ms_oc1 rfl (s_iload_n rfl dX12_want_61) <|
  ms_oc1 rfl (s_iconst dX12_want_62 (by decide)) <|
  ms_oc1 rfl (s_iadd dX12_want_63) <|
  ms_oc1 rfl (s_mmax kw_1188 kw_574 kw_91 kw_575 dX12_want_64) <|
  ms_oc1 rfl (s_iastore dX12_want_67) <|
  ms_oc1 rfl (s_aload_n rfl dX12_want_68) <|
  ms_oc1 rfl (s_get (r := (RX12, TX12, 45)) rfl (by decide) rfl rfl kw_923 dX12_want_69) <|
  ms_oc1 rfl (s_iconst dX12_want_72 (by decide)) <|
  ms_oc1 rfl (s_iaload dX12_want_73) <|
  ms_oc0 (s_iret (b := false) rfl dX12_want_74)

def tX12_squeezes (G : ms_G) (Q : ms_Q) (d : Nat) : List (Nat × ms_T) := [(0, (o_ld 0 2)), (1, (o_get 12 2 2)), (4, (o_invS G d mX12_clears 1 0 0)), (7, (o_ld 0 2)), (8, (o_get 12 2 2)), (11, (o_ci 0)), (12, (o_ld 0 2)), (13, (o_get 12 1 2)), (16, (o_ci 0)), (17, (o_ald 100 0)), (18, (o_ast 100 0 (fun x => x))), (19, (o_ld 0 2)), (20, (o_ld 0 2)), (21, (o_get 12 1 2)), (24, (o_invV G d mX12_powersOf 12 1 0 0)), (27, (o_ld 0 2)), (28, (o_invV G d mX12_needs 12 0 0 0)), (31, (o_ci 0)), (32, (o_st 2 0)), (33, (o_ci 0)), (34, (o_st 3 0)), (100000, o_go G Q mX12_squeezes (d + 1) 35), (35, (o_ld 3 0)), (36, (o_ld 0 2)), (37, (o_get 12 1 2)), (40, (o_invS G d mX12_nodes 1 0 0)), (43, (o_if2 G Q mX12_squeezes (d + 1) (fun a b => b ≤ a) 190)), (46, (o_ld 3 0)), (47, (o_ld 0 2)), (48, (o_get 12 1 2)), (51, (o_ci 0)), (52, (o_ald 100 0)), (53, (o_if2 G Q mX12_squeezes (d + 1) (fun a b => b ≤ a) 66)), (56, (o_ld 0 2)), (57, (o_get 12 28 2)), (60, (o_ld 3 0)), (61, (o_ld 3 0)), (62, (o_ast 100 0 (fun x => x))), (63, (o_go G Q mX12_squeezes (d + 1) 184)), (66, (o_ld 1 0)), (67, (o_if1 G Q mX12_squeezes (d + 1) (fun x => x = 0) 84)), (70, (o_ld 0 2)), (71, (o_ld 3 0)), (72, (o_ld 0 2)), (73, (o_get 12 1 2)), (76, (o_ci 0)), (77, (o_ald 100 0)), (78, (o_invV G d mX12_firstAlike 12 2 0 0)), (81, (o_go G Q mX12_squeezes (d + 1) 85)), (84, (o_ld 3 0)), (100000, o_go G Q mX12_squeezes (d + 1) 85), (85, (o_st 4 0)), (87, (o_ld 1 0)), (88, (o_if1 G Q mX12_squeezes (d + 1) (fun x => x = 0) 105)), (91, (o_ld 4 0)), (93, (o_ld 3 0)), (94, (o_if2 G Q mX12_squeezes (d + 1) (fun a b => ¬ a = b) 101)), (97, (o_ci 1)), (98, (o_go G Q mX12_squeezes (d + 1) 111)), (101, (o_ci 0)), (102, (o_go G Q mX12_squeezes (d + 1) 111)), (105, (o_ld 0 2)), (106, (o_get 12 25 2)), (109, (o_ld 3 0)), (110, o_bald), (100000, o_go G Q mX12_squeezes (d + 1) 111), (111, (o_st 5 0)), (113, (o_ld 5 0)), (115, (o_if1 G Q mX12_squeezes (d + 1) (fun x => x = 0) 160)), (118, (o_ld 0 2)), (119, (o_get 12 28 2)), (122, (o_ld 3 0)), (123, (o_ld 0 2)), (124, (o_get 12 2 2)), (127, (o_ld 0 2)), (128, (o_get 12 28 2)), (131, (o_ld 0 2)), (132, (o_get 12 1 2)), (135, (o_ld 3 0)), (136, (o_invS G d mX12_leftOf 2 0 0)), (139, (o_ald 100 0)), (140, (o_ld 0 2)), (141, (o_get 12 28 2)), (144, (o_ld 0 2)), (145, (o_get 12 1 2)), (148, (o_ld 3 0)), (149, (o_invS G d mX12_rightOf 2 0 0)), (152, (o_ald 100 0)), (153, (o_invS G d mX12_puts 3 0 0)), (156, (o_ast 100 0 (fun x => x))), (157, (o_go G Q mX12_squeezes (d + 1) 184)), (160, (o_ld 0 2)), (161, (o_get 12 28 2)), (164, (o_ld 3 0)), (165, (o_ld 1 0)), (166, (o_if1 G Q mX12_squeezes (d + 1) (fun x => x = 0) 179)), (169, (o_ld 0 2)), (170, (o_get 12 28 2)), (173, (o_ld 4 0)), (175, (o_ald 100 0)), (176, (o_go G Q mX12_squeezes (d + 1) 180)), (179, (o_ci (-1))), (100000, o_go G Q mX12_squeezes (d + 1) 180), (180, (o_ast 100 0 (fun x => x))), (181, (o_inc 2 1)), (100000, o_go G Q mX12_squeezes (d + 1) 184), (184, (o_inc 3 1)), (187, (o_go G Q mX12_squeezes (d + 1) 35)), (190, (o_ld 0 2)), (191, (o_get 12 2 2)), (194, (o_ci 2)), (195, (o_ld 0 2)), (196, (o_get 12 1 2)), (199, (o_ci 2)), (200, (o_ald 100 0)), (201, (o_ast 100 0 (fun x => x))), (202, (o_ci 0)), (203, (o_st 3 0)), (100000, o_go G Q mX12_squeezes (d + 1) 204), (204, (o_ld 3 0)), (205, (o_ld 0 2)), (206, (o_get 12 1 2)), (209, (o_ci 2)), (210, (o_ald 100 0)), (211, (o_if2 G Q mX12_squeezes (d + 1) (fun a b => b ≤ a) 243)), (214, (o_ld 0 2)), (215, (o_get 12 2 2)), (218, (o_ci 123)), (220, (o_ld 3 0)), (221, (o_bin (fun a b => w32 (a + b)))), (222, (o_ld 0 2)), (223, (o_get 12 28 2)), (226, (o_ld 0 2)), (227, (o_get 12 1 2)), (230, (o_ci 123)), (232, (o_ld 3 0)), (233, (o_bin (fun a b => w32 (a + b)))), (234, (o_ald 100 0)), (235, (o_ald 100 0)), (236, (o_ast 100 0 (fun x => x))), (237, (o_inc 3 1)), (240, (o_go G Q mX12_squeezes (d + 1) 204)), (243, (o_ld 2 0)), (244, (o_if1 G Q mX12_squeezes (d + 1) (fun x => x ≤ 0) 252)), (247, (o_ld 0 2)), (248, (o_invV G d mX12_becomes 12 0 0 0)), (251, o_pop), (100000, o_go G Q mX12_squeezes (d + 1) 252), (252, (o_ld 2 0)), (253, (o_ret Q false))]
set_option maxRecDepth 100000 in
set_option maxHeartbeats 4000000 in
theorem kX12_squeezes (G : ms_G) (Q : ms_Q) (d : Nat) : ms_Oc G Q mX12_squeezes (d + 1) (tX12_squeezes G Q d) :=
  ms_oc1 rfl (s_aload_n rfl dX12_squeezes_0) <|
  ms_oc1 rfl (s_get (r := (RX12, TX12, 45)) rfl (by decide) rfl rfl kw_924 dX12_squeezes_1) <|
  ms_oc1 rfl (s_invS kw_1065 kw_1066 kw_88 kw_1067 ⟨by decide +kernel, by decide +kernel, by decide +kernel⟩ (by decide) dX12_squeezes_4) <|
  ms_oc1 rfl (s_aload_n rfl dX12_squeezes_7) <|
  ms_oc1 rfl (s_get (r := (RX12, TX12, 45)) rfl (by decide) rfl rfl kw_924 dX12_squeezes_8) <|
  ms_oc1 rfl (s_iconst dX12_squeezes_11 (by decide)) <|
  ms_oc1 rfl (s_aload_n rfl dX12_squeezes_12) <|
  ms_oc1 rfl (s_get (r := (RX12, TX12, 45)) rfl (by decide) rfl rfl kw_923 dX12_squeezes_13) <|
  ms_oc1 rfl (s_iconst dX12_squeezes_16 (by decide)) <|
  ms_oc1 rfl (s_iaload dX12_squeezes_17) <|
  ms_oc1 rfl (s_iastore dX12_squeezes_18) <|
  ms_oc1 rfl (s_aload_n rfl dX12_squeezes_19) <|
  ms_oc1 rfl (s_aload_n rfl dX12_squeezes_20) <|
  ms_oc1 rfl (s_get (r := (RX12, TX12, 45)) rfl (by decide) rfl rfl kw_923 dX12_squeezes_21) <|
  ms_oc1 rfl (s_invV (r := (RX12, TX12, 45)) rfl rfl kw_1142 kw_1144 kw_52 kw_88 kw_1145 ⟨by decide +kernel, by decide +kernel, by decide +kernel⟩ (by decide) dX12_squeezes_24) <|
  ms_oc1 rfl (s_aload_n rfl dX12_squeezes_27) <|
  ms_oc1 rfl (s_invV (r := (RX12, TX12, 45)) rfl rfl kw_1180 kw_1182 kw_58 kw_88 kw_1183 ⟨by decide +kernel, by decide +kernel, by decide +kernel⟩ (by decide) dX12_squeezes_28) <|
  ms_oc1 rfl (s_iconst dX12_squeezes_31 (by decide)) <|
  ms_oc1 rfl (s_istore_n rfl (by decide) dX12_squeezes_32) <|
  ms_oc1 rfl (s_iconst dX12_squeezes_33 (by decide)) <|
  ms_occ (s_istore_n rfl (by decide) dX12_squeezes_34) <|
  ms_oc1 rfl (s_iload_n rfl dX12_squeezes_35) <|
  ms_oc1 rfl (s_aload_n rfl dX12_squeezes_36) <|
  ms_oc1 rfl (s_get (r := (RX12, TX12, 45)) rfl (by decide) rfl rfl kw_923 dX12_squeezes_37) <|
  ms_oc1 rfl (s_invS kw_1122 kw_1123 kw_88 kw_1124 ⟨by decide +kernel, by decide +kernel, by decide +kernel⟩ (by decide) dX12_squeezes_40) <|
  ms_oc1 rfl (s_icmpge (by decide) dX12_squeezes_43) <|
  ms_oc1 rfl (s_iload_n rfl dX12_squeezes_46) <|
  ms_oc1 rfl (s_aload_n rfl dX12_squeezes_47) <|
  ms_oc1 rfl (s_get (r := (RX12, TX12, 45)) rfl (by decide) rfl rfl kw_923 dX12_squeezes_48) <|
  ms_oc1 rfl (s_iconst dX12_squeezes_51 (by decide)) <|
  ms_oc1 rfl (s_iaload dX12_squeezes_52) <|
  ms_oc1 rfl (s_icmpge (by decide) dX12_squeezes_53) <|
  ms_oc1 rfl (s_aload_n rfl dX12_squeezes_56) <|
  ms_oc1 rfl (s_get (r := (RX12, TX12, 45)) rfl (by decide) rfl rfl kw_950 dX12_squeezes_57) <|
  ms_oc1 rfl (s_iload_n rfl dX12_squeezes_60) <|
  ms_oc1 rfl (s_iload_n rfl dX12_squeezes_61) <|
  ms_oc1 rfl (s_iastore dX12_squeezes_62) <|
  ms_oc1 rfl (s_goto (by decide) dX12_squeezes_63) <|
  ms_oc1 rfl (s_iload_n rfl dX12_squeezes_66) <|
  ms_oc1 rfl (s_ifeq (by decide) dX12_squeezes_67) <|
  ms_oc1 rfl (s_aload_n rfl dX12_squeezes_70) <|
  ms_oc1 rfl (s_iload_n rfl dX12_squeezes_71) <|
  ms_oc1 rfl (s_aload_n rfl dX12_squeezes_72) <|
  ms_oc1 rfl (s_get (r := (RX12, TX12, 45)) rfl (by decide) rfl rfl kw_923 dX12_squeezes_73) <|
  ms_oc1 rfl (s_iconst dX12_squeezes_76 (by decide)) <|
  ms_oc1 rfl (s_iaload dX12_squeezes_77) <|
  ms_oc1 rfl (s_invV (r := (RX12, TX12, 45)) rfl rfl kw_1198 kw_1200 kw_61 kw_88 kw_1201 ⟨by decide +kernel, by decide +kernel, by decide +kernel⟩ (by decide) dX12_squeezes_78) <|
  ms_oc1 rfl (s_goto (by decide) dX12_squeezes_81) <|
  ms_occ (s_iload_n rfl dX12_squeezes_84) <|
  ms_oc1 rfl (s_istore (by decide) dX12_squeezes_85) <|
  ms_oc1 rfl (s_iload_n rfl dX12_squeezes_87) <|
  ms_oc1 rfl (s_ifeq (by decide) dX12_squeezes_88) <|
  ms_oc1 rfl (s_iload dX12_squeezes_91) <|
  ms_oc1 rfl (s_iload_n rfl dX12_squeezes_93) <|
  ms_oc1 rfl (s_icmpne (by decide) dX12_squeezes_94) <|
  ms_oc1 rfl (s_iconst dX12_squeezes_97 (by decide)) <|
  ms_oc1 rfl (s_goto (by decide) dX12_squeezes_98) <|
  ms_oc1 rfl (s_iconst dX12_squeezes_101 (by decide)) <|
  ms_oc1 rfl (s_goto (by decide) dX12_squeezes_102) <|
  ms_oc1 rfl (s_aload_n rfl dX12_squeezes_105) <|
  ms_oc1 rfl (s_get (r := (RX12, TX12, 45)) rfl (by decide) rfl rfl kw_947 dX12_squeezes_106) <|
  ms_oc1 rfl (s_iload_n rfl dX12_squeezes_109) <|
  ms_occ (s_baload dX12_squeezes_110) <|
  ms_oc1 rfl (s_istore (by decide) dX12_squeezes_111) <|
  ms_oc1 rfl (s_iload dX12_squeezes_113) <|
  ms_oc1 rfl (s_ifeq (by decide) dX12_squeezes_115) <|
  ms_oc1 rfl (s_aload_n rfl dX12_squeezes_118) <|
  ms_oc1 rfl (s_get (r := (RX12, TX12, 45)) rfl (by decide) rfl rfl kw_950 dX12_squeezes_119) <|
  ms_oc1 rfl (s_iload_n rfl dX12_squeezes_122) <|
  ms_oc1 rfl (s_aload_n rfl dX12_squeezes_123) <|
  ms_oc1 rfl (s_get (r := (RX12, TX12, 45)) rfl (by decide) rfl rfl kw_924 dX12_squeezes_124) <|
  ms_oc1 rfl (s_aload_n rfl dX12_squeezes_127) <|
  ms_oc1 rfl (s_get (r := (RX12, TX12, 45)) rfl (by decide) rfl rfl kw_950 dX12_squeezes_128) <|
  ms_oc1 rfl (s_aload_n rfl dX12_squeezes_131) <|
  ms_oc1 rfl (s_get (r := (RX12, TX12, 45)) rfl (by decide) rfl rfl kw_923 dX12_squeezes_132) <|
  ms_oc1 rfl (s_iload_n rfl dX12_squeezes_135) <|
  ms_oc1 rfl (s_invS kw_1146 kw_1147 kw_88 kw_1148 ⟨by decide +kernel, by decide +kernel, by decide +kernel⟩ (by decide) dX12_squeezes_136) <|
  ms_oc1 rfl (s_iaload dX12_squeezes_139) <|
  ms_oc1 rfl (s_aload_n rfl dX12_squeezes_140) <|
  ms_oc1 rfl (s_get (r := (RX12, TX12, 45)) rfl (by decide) rfl rfl kw_950 dX12_squeezes_141) <|
  ms_oc1 rfl (s_aload_n rfl dX12_squeezes_144) <|
  ms_oc1 rfl (s_get (r := (RX12, TX12, 45)) rfl (by decide) rfl rfl kw_923 dX12_squeezes_145) <|
  ms_oc1 rfl (s_iload_n rfl dX12_squeezes_148) <|
  ms_oc1 rfl (s_invS kw_1149 kw_1150 kw_88 kw_1151 ⟨by decide +kernel, by decide +kernel, by decide +kernel⟩ (by decide) dX12_squeezes_149) <|
  ms_oc1 rfl (s_iaload dX12_squeezes_152) <|
  ms_oc1 rfl (s_invS kw_1135 kw_1136 kw_88 kw_1137 ⟨by decide +kernel, by decide +kernel, by decide +kernel⟩ (by decide) dX12_squeezes_153) <|
  ms_oc1 rfl (s_iastore dX12_squeezes_156) <|
  ms_oc1 rfl (s_goto (by decide) dX12_squeezes_157) <|
  ms_oc1 rfl (s_aload_n rfl dX12_squeezes_160) <|
  ms_oc1 rfl (s_get (r := (RX12, TX12, 45)) rfl (by decide) rfl rfl kw_950 dX12_squeezes_161) <|
  ms_oc1 rfl (s_iload_n rfl dX12_squeezes_164) <|
  ms_oc1 rfl (s_iload_n rfl dX12_squeezes_165) <|
  ms_oc1 rfl (s_ifeq (by decide) dX12_squeezes_166) <|
  ms_oc1 rfl (s_aload_n rfl dX12_squeezes_169) <|
  ms_oc1 rfl (s_get (r := (RX12, TX12, 45)) rfl (by decide) rfl rfl kw_950 dX12_squeezes_170) <|
  ms_oc1 rfl (s_iload dX12_squeezes_173) <|
  ms_oc1 rfl (s_iaload dX12_squeezes_175) <|
  ms_oc1 rfl (s_goto (by decide) dX12_squeezes_176) <|
  ms_occ (s_iconst dX12_squeezes_179 (by decide)) <|
  ms_oc1 rfl (s_iastore dX12_squeezes_180) <|
  ms_occ (s_iinc (by decide) dX12_squeezes_181) <|
  ms_oc1 rfl (s_iinc (by decide) dX12_squeezes_184) <|
  ms_oc1 rfl (s_goto (by decide) dX12_squeezes_187) <|
  ms_oc1 rfl (s_aload_n rfl dX12_squeezes_190) <|
  ms_oc1 rfl (s_get (r := (RX12, TX12, 45)) rfl (by decide) rfl rfl kw_924 dX12_squeezes_191) <|
  ms_oc1 rfl (s_iconst dX12_squeezes_194 (by decide)) <|
  ms_oc1 rfl (s_aload_n rfl dX12_squeezes_195) <|
  ms_oc1 rfl (s_get (r := (RX12, TX12, 45)) rfl (by decide) rfl rfl kw_923 dX12_squeezes_196) <|
  ms_oc1 rfl (s_iconst dX12_squeezes_199 (by decide)) <|
  ms_oc1 rfl (s_iaload dX12_squeezes_200) <|
  ms_oc1 rfl (s_iastore dX12_squeezes_201) <|
  ms_oc1 rfl (s_iconst dX12_squeezes_202 (by decide)) <|
  ms_occ (s_istore_n rfl (by decide) dX12_squeezes_203) <|
  ms_oc1 rfl (s_iload_n rfl dX12_squeezes_204) <|
  ms_oc1 rfl (s_aload_n rfl dX12_squeezes_205) <|
  ms_oc1 rfl (s_get (r := (RX12, TX12, 45)) rfl (by decide) rfl rfl kw_923 dX12_squeezes_206) <|
  ms_oc1 rfl (s_iconst dX12_squeezes_209 (by decide)) <|
  ms_oc1 rfl (s_iaload dX12_squeezes_210) <|
  ms_oc1 rfl (s_icmpge (by decide) dX12_squeezes_211) <|
  ms_oc1 rfl (s_aload_n rfl dX12_squeezes_214) <|
  ms_oc1 rfl (s_get (r := (RX12, TX12, 45)) rfl (by decide) rfl rfl kw_924 dX12_squeezes_215) <|
  ms_oc1 rfl (s_bipush dX12_squeezes_218 (by decide) (by decide)) <|
  ms_oc1 rfl (s_iload_n rfl dX12_squeezes_220) <|
  ms_oc1 rfl (s_iadd dX12_squeezes_221) <|
  ms_oc1 rfl (s_aload_n rfl dX12_squeezes_222) <|
  ms_oc1 rfl (s_get (r := (RX12, TX12, 45)) rfl (by decide) rfl rfl kw_950 dX12_squeezes_223) <|
  ms_oc1 rfl (s_aload_n rfl dX12_squeezes_226) <|
  ms_oc1 rfl (s_get (r := (RX12, TX12, 45)) rfl (by decide) rfl rfl kw_923 dX12_squeezes_227) <|
  ms_oc1 rfl (s_bipush dX12_squeezes_230 (by decide) (by decide)) <|
  ms_oc1 rfl (s_iload_n rfl dX12_squeezes_232) <|
  ms_oc1 rfl (s_iadd dX12_squeezes_233) <|
  ms_oc1 rfl (s_iaload dX12_squeezes_234) <|
  ms_oc1 rfl (s_iaload dX12_squeezes_235) <|
  ms_oc1 rfl (s_iastore dX12_squeezes_236) <|
  ms_oc1 rfl (s_iinc (by decide) dX12_squeezes_237) <|
  ms_oc1 rfl (s_goto (by decide) dX12_squeezes_240) <|
  ms_oc1 rfl (s_iload_n rfl dX12_squeezes_243) <|
  ms_oc1 rfl (s_ifle (by decide) dX12_squeezes_244) <|
  ms_oc1 rfl (s_aload_n rfl dX12_squeezes_247) <|
  ms_oc1 rfl (s_invV (r := (RX12, TX12, 45)) rfl rfl kw_1157 kw_1159 kw_54 kw_88 kw_1160 ⟨by decide +kernel, by decide +kernel, by decide +kernel⟩ (by decide) dX12_squeezes_248) <|
  ms_occ (s_pop dX12_squeezes_251) <|
  ms_oc1 rfl (s_iload_n rfl dX12_squeezes_252) <|
  ms_oc0 (s_iret (b := false) rfl dX12_squeezes_253)

def tX12_prune (G : ms_G) (Q : ms_Q) (d : Nat) : List (Nat × ms_T) := [(0, (o_ld 0 2)), (1, (o_ci 0)), (2, (o_put 12 0 0)), (5, (o_ld 0 2)), (6, (o_ci 0)), (7, (o_invV G d mX12_squeezes 12 1 0 0)), (10, (o_ret Q false))]
set_option maxRecDepth 100000 in
set_option maxHeartbeats 4000000 in
theorem kX12_prune (G : ms_G) (Q : ms_Q) (d : Nat) : ms_Oc G Q mX12_prune (d + 1) (tX12_prune G Q d) :=
  ms_oc1 rfl (s_aload_n rfl dX12_prune_0) <|
  ms_oc1 rfl (s_iconst dX12_prune_1 (by decide)) <|
  ms_oc1 rfl (s_put (r := (RX12, TX12, 45)) rfl (by decide) rfl rfl (ms_nar0 rfl) (Or.inl rfl) kw_922 dX12_prune_2) <|
  ms_oc1 rfl (s_aload_n rfl dX12_prune_5) <|
  ms_oc1 rfl (s_iconst dX12_prune_6 (by decide)) <|
  ms_oc1 rfl (s_invV (r := (RX12, TX12, 45)) rfl rfl kw_1233 kw_1235 kw_63 kw_88 kw_1236 ⟨by decide +kernel, by decide +kernel, by decide +kernel⟩ (by decide) dX12_prune_7) <|
  ms_oc0 (s_iret (b := false) rfl dX12_prune_10)

def tX12_fold (G : ms_G) (Q : ms_Q) (d : Nat) : List (Nat × ms_T) := [(0, (o_ld 0 2)), (1, (o_ci 0)), (2, (o_put 12 0 0)), (5, (o_ld 0 2)), (6, (o_ci 1)), (7, (o_invV G d mX12_squeezes 12 1 0 0)), (10, (o_ret Q false))]
set_option maxRecDepth 100000 in
set_option maxHeartbeats 4000000 in
theorem kX12_fold (G : ms_G) (Q : ms_Q) (d : Nat) : ms_Oc G Q mX12_fold (d + 1) (tX12_fold G Q d) :=
  ms_oc1 rfl (s_aload_n rfl dX12_fold_0) <|
  ms_oc1 rfl (s_iconst dX12_fold_1 (by decide)) <|
  ms_oc1 rfl (s_put (r := (RX12, TX12, 45)) rfl (by decide) rfl rfl (ms_nar0 rfl) (Or.inl rfl) kw_922 dX12_fold_2) <|
  ms_oc1 rfl (s_aload_n rfl dX12_fold_5) <|
  ms_oc1 rfl (s_iconst dX12_fold_6 (by decide)) <|
  ms_oc1 rfl (s_invV (r := (RX12, TX12, 45)) rfl rfl kw_1233 kw_1235 kw_63 kw_88 kw_1236 ⟨by decide +kernel, by decide +kernel, by decide +kernel⟩ (by decide) dX12_fold_7) <|
  ms_oc0 (s_iret (b := false) rfl dX12_fold_10)

def tX12_joins (G : ms_G) (Q : ms_Q) (d : Nat) : List (Nat × ms_T) := [(0, (o_ld 0 2)), (1, (o_get 12 29 2)), (4, (o_ld 1 0)), (5, (o_ald 100 0)), (6, (o_ci (-1))), (7, (o_if2 G Q mX12_joins (d + 1) (fun a b => ¬ a = b) 19)), (10, (o_ld 0 2)), (11, (o_get 12 29 2)), (14, (o_ld 1 0)), (15, (o_ld 2 0)), (16, (o_ast 100 0 (fun x => x))), (17, (o_ci 1)), (18, (o_ret Q true)), (19, (o_ld 0 2)), (20, (o_get 12 2 2)), (23, (o_ci 1)), (24, (o_ald 100 0)), (25, (o_ci 60)), (27, (o_if2 G Q mX12_joins (d + 1) (fun a b => ¬ a = b) 32)), (30, (o_ci 0)), (31, (o_ret Q true)), (32, (o_ld 0 2)), (33, (o_get 12 29 2)), (36, (o_ld 1 0)), (37, (o_ld 0 2)), (38, (o_get 12 2 2)), (41, (o_ld 0 2)), (42, (o_get 12 29 2)), (45, (o_ld 1 0)), (46, (o_ald 100 0)), (47, (o_ld 2 0)), (48, (o_invS G d mX12_puts 3 0 0)), (51, (o_ast 100 0 (fun x => x))), (52, (o_ci 1)), (53, (o_ret Q true))]
set_option maxRecDepth 100000 in
set_option maxHeartbeats 4000000 in
theorem kX12_joins (G : ms_G) (Q : ms_Q) (d : Nat) : ms_Oc G Q mX12_joins (d + 1) (tX12_joins G Q d) :=
  ms_oc1 rfl (s_aload_n rfl dX12_joins_0) <|
  ms_oc1 rfl (s_get (r := (RX12, TX12, 45)) rfl (by decide) rfl rfl kw_951 dX12_joins_1) <|
  ms_oc1 rfl (s_iload_n rfl dX12_joins_4) <|
  ms_oc1 rfl (s_iaload dX12_joins_5) <|
  ms_oc1 rfl (s_iconst dX12_joins_6 (by decide)) <|
  ms_oc1 rfl (s_icmpne (by decide) dX12_joins_7) <|
  ms_oc1 rfl (s_aload_n rfl dX12_joins_10) <|
  ms_oc1 rfl (s_get (r := (RX12, TX12, 45)) rfl (by decide) rfl rfl kw_951 dX12_joins_11) <|
  ms_oc1 rfl (s_iload_n rfl dX12_joins_14) <|
  ms_oc1 rfl (s_iload_n rfl dX12_joins_15) <|
  ms_oc1 rfl (s_iastore dX12_joins_16) <|
  ms_oc1 rfl (s_iconst dX12_joins_17 (by decide)) <|
  ms_oc1 rfl (s_iret (b := true) rfl dX12_joins_18) <|
  ms_oc1 rfl (s_aload_n rfl dX12_joins_19) <|
  ms_oc1 rfl (s_get (r := (RX12, TX12, 45)) rfl (by decide) rfl rfl kw_924 dX12_joins_20) <|
  ms_oc1 rfl (s_iconst dX12_joins_23 (by decide)) <|
  ms_oc1 rfl (s_iaload dX12_joins_24) <|
  ms_oc1 rfl (s_bipush dX12_joins_25 (by decide) (by decide)) <|
  ms_oc1 rfl (s_icmpne (by decide) dX12_joins_27) <|
  ms_oc1 rfl (s_iconst dX12_joins_30 (by decide)) <|
  ms_oc1 rfl (s_iret (b := true) rfl dX12_joins_31) <|
  ms_oc1 rfl (s_aload_n rfl dX12_joins_32) <|
  ms_oc1 rfl (s_get (r := (RX12, TX12, 45)) rfl (by decide) rfl rfl kw_951 dX12_joins_33) <|
  ms_oc1 rfl (s_iload_n rfl dX12_joins_36) <|
  ms_oc1 rfl (s_aload_n rfl dX12_joins_37) <|
  ms_oc1 rfl (s_get (r := (RX12, TX12, 45)) rfl (by decide) rfl rfl kw_924 dX12_joins_38) <|
  ms_oc1 rfl (s_aload_n rfl dX12_joins_41) <|
  ms_oc1 rfl (s_get (r := (RX12, TX12, 45)) rfl (by decide) rfl rfl kw_951 dX12_joins_42) <|
  ms_oc1 rfl (s_iload_n rfl dX12_joins_45) <|
  ms_oc1 rfl (s_iaload dX12_joins_46) <|
  ms_oc1 rfl (s_iload_n rfl dX12_joins_47) <|
  ms_oc1 rfl (s_invS kw_1135 kw_1136 kw_88 kw_1137 ⟨by decide +kernel, by decide +kernel, by decide +kernel⟩ (by decide) dX12_joins_48) <|
  ms_oc1 rfl (s_iastore dX12_joins_51) <|
  ms_oc1 rfl (s_iconst dX12_joins_52 (by decide)) <|
  ms_oc0 (s_iret (b := true) rfl dX12_joins_53)

def tX12_turns (G : ms_G) (Q : ms_Q) (d : Nat) : List (Nat × ms_T) := [(0, (o_ld 0 2)), (1, (o_get 12 2 2)), (4, (o_invS G d mX12_clears 1 0 0)), (7, (o_ld 0 2)), (8, (o_get 12 2 2)), (11, (o_ci 0)), (12, (o_ld 1 2)), (13, (o_ci 2)), (14, (o_ald 100 0)), (15, (o_ast 100 0 (fun x => x))), (16, (o_ld 1 2)), (17, (o_ci 2)), (18, (o_ald 100 0)), (19, (o_if1 G Q mX12_turns (d + 1) (fun x => x ≤ 0) 26)), (22, (o_ci 1)), (23, (o_go G Q mX12_turns (d + 1) 27)), (26, (o_ci 0)), (100000, o_go G Q mX12_turns (d + 1) 27), (27, (o_st 2 0)), (28, (o_ld 1 2)), (29, (o_invS G d mX12_nodes 1 0 0)), (32, (o_ci 1)), (33, (o_bin (fun a b => w32 (a - b)))), (34, (o_st 3 0)), (100000, o_go G Q mX12_turns (d + 1) 35), (35, (o_ld 3 0)), (36, (o_if1 G Q mX12_turns (d + 1) (fun x => x < 0) 211)), (39, (o_ld 2 0)), (40, (o_if1 G Q mX12_turns (d + 1) (fun x => x = 0) 211)), (43, (o_ld 0 2)), (44, (o_get 12 29 2)), (47, (o_ld 3 0)), (48, (o_ci (-1))), (49, (o_ast 100 0 (fun x => x))), (50, (o_ci 0)), (51, (o_st 4 0)), (100000, o_go G Q mX12_turns (d + 1) 53), (53, (o_ld 4 0)), (55, (o_ld 1 2)), (56, (o_ci 2)), (57, (o_ald 100 0)), (58, (o_if2 G Q mX12_turns (d + 1) (fun a b => b ≤ a) 98)), (61, (o_ld 2 0)), (62, (o_if1 G Q mX12_turns (d + 1) (fun x => x = 0) 90)), (65, (o_ld 1 2)), (66, (o_ci 123)), (68, (o_ld 4 0)), (70, (o_bin (fun a b => w32 (a + b)))), (71, (o_ald 100 0)), (72, (o_ld 3 0)), (73, (o_if2 G Q mX12_turns (d + 1) (fun a b => ¬ a = b) 86)), (76, (o_ld 0 2)), (77, (o_ld 3 0)), (78, (o_ld 4 0)), (80, (o_invV G d mX12_joins 12 2 0 0)), (83, (o_if1 G Q mX12_turns (d + 1) (fun x => x = 0) 90)), (100000, o_go G Q mX12_turns (d + 1) 86), (86, (o_ci 1)), (87, (o_go G Q mX12_turns (d + 1) 91)), (90, (o_ci 0)), (100000, o_go G Q mX12_turns (d + 1) 91), (91, (o_st 2 0)), (92, (o_inc 4 1)), (95, (o_go G Q mX12_turns (d + 1) 53)), (98, (o_ld 3 0)), (99, (o_ci 1)), (100, (o_bin (fun a b => w32 (a + b)))), (101, (o_ld 1 2)), (102, (o_ci 0)), (103, (o_ald 100 0)), (104, (o_mx (fun a b => if a < b then b else a))), (107, (o_st 4 0)), (100000, o_go G Q mX12_turns (d + 1) 109), (109, (o_ld 4 0)), (111, (o_ld 1 2)), (112, (o_invS G d mX12_nodes 1 0 0)), (115, (o_if2 G Q mX12_turns (d + 1) (fun a b => b ≤ a) 205)), (118, (o_ld 0 2)), (119, (o_get 12 29 2)), (122, (o_ld 4 0)), (124, (o_ald 100 0)), (125, (o_ci (-1))), (126, (o_if2 G Q mX12_turns (d + 1) (fun a b => a = b) 199)), (129, (o_ld 2 0)), (130, (o_if1 G Q mX12_turns (d + 1) (fun x => x = 0) 162)), (133, (o_ld 1 2)), (134, (o_ld 4 0)), (136, (o_invS G d mX12_leftOf 2 0 0)), (139, (o_ld 3 0)), (140, (o_if2 G Q mX12_turns (d + 1) (fun a b => ¬ a = b) 158)), (143, (o_ld 0 2)), (144, (o_ld 3 0)), (145, (o_ld 0 2)), (146, (o_get 12 29 2)), (149, (o_ld 4 0)), (151, (o_ald 100 0)), (152, (o_invV G d mX12_joins 12 2 0 0)), (155, (o_if1 G Q mX12_turns (d + 1) (fun x => x = 0) 162)), (100000, o_go G Q mX12_turns (d + 1) 158), (158, (o_ci 1)), (159, (o_go G Q mX12_turns (d + 1) 163)), (162, (o_ci 0)), (100000, o_go G Q mX12_turns (d + 1) 163), (163, (o_st 2 0)), (164, (o_ld 2 0)), (165, (o_if1 G Q mX12_turns (d + 1) (fun x => x = 0) 197)), (168, (o_ld 1 2)), (169, (o_ld 4 0)), (171, (o_invS G d mX12_rightOf 2 0 0)), (174, (o_ld 3 0)), (175, (o_if2 G Q mX12_turns (d + 1) (fun a b => ¬ a = b) 193)), (178, (o_ld 0 2)), (179, (o_ld 3 0)), (180, (o_ld 0 2)), (181, (o_get 12 29 2)), (184, (o_ld 4 0)), (186, (o_ald 100 0)), (187, (o_invV G d mX12_joins 12 2 0 0)), (190, (o_if1 G Q mX12_turns (d + 1) (fun x => x = 0) 197)), (100000, o_go G Q mX12_turns (d + 1) 193), (193, (o_ci 1)), (194, (o_go G Q mX12_turns (d + 1) 198)), (197, (o_ci 0)), (100000, o_go G Q mX12_turns (d + 1) 198), (198, (o_st 2 0)), (100000, o_go G Q mX12_turns (d + 1) 199), (199, (o_inc 4 1)), (202, (o_go G Q mX12_turns (d + 1) 109)), (205, (o_inc 3 (-1))), (208, (o_go G Q mX12_turns (d + 1) 35)), (211, (o_ld 0 2)), (212, (o_get 12 2 2)), (215, (o_ci 2)), (216, (o_ld 1 2)), (217, (o_ci 0)), (218, (o_ald 100 0)), (219, (o_ast 100 0 (fun x => x))), (220, (o_ci 0)), (221, (o_st 3 0)), (100000, o_go G Q mX12_turns (d + 1) 222), (222, (o_ld 3 0)), (223, (o_ld 1 2)), (224, (o_ci 0)), (225, (o_ald 100 0)), (226, (o_if2 G Q mX12_turns (d + 1) (fun a b => b ≤ a) 270)), (229, (o_ld 2 0)), (230, (o_if1 G Q mX12_turns (d + 1) (fun x => x = 0) 270)), (233, (o_ld 0 2)), (234, (o_get 12 29 2)), (237, (o_ld 3 0)), (238, (o_ald 100 0)), (239, (o_ci (-1))), (240, (o_if2 G Q mX12_turns (d + 1) (fun a b => a = b) 247)), (243, (o_ci 1)), (244, (o_go G Q mX12_turns (d + 1) 248)), (247, (o_ci 0)), (100000, o_go G Q mX12_turns (d + 1) 248), (248, (o_st 2 0)), (249, (o_ld 0 2)), (250, (o_get 12 2 2)), (253, (o_ci 123)), (255, (o_ld 3 0)), (256, (o_bin (fun a b => w32 (a + b)))), (257, (o_ld 0 2)), (258, (o_get 12 29 2)), (261, (o_ld 3 0)), (262, (o_ald 100 0)), (263, (o_ast 100 0 (fun x => x))), (264, (o_inc 3 1)), (267, (o_go G Q mX12_turns (d + 1) 222)), (270, (o_ld 2 0)), (271, (o_ret Q true))]
set_option maxRecDepth 100000 in
set_option maxHeartbeats 4000000 in
theorem kX12_turns (G : ms_G) (Q : ms_Q) (d : Nat) : ms_Oc G Q mX12_turns (d + 1) (tX12_turns G Q d) :=
  ms_oc1 rfl (s_aload_n rfl dX12_turns_0) <|
  ms_oc1 rfl (s_get (r := (RX12, TX12, 45)) rfl (by decide) rfl rfl kw_924 dX12_turns_1) <|
  ms_oc1 rfl (s_invS kw_1065 kw_1066 kw_88 kw_1067 ⟨by decide +kernel, by decide +kernel, by decide +kernel⟩ (by decide) dX12_turns_4) <|
  ms_oc1 rfl (s_aload_n rfl dX12_turns_7) <|
  ms_oc1 rfl (s_get (r := (RX12, TX12, 45)) rfl (by decide) rfl rfl kw_924 dX12_turns_8) <|
  ms_oc1 rfl (s_iconst dX12_turns_11 (by decide)) <|
  ms_oc1 rfl (s_aload_n rfl dX12_turns_12) <|
  ms_oc1 rfl (s_iconst dX12_turns_13 (by decide)) <|
  ms_oc1 rfl (s_iaload dX12_turns_14) <|
  ms_oc1 rfl (s_iastore dX12_turns_15) <|
  ms_oc1 rfl (s_aload_n rfl dX12_turns_16) <|
  ms_oc1 rfl (s_iconst dX12_turns_17 (by decide)) <|
  ms_oc1 rfl (s_iaload dX12_turns_18) <|
  ms_oc1 rfl (s_ifle (by decide) dX12_turns_19) <|
  ms_oc1 rfl (s_iconst dX12_turns_22 (by decide)) <|
  ms_oc1 rfl (s_goto (by decide) dX12_turns_23) <|
  ms_occ (s_iconst dX12_turns_26 (by decide)) <|
  ms_oc1 rfl (s_istore_n rfl (by decide) dX12_turns_27) <|
  ms_oc1 rfl (s_aload_n rfl dX12_turns_28) <|
  ms_oc1 rfl (s_invS kw_1122 kw_1123 kw_88 kw_1124 ⟨by decide +kernel, by decide +kernel, by decide +kernel⟩ (by decide) dX12_turns_29) <|
  ms_oc1 rfl (s_iconst dX12_turns_32 (by decide)) <|
  ms_oc1 rfl (s_isub dX12_turns_33) <|
  ms_occ (s_istore_n rfl (by decide) dX12_turns_34) <|
  ms_oc1 rfl (s_iload_n rfl dX12_turns_35) <|
  ms_oc1 rfl (s_iflt (by decide) dX12_turns_36) <|
  ms_oc1 rfl (s_iload_n rfl dX12_turns_39) <|
  ms_oc1 rfl (s_ifeq (by decide) dX12_turns_40) <|
  ms_oc1 rfl (s_aload_n rfl dX12_turns_43) <|
  ms_oc1 rfl (s_get (r := (RX12, TX12, 45)) rfl (by decide) rfl rfl kw_951 dX12_turns_44) <|
  ms_oc1 rfl (s_iload_n rfl dX12_turns_47) <|
  ms_oc1 rfl (s_iconst dX12_turns_48 (by decide)) <|
  ms_oc1 rfl (s_iastore dX12_turns_49) <|
  ms_oc1 rfl (s_iconst dX12_turns_50 (by decide)) <|
  ms_occ (s_istore (by decide) dX12_turns_51) <|
  ms_oc1 rfl (s_iload dX12_turns_53) <|
  ms_oc1 rfl (s_aload_n rfl dX12_turns_55) <|
  ms_oc1 rfl (s_iconst dX12_turns_56 (by decide)) <|
  ms_oc1 rfl (s_iaload dX12_turns_57) <|
  ms_oc1 rfl (s_icmpge (by decide) dX12_turns_58) <|
  ms_oc1 rfl (s_iload_n rfl dX12_turns_61) <|
  ms_oc1 rfl (s_ifeq (by decide) dX12_turns_62) <|
  ms_oc1 rfl (s_aload_n rfl dX12_turns_65) <|
  ms_oc1 rfl (s_bipush dX12_turns_66 (by decide) (by decide)) <|
  ms_oc1 rfl (s_iload dX12_turns_68) <|
  ms_oc1 rfl (s_iadd dX12_turns_70) <|
  ms_oc1 rfl (s_iaload dX12_turns_71) <|
  ms_oc1 rfl (s_iload_n rfl dX12_turns_72) <|
  ms_oc1 rfl (s_icmpne (by decide) dX12_turns_73) <|
  ms_oc1 rfl (s_aload_n rfl dX12_turns_76) <|
  ms_oc1 rfl (s_iload_n rfl dX12_turns_77) <|
  ms_oc1 rfl (s_iload dX12_turns_78) <|
  ms_oc1 rfl (s_invV (r := (RX12, TX12, 45)) rfl rfl kw_1249 kw_1251 kw_65 kw_88 kw_1252 ⟨by decide +kernel, by decide +kernel, by decide +kernel⟩ (by decide) dX12_turns_80) <|
  ms_occ (s_ifeq (by decide) dX12_turns_83) <|
  ms_oc1 rfl (s_iconst dX12_turns_86 (by decide)) <|
  ms_oc1 rfl (s_goto (by decide) dX12_turns_87) <|
  ms_occ (s_iconst dX12_turns_90 (by decide)) <|
  ms_oc1 rfl (s_istore_n rfl (by decide) dX12_turns_91) <|
  ms_oc1 rfl (s_iinc (by decide) dX12_turns_92) <|
  ms_oc1 rfl (s_goto (by decide) dX12_turns_95) <|
  ms_oc1 rfl (s_iload_n rfl dX12_turns_98) <|
  ms_oc1 rfl (s_iconst dX12_turns_99 (by decide)) <|
  ms_oc1 rfl (s_iadd dX12_turns_100) <|
  ms_oc1 rfl (s_aload_n rfl dX12_turns_101) <|
  ms_oc1 rfl (s_iconst dX12_turns_102 (by decide)) <|
  ms_oc1 rfl (s_iaload dX12_turns_103) <|
  ms_oc1 rfl (s_mmax kw_1188 kw_574 kw_91 kw_575 dX12_turns_104) <|
  ms_occ (s_istore (by decide) dX12_turns_107) <|
  ms_oc1 rfl (s_iload dX12_turns_109) <|
  ms_oc1 rfl (s_aload_n rfl dX12_turns_111) <|
  ms_oc1 rfl (s_invS kw_1122 kw_1123 kw_88 kw_1124 ⟨by decide +kernel, by decide +kernel, by decide +kernel⟩ (by decide) dX12_turns_112) <|
  ms_oc1 rfl (s_icmpge (by decide) dX12_turns_115) <|
  ms_oc1 rfl (s_aload_n rfl dX12_turns_118) <|
  ms_oc1 rfl (s_get (r := (RX12, TX12, 45)) rfl (by decide) rfl rfl kw_951 dX12_turns_119) <|
  ms_oc1 rfl (s_iload dX12_turns_122) <|
  ms_oc1 rfl (s_iaload dX12_turns_124) <|
  ms_oc1 rfl (s_iconst dX12_turns_125 (by decide)) <|
  ms_oc1 rfl (s_icmpeq (by decide) dX12_turns_126) <|
  ms_oc1 rfl (s_iload_n rfl dX12_turns_129) <|
  ms_oc1 rfl (s_ifeq (by decide) dX12_turns_130) <|
  ms_oc1 rfl (s_aload_n rfl dX12_turns_133) <|
  ms_oc1 rfl (s_iload dX12_turns_134) <|
  ms_oc1 rfl (s_invS kw_1146 kw_1147 kw_88 kw_1148 ⟨by decide +kernel, by decide +kernel, by decide +kernel⟩ (by decide) dX12_turns_136) <|
  ms_oc1 rfl (s_iload_n rfl dX12_turns_139) <|
  ms_oc1 rfl (s_icmpne (by decide) dX12_turns_140) <|
  ms_oc1 rfl (s_aload_n rfl dX12_turns_143) <|
  ms_oc1 rfl (s_iload_n rfl dX12_turns_144) <|
  ms_oc1 rfl (s_aload_n rfl dX12_turns_145) <|
  ms_oc1 rfl (s_get (r := (RX12, TX12, 45)) rfl (by decide) rfl rfl kw_951 dX12_turns_146) <|
  ms_oc1 rfl (s_iload dX12_turns_149) <|
  ms_oc1 rfl (s_iaload dX12_turns_151) <|
  ms_oc1 rfl (s_invV (r := (RX12, TX12, 45)) rfl rfl kw_1249 kw_1251 kw_65 kw_88 kw_1252 ⟨by decide +kernel, by decide +kernel, by decide +kernel⟩ (by decide) dX12_turns_152) <|
  ms_occ (s_ifeq (by decide) dX12_turns_155) <|
  ms_oc1 rfl (s_iconst dX12_turns_158 (by decide)) <|
  ms_oc1 rfl (s_goto (by decide) dX12_turns_159) <|
  ms_occ (s_iconst dX12_turns_162 (by decide)) <|
  ms_oc1 rfl (s_istore_n rfl (by decide) dX12_turns_163) <|
  ms_oc1 rfl (s_iload_n rfl dX12_turns_164) <|
  ms_oc1 rfl (s_ifeq (by decide) dX12_turns_165) <|
  ms_oc1 rfl (s_aload_n rfl dX12_turns_168) <|
  ms_oc1 rfl (s_iload dX12_turns_169) <|
  ms_oc1 rfl (s_invS kw_1149 kw_1150 kw_88 kw_1151 ⟨by decide +kernel, by decide +kernel, by decide +kernel⟩ (by decide) dX12_turns_171) <|
  ms_oc1 rfl (s_iload_n rfl dX12_turns_174) <|
  ms_oc1 rfl (s_icmpne (by decide) dX12_turns_175) <|
  ms_oc1 rfl (s_aload_n rfl dX12_turns_178) <|
  ms_oc1 rfl (s_iload_n rfl dX12_turns_179) <|
  ms_oc1 rfl (s_aload_n rfl dX12_turns_180) <|
  ms_oc1 rfl (s_get (r := (RX12, TX12, 45)) rfl (by decide) rfl rfl kw_951 dX12_turns_181) <|
  ms_oc1 rfl (s_iload dX12_turns_184) <|
  ms_oc1 rfl (s_iaload dX12_turns_186) <|
  ms_oc1 rfl (s_invV (r := (RX12, TX12, 45)) rfl rfl kw_1249 kw_1251 kw_65 kw_88 kw_1252 ⟨by decide +kernel, by decide +kernel, by decide +kernel⟩ (by decide) dX12_turns_187) <|
  ms_occ (s_ifeq (by decide) dX12_turns_190) <|
  ms_oc1 rfl (s_iconst dX12_turns_193 (by decide)) <|
  ms_oc1 rfl (s_goto (by decide) dX12_turns_194) <|
  ms_occ (s_iconst dX12_turns_197 (by decide)) <|
  ms_occ (s_istore_n rfl (by decide) dX12_turns_198) <|
  ms_oc1 rfl (s_iinc (by decide) dX12_turns_199) <|
  ms_oc1 rfl (s_goto (by decide) dX12_turns_202) <|
  ms_oc1 rfl (s_iinc (by decide) dX12_turns_205) <|
  ms_oc1 rfl (s_goto (by decide) dX12_turns_208) <|
  ms_oc1 rfl (s_aload_n rfl dX12_turns_211) <|
  ms_oc1 rfl (s_get (r := (RX12, TX12, 45)) rfl (by decide) rfl rfl kw_924 dX12_turns_212) <|
  ms_oc1 rfl (s_iconst dX12_turns_215 (by decide)) <|
  ms_oc1 rfl (s_aload_n rfl dX12_turns_216) <|
  ms_oc1 rfl (s_iconst dX12_turns_217 (by decide)) <|
  ms_oc1 rfl (s_iaload dX12_turns_218) <|
  ms_oc1 rfl (s_iastore dX12_turns_219) <|
  ms_oc1 rfl (s_iconst dX12_turns_220 (by decide)) <|
  ms_occ (s_istore_n rfl (by decide) dX12_turns_221) <|
  ms_oc1 rfl (s_iload_n rfl dX12_turns_222) <|
  ms_oc1 rfl (s_aload_n rfl dX12_turns_223) <|
  ms_oc1 rfl (s_iconst dX12_turns_224 (by decide)) <|
  ms_oc1 rfl (s_iaload dX12_turns_225) <|
  ms_oc1 rfl (s_icmpge (by decide) dX12_turns_226) <|
  ms_oc1 rfl (s_iload_n rfl dX12_turns_229) <|
  ms_oc1 rfl (s_ifeq (by decide) dX12_turns_230) <|
  ms_oc1 rfl (s_aload_n rfl dX12_turns_233) <|
  ms_oc1 rfl (s_get (r := (RX12, TX12, 45)) rfl (by decide) rfl rfl kw_951 dX12_turns_234) <|
  ms_oc1 rfl (s_iload_n rfl dX12_turns_237) <|
  ms_oc1 rfl (s_iaload dX12_turns_238) <|
  ms_oc1 rfl (s_iconst dX12_turns_239 (by decide)) <|
  ms_oc1 rfl (s_icmpeq (by decide) dX12_turns_240) <|
  ms_oc1 rfl (s_iconst dX12_turns_243 (by decide)) <|
  ms_oc1 rfl (s_goto (by decide) dX12_turns_244) <|
  ms_occ (s_iconst dX12_turns_247 (by decide)) <|
  ms_oc1 rfl (s_istore_n rfl (by decide) dX12_turns_248) <|
  ms_oc1 rfl (s_aload_n rfl dX12_turns_249) <|
  ms_oc1 rfl (s_get (r := (RX12, TX12, 45)) rfl (by decide) rfl rfl kw_924 dX12_turns_250) <|
  ms_oc1 rfl (s_bipush dX12_turns_253 (by decide) (by decide)) <|
  ms_oc1 rfl (s_iload_n rfl dX12_turns_255) <|
  ms_oc1 rfl (s_iadd dX12_turns_256) <|
  ms_oc1 rfl (s_aload_n rfl dX12_turns_257) <|
  ms_oc1 rfl (s_get (r := (RX12, TX12, 45)) rfl (by decide) rfl rfl kw_951 dX12_turns_258) <|
  ms_oc1 rfl (s_iload_n rfl dX12_turns_261) <|
  ms_oc1 rfl (s_iaload dX12_turns_262) <|
  ms_oc1 rfl (s_iastore dX12_turns_263) <|
  ms_oc1 rfl (s_iinc (by decide) dX12_turns_264) <|
  ms_oc1 rfl (s_goto (by decide) dX12_turns_267) <|
  ms_oc1 rfl (s_iload_n rfl dX12_turns_270) <|
  ms_oc0 (s_iret (b := true) rfl dX12_turns_271)

def tX12_dual (G : ms_G) (Q : ms_Q) (d : Nat) : List (Nat × ms_T) := [(0, (o_ld 0 2)), (1, (o_ci 0)), (2, (o_put 12 0 0)), (5, (o_ld 0 2)), (6, (o_ld 0 2)), (7, (o_get 12 1 2)), (10, (o_invV G d mX12_turns 12 1 0 0)), (13, (o_if1 G Q mX12_dual (d + 1) (fun x => x = 0) 23)), (16, (o_ld 0 2)), (17, (o_invV G d mX12_becomes 12 0 0 0)), (20, (o_go G Q mX12_dual (d + 1) 24)), (23, (o_ci (-1))), (100000, o_go G Q mX12_dual (d + 1) 24), (24, (o_ret Q false))]
set_option maxRecDepth 100000 in
set_option maxHeartbeats 4000000 in
theorem kX12_dual (G : ms_G) (Q : ms_Q) (d : Nat) : ms_Oc G Q mX12_dual (d + 1) (tX12_dual G Q d) :=
  ms_oc1 rfl (s_aload_n rfl dX12_dual_0) <|
  ms_oc1 rfl (s_iconst dX12_dual_1 (by decide)) <|
  ms_oc1 rfl (s_put (r := (RX12, TX12, 45)) rfl (by decide) rfl rfl (ms_nar0 rfl) (Or.inl rfl) kw_922 dX12_dual_2) <|
  ms_oc1 rfl (s_aload_n rfl dX12_dual_5) <|
  ms_oc1 rfl (s_aload_n rfl dX12_dual_6) <|
  ms_oc1 rfl (s_get (r := (RX12, TX12, 45)) rfl (by decide) rfl rfl kw_923 dX12_dual_7) <|
  ms_oc1 rfl (s_invV (r := (RX12, TX12, 45)) rfl rfl kw_1245 kw_1247 kw_64 kw_88 kw_1248 ⟨by decide +kernel, by decide +kernel, by decide +kernel⟩ (by decide) dX12_dual_10) <|
  ms_oc1 rfl (s_ifeq (by decide) dX12_dual_13) <|
  ms_oc1 rfl (s_aload_n rfl dX12_dual_16) <|
  ms_oc1 rfl (s_invV (r := (RX12, TX12, 45)) rfl rfl kw_1157 kw_1159 kw_54 kw_88 kw_1160 ⟨by decide +kernel, by decide +kernel, by decide +kernel⟩ (by decide) dX12_dual_17) <|
  ms_oc1 rfl (s_goto (by decide) dX12_dual_20) <|
  ms_occ (s_iconst dX12_dual_23 (by decide)) <|
  ms_oc0 (s_iret (b := false) rfl dX12_dual_24)

def tX12_dualLong (G : ms_G) (Q : ms_Q) (d : Nat) : List (Nat × ms_T) := [(0, (o_ld 0 2)), (1, (o_ci 0)), (2, (o_put 12 0 0)), (5, (o_ld 0 2)), (6, (o_ld 0 2)), (7, (o_get 12 1 2)), (10, (o_invV G d mX12_turns 12 1 0 0)), (13, (o_if1 G Q mX12_dualLong (d + 1) (fun x => x = 0) 25)), (16, (o_ld 0 2)), (17, (o_get 12 2 2)), (20, (o_ci 1)), (21, (o_ald 100 0)), (22, (o_go G Q mX12_dualLong (d + 1) 26)), (25, (o_ci (-1))), (100000, o_go G Q mX12_dualLong (d + 1) 26), (26, (o_ret Q false))]
set_option maxRecDepth 100000 in
set_option maxHeartbeats 4000000 in
theorem kX12_dualLong (G : ms_G) (Q : ms_Q) (d : Nat) : ms_Oc G Q mX12_dualLong (d + 1) (tX12_dualLong G Q d) :=
  ms_oc1 rfl (s_aload_n rfl dX12_dualLong_0) <|
  ms_oc1 rfl (s_iconst dX12_dualLong_1 (by decide)) <|
  ms_oc1 rfl (s_put (r := (RX12, TX12, 45)) rfl (by decide) rfl rfl (ms_nar0 rfl) (Or.inl rfl) kw_922 dX12_dualLong_2) <|
  ms_oc1 rfl (s_aload_n rfl dX12_dualLong_5) <|
  ms_oc1 rfl (s_aload_n rfl dX12_dualLong_6) <|
  ms_oc1 rfl (s_get (r := (RX12, TX12, 45)) rfl (by decide) rfl rfl kw_923 dX12_dualLong_7) <|
  ms_oc1 rfl (s_invV (r := (RX12, TX12, 45)) rfl rfl kw_1245 kw_1247 kw_64 kw_88 kw_1248 ⟨by decide +kernel, by decide +kernel, by decide +kernel⟩ (by decide) dX12_dualLong_10) <|
  ms_oc1 rfl (s_ifeq (by decide) dX12_dualLong_13) <|
  ms_oc1 rfl (s_aload_n rfl dX12_dualLong_16) <|
  ms_oc1 rfl (s_get (r := (RX12, TX12, 45)) rfl (by decide) rfl rfl kw_924 dX12_dualLong_17) <|
  ms_oc1 rfl (s_iconst dX12_dualLong_20 (by decide)) <|
  ms_oc1 rfl (s_iaload dX12_dualLong_21) <|
  ms_oc1 rfl (s_goto (by decide) dX12_dualLong_22) <|
  ms_occ (s_iconst dX12_dualLong_25 (by decide)) <|
  ms_oc0 (s_iret (b := false) rfl dX12_dualLong_26)

def tX12_ofBoth (G : ms_G) (Q : ms_Q) (d : Nat) : List (Nat × ms_T) := [(0, (o_ld 0 2)), (1, (o_get 12 32 2)), (4, (o_ld 1 0)), (5, (o_ld 2 0)), (6, (o_ld 3 0)), (7, (o_mx (fun a b => if a < b then b else a))), (10, (o_ast 100 0 (fun x => x))), (11, (o_ld 0 2)), (12, (o_get 12 33 2)), (15, (o_ld 1 0)), (16, (o_ld 2 0)), (17, (o_ld 3 0)), (18, (o_mx (fun a b => if b < a then b else a))), (21, (o_ast 100 0 (fun x => x))), (22, (o_ld 0 2)), (23, (o_get 12 31 2)), (26, (o_ld 2 0)), (27, (o_ci 1)), (28, o_bast), (29, (o_ld 0 2)), (30, (o_get 12 31 2)), (33, (o_ld 3 0)), (34, (o_ci 1)), (35, o_bast), (36, (o_vret Q))]
set_option maxRecDepth 100000 in
set_option maxHeartbeats 4000000 in
theorem kX12_ofBoth (G : ms_G) (Q : ms_Q) (d : Nat) : ms_Oc G Q mX12_ofBoth (d + 1) (tX12_ofBoth G Q d) :=
  ms_oc1 rfl (s_aload_n rfl dX12_ofBoth_0) <|
  ms_oc1 rfl (s_get (r := (RX12, TX12, 45)) rfl (by decide) rfl rfl kw_954 dX12_ofBoth_1) <|
  ms_oc1 rfl (s_iload_n rfl dX12_ofBoth_4) <|
  ms_oc1 rfl (s_iload_n rfl dX12_ofBoth_5) <|
  ms_oc1 rfl (s_iload_n rfl dX12_ofBoth_6) <|
  ms_oc1 rfl (s_mmax kw_1188 kw_574 kw_91 kw_575 dX12_ofBoth_7) <|
  ms_oc1 rfl (s_iastore dX12_ofBoth_10) <|
  ms_oc1 rfl (s_aload_n rfl dX12_ofBoth_11) <|
  ms_oc1 rfl (s_get (r := (RX12, TX12, 45)) rfl (by decide) rfl rfl kw_955 dX12_ofBoth_12) <|
  ms_oc1 rfl (s_iload_n rfl dX12_ofBoth_15) <|
  ms_oc1 rfl (s_iload_n rfl dX12_ofBoth_16) <|
  ms_oc1 rfl (s_iload_n rfl dX12_ofBoth_17) <|
  ms_oc1 rfl (s_mmin kw_1270 kw_1271 kw_91 kw_1272 dX12_ofBoth_18) <|
  ms_oc1 rfl (s_iastore dX12_ofBoth_21) <|
  ms_oc1 rfl (s_aload_n rfl dX12_ofBoth_22) <|
  ms_oc1 rfl (s_get (r := (RX12, TX12, 45)) rfl (by decide) rfl rfl kw_953 dX12_ofBoth_23) <|
  ms_oc1 rfl (s_iload_n rfl dX12_ofBoth_26) <|
  ms_oc1 rfl (s_iconst dX12_ofBoth_27 (by decide)) <|
  ms_oc1 rfl (s_bastore dX12_ofBoth_28) <|
  ms_oc1 rfl (s_aload_n rfl dX12_ofBoth_29) <|
  ms_oc1 rfl (s_get (r := (RX12, TX12, 45)) rfl (by decide) rfl rfl kw_953 dX12_ofBoth_30) <|
  ms_oc1 rfl (s_iload_n rfl dX12_ofBoth_33) <|
  ms_oc1 rfl (s_iconst dX12_ofBoth_34 (by decide)) <|
  ms_oc1 rfl (s_bastore dX12_ofBoth_35) <|
  ms_oc0 (s_vret rfl dX12_ofBoth_36)

def tX12_sequenced (G : ms_G) (Q : ms_Q) (d : Nat) : List (Nat × ms_T) := [(0, (o_ld 1 0)), (1, (o_un 0 1 (fun a => a))), (2, (o_cl 1)), (3, (o_cl (4))), (6, (o_invS G d mX12_within 3 0 0)), (9, (o_if1 G Q mX12_sequenced (d + 1) (fun x => ¬ x = 0) 14)), (12, (o_ci 0)), (13, (o_ret Q true)), (14, (o_ci 0)), (15, (o_st 6 0)), (100000, o_go G Q mX12_sequenced (d + 1) 17), (17, (o_ld 6 0)), (19, (o_ld 1 0)), (20, (o_if2 G Q mX12_sequenced (d + 1) (fun a b => b ≤ a) 78)), (23, (o_ld 6 0)), (25, (o_if1 G Q mX12_sequenced (d + 1) (fun x => ¬ x = 0) 32)), (28, (o_ld 2 0)), (29, (o_go G Q mX12_sequenced (d + 1) 55)), (32, (o_ld 6 0)), (34, (o_ci 1)), (35, (o_if2 G Q mX12_sequenced (d + 1) (fun a b => ¬ a = b) 42)), (38, (o_ld 3 0)), (39, (o_go G Q mX12_sequenced (d + 1) 55)), (42, (o_ld 6 0)), (44, (o_ci 2)), (45, (o_if2 G Q mX12_sequenced (d + 1) (fun a b => ¬ a = b) 53)), (48, (o_ld 4 0)), (50, (o_go G Q mX12_sequenced (d + 1) 55)), (53, (o_ld 5 0)), (100000, o_go G Q mX12_sequenced (d + 1) 55), (55, (o_st 7 0)), (57, (o_ld 7 0)), (59, (o_un 0 1 (fun a => a))), (60, (o_cl 1)), (61, (o_cl (9999))), (64, (o_invS G d mX12_within 3 0 0)), (67, (o_if1 G Q mX12_sequenced (d + 1) (fun x => ¬ x = 0) 72)), (70, (o_ci 0)), (71, (o_ret Q true)), (72, (o_inc 6 1)), (75, (o_go G Q mX12_sequenced (d + 1) 17)), (78, (o_ci 0)), (79, (o_st 6 0)), (100000, o_go G Q mX12_sequenced (d + 1) 81), (81, (o_ld 6 0)), (83, (o_ci 9999)), (86, (o_if2 G Q mX12_sequenced (d + 1) (fun a b => b < a) 103)), (89, (o_ld 0 2)), (90, (o_get 12 31 2)), (93, (o_ld 6 0)), (95, (o_ci 0)), (96, o_bast), (97, (o_inc 6 1)), (100, (o_go G Q mX12_sequenced (d + 1) 81)), (103, (o_ld 0 2)), (104, (o_get 12 31 2)), (107, (o_ci 1)), (108, (o_ci 1)), (109, o_bast), (110, (o_ci 0)), (111, (o_st 6 0)), (100000, o_go G Q mX12_sequenced (d + 1) 113), (113, (o_ld 6 0)), (115, (o_ld 1 0)), (116, (o_if2 G Q mX12_sequenced (d + 1) (fun a b => b ≤ a) 163)), (119, (o_ld 0 2)), (120, (o_get 12 31 2)), (123, (o_ld 6 0)), (125, (o_if1 G Q mX12_sequenced (d + 1) (fun x => ¬ x = 0) 132)), (128, (o_ld 2 0)), (129, (o_go G Q mX12_sequenced (d + 1) 155)), (132, (o_ld 6 0)), (134, (o_ci 1)), (135, (o_if2 G Q mX12_sequenced (d + 1) (fun a b => ¬ a = b) 142)), (138, (o_ld 3 0)), (139, (o_go G Q mX12_sequenced (d + 1) 155)), (142, (o_ld 6 0)), (144, (o_ci 2)), (145, (o_if2 G Q mX12_sequenced (d + 1) (fun a b => ¬ a = b) 153)), (148, (o_ld 4 0)), (150, (o_go G Q mX12_sequenced (d + 1) 155)), (153, (o_ld 5 0)), (100000, o_go G Q mX12_sequenced (d + 1) 155), (155, (o_ci 1)), (156, o_bast), (157, (o_inc 6 1)), (160, (o_go G Q mX12_sequenced (d + 1) 113)), (163, (o_ci 0)), (164, (o_st 6 0)), (166, (o_ci 9999)), (169, (o_st 7 0)), (100000, o_go G Q mX12_sequenced (d + 1) 171), (171, (o_ld 7 0)), (173, (o_ci 1)), (174, (o_if2 G Q mX12_sequenced (d + 1) (fun a b => a ≤ b) 281)), (177, (o_ld 0 2)), (178, (o_get 12 31 2)), (181, (o_ld 7 0)), (183, o_bald), (184, (o_if1 G Q mX12_sequenced (d + 1) (fun x => ¬ x = 0) 190)), (187, (o_go G Q mX12_sequenced (d + 1) 275)), (190, (o_inc 6 1)), (193, (o_ld 7 0)), (195, (o_ci 1)), (196, (o_bin (fun a b => w32 (a - b)))), (197, (o_st 8 0)), (100000, o_go G Q mX12_sequenced (d + 1) 199), (199, (o_ld 0 2)), (200, (o_get 12 31 2)), (203, (o_ld 8 0)), (205, o_bald), (206, (o_if1 G Q mX12_sequenced (d + 1) (fun x => ¬ x = 0) 215)), (209, (o_inc 8 (-1))), (212, (o_go G Q mX12_sequenced (d + 1) 199)), (215, (o_ld 7 0)), (217, (o_ci 2)), (218, (o_ld 8 0)), (220, (o_bin (fun a b => w32 (a * b)))), (221, (o_if2 G Q mX12_sequenced (d + 1) (fun a b => b ≤ a) 240)), (224, (o_ld 0 2)), (225, (o_ld 7 0)), (227, (o_ld 8 0)), (229, (o_ld 7 0)), (231, (o_ld 8 0)), (233, (o_bin (fun a b => w32 (a - b)))), (234, (o_invV G d mX12_ofBoth 12 3 0 0)), (237, (o_go G Q mX12_sequenced (d + 1) 275)), (240, (o_ld 7 0)), (242, (o_ci 2)), (243, (o_dv wrem)), (244, (o_if1 G Q mX12_sequenced (d + 1) (fun x => ¬ x = 0) 264)), (247, (o_ld 0 2)), (248, (o_ld 7 0)), (250, (o_ld 7 0)), (252, (o_ci 2)), (253, (o_dv wdiv)), (254, (o_ld 7 0)), (256, (o_ci 2)), (257, (o_dv wdiv)), (258, (o_invV G d mX12_ofBoth 12 3 0 0)), (261, (o_go G Q mX12_sequenced (d + 1) 275)), (264, (o_ld 0 2)), (265, (o_ld 7 0)), (267, (o_ld 7 0)), (269, (o_ci 1)), (270, (o_bin (fun a b => w32 (a - b)))), (271, (o_ci 1)), (272, (o_invV G d mX12_ofBoth 12 3 0 0)), (100000, o_go G Q mX12_sequenced (d + 1) 275), (275, (o_inc 7 (-1))), (278, (o_go G Q mX12_sequenced (d + 1) 171)), (281, (o_ld 6 0)), (283, (o_ci 60)), (285, (o_if2 G Q mX12_sequenced (d + 1) (fun a b => a ≤ b) 290)), (288, (o_ci 0)), (289, (o_ret Q true)), (290, (o_ld 0 2)), (291, (o_get 12 2 2)), (294, (o_invS G d mX12_clears 1 0 0)), (297, (o_ld 0 2)), (298, (o_get 12 2 2)), (301, (o_ci 0)), (302, (o_ci 1)), (303, (o_ast 100 0 (fun x => x))), (304, (o_ld 0 2)), (305, (o_get 12 34 2)), (308, (o_ci 1)), (309, (o_ci 0)), (310, (o_ast 100 0 (fun x => x))), (311, (o_ci 2)), (312, (o_st 7 0)), (100000, o_go G Q mX12_sequenced (d + 1) 314), (314, (o_ld 7 0)), (316, (o_ci 9999)), (319, (o_if2 G Q mX12_sequenced (d + 1) (fun a b => b < a) 376)), (322, (o_ld 0 2)), (323, (o_get 12 31 2)), (326, (o_ld 7 0)), (328, o_bald), (329, (o_if1 G Q mX12_sequenced (d + 1) (fun x => x = 0) 370)), (332, (o_ld 0 2)), (333, (o_get 12 34 2)), (336, (o_ld 7 0)), (338, (o_ld 0 2)), (339, (o_get 12 2 2)), (342, (o_ld 0 2)), (343, (o_get 12 34 2)), (346, (o_ld 0 2)), (347, (o_get 12 32 2)), (350, (o_ld 7 0)), (352, (o_ald 100 0)), (353, (o_ald 100 0)), (354, (o_ld 0 2)), (355, (o_get 12 34 2)), (358, (o_ld 0 2)), (359, (o_get 12 33 2)), (362, (o_ld 7 0)), (364, (o_ald 100 0)), (365, (o_ald 100 0)), (366, (o_invS G d mX12_puts 3 0 0)), (369, (o_ast 100 0 (fun x => x))), (100000, o_go G Q mX12_sequenced (d + 1) 370), (370, (o_inc 7 1)), (373, (o_go G Q mX12_sequenced (d + 1) 314)), (376, (o_ld 0 2)), (377, (o_get 12 2 2)), (380, (o_ci 2)), (381, (o_ld 1 0)), (382, (o_ast 100 0 (fun x => x))), (383, (o_ci 0)), (384, (o_st 7 0)), (100000, o_go G Q mX12_sequenced (d + 1) 386), (386, (o_ld 7 0)), (388, (o_ld 1 0)), (389, (o_if2 G Q mX12_sequenced (d + 1) (fun a b => b ≤ a) 445)), (392, (o_ld 0 2)), (393, (o_get 12 2 2)), (396, (o_ci 123)), (398, (o_ld 7 0)), (400, (o_bin (fun a b => w32 (a + b)))), (401, (o_ld 0 2)), (402, (o_get 12 34 2)), (405, (o_ld 7 0)), (407, (o_if1 G Q mX12_sequenced (d + 1) (fun x => ¬ x = 0) 414)), (410, (o_ld 2 0)), (411, (o_go G Q mX12_sequenced (d + 1) 437)), (414, (o_ld 7 0)), (416, (o_ci 1)), (417, (o_if2 G Q mX12_sequenced (d + 1) (fun a b => ¬ a = b) 424)), (420, (o_ld 3 0)), (421, (o_go G Q mX12_sequenced (d + 1) 437)), (424, (o_ld 7 0)), (426, (o_ci 2)), (427, (o_if2 G Q mX12_sequenced (d + 1) (fun a b => ¬ a = b) 435)), (430, (o_ld 4 0)), (432, (o_go G Q mX12_sequenced (d + 1) 437)), (435, (o_ld 5 0)), (100000, o_go G Q mX12_sequenced (d + 1) 437), (437, (o_ald 100 0)), (438, (o_ast 100 0 (fun x => x))), (439, (o_inc 7 1)), (442, (o_go G Q mX12_sequenced (d + 1) 386)), (445, (o_ci 1)), (446, (o_ret Q true))]
set_option maxRecDepth 100000 in
set_option maxHeartbeats 4000000 in
theorem kX12_sequenced (G : ms_G) (Q : ms_Q) (d : Nat) : ms_Oc G Q mX12_sequenced (d + 1) (tX12_sequenced G Q d) :=
  ms_oc1 rfl (s_iload_n rfl dX12_sequenced_0) <|
  ms_oc1 rfl (s_i2l dX12_sequenced_1) <|
  ms_oc1 rfl (s_lconst dX12_sequenced_2 (by decide) (by decide)) <|
  ms_oc1 rfl (s_ldc2 dX12_sequenced_3 kw_1265 (by decide) (by decide)) <|
  ms_oc1 rfl (s_invS kw_1062 kw_1063 kw_88 kw_1064 ⟨by decide +kernel, by decide +kernel, by decide +kernel⟩ (by decide) dX12_sequenced_6) <|
  ms_oc1 rfl (s_ifne (by decide) dX12_sequenced_9) <|
  ms_oc1 rfl (s_iconst dX12_sequenced_12 (by decide)) <|
  ms_oc1 rfl (s_iret (b := true) rfl dX12_sequenced_13) <|
  ms_oc1 rfl (s_iconst dX12_sequenced_14 (by decide)) <|
  ms_occ (s_istore (by decide) dX12_sequenced_15) <|
  ms_oc1 rfl (s_iload dX12_sequenced_17) <|
  ms_oc1 rfl (s_iload_n rfl dX12_sequenced_19) <|
  ms_oc1 rfl (s_icmpge (by decide) dX12_sequenced_20) <|
  ms_oc1 rfl (s_iload dX12_sequenced_23) <|
  ms_oc1 rfl (s_ifne (by decide) dX12_sequenced_25) <|
  ms_oc1 rfl (s_iload_n rfl dX12_sequenced_28) <|
  ms_oc1 rfl (s_goto (by decide) dX12_sequenced_29) <|
  ms_oc1 rfl (s_iload dX12_sequenced_32) <|
  ms_oc1 rfl (s_iconst dX12_sequenced_34 (by decide)) <|
  ms_oc1 rfl (s_icmpne (by decide) dX12_sequenced_35) <|
  ms_oc1 rfl (s_iload_n rfl dX12_sequenced_38) <|
  ms_oc1 rfl (s_goto (by decide) dX12_sequenced_39) <|
  ms_oc1 rfl (s_iload dX12_sequenced_42) <|
  ms_oc1 rfl (s_iconst dX12_sequenced_44 (by decide)) <|
  ms_oc1 rfl (s_icmpne (by decide) dX12_sequenced_45) <|
  ms_oc1 rfl (s_iload dX12_sequenced_48) <|
  ms_oc1 rfl (s_goto (by decide) dX12_sequenced_50) <|
  ms_occ (s_iload dX12_sequenced_53) <|
  ms_oc1 rfl (s_istore (by decide) dX12_sequenced_55) <|
  ms_oc1 rfl (s_iload dX12_sequenced_57) <|
  ms_oc1 rfl (s_i2l dX12_sequenced_59) <|
  ms_oc1 rfl (s_lconst dX12_sequenced_60 (by decide) (by decide)) <|
  ms_oc1 rfl (s_ldc2 dX12_sequenced_61 kw_1130 (by decide) (by decide)) <|
  ms_oc1 rfl (s_invS kw_1062 kw_1063 kw_88 kw_1064 ⟨by decide +kernel, by decide +kernel, by decide +kernel⟩ (by decide) dX12_sequenced_64) <|
  ms_oc1 rfl (s_ifne (by decide) dX12_sequenced_67) <|
  ms_oc1 rfl (s_iconst dX12_sequenced_70 (by decide)) <|
  ms_oc1 rfl (s_iret (b := true) rfl dX12_sequenced_71) <|
  ms_oc1 rfl (s_iinc (by decide) dX12_sequenced_72) <|
  ms_oc1 rfl (s_goto (by decide) dX12_sequenced_75) <|
  ms_oc1 rfl (s_iconst dX12_sequenced_78 (by decide)) <|
  ms_occ (s_istore (by decide) dX12_sequenced_79) <|
  ms_oc1 rfl (s_iload dX12_sequenced_81) <|
  ms_oc1 rfl (s_sipush dX12_sequenced_83 (by decide) (by decide)) <|
  ms_oc1 rfl (s_icmpgt (by decide) dX12_sequenced_86) <|
  ms_oc1 rfl (s_aload_n rfl dX12_sequenced_89) <|
  ms_oc1 rfl (s_get (r := (RX12, TX12, 45)) rfl (by decide) rfl rfl kw_953 dX12_sequenced_90) <|
  ms_oc1 rfl (s_iload dX12_sequenced_93) <|
  ms_oc1 rfl (s_iconst dX12_sequenced_95 (by decide)) <|
  ms_oc1 rfl (s_bastore dX12_sequenced_96) <|
  ms_oc1 rfl (s_iinc (by decide) dX12_sequenced_97) <|
  ms_oc1 rfl (s_goto (by decide) dX12_sequenced_100) <|
  ms_oc1 rfl (s_aload_n rfl dX12_sequenced_103) <|
  ms_oc1 rfl (s_get (r := (RX12, TX12, 45)) rfl (by decide) rfl rfl kw_953 dX12_sequenced_104) <|
  ms_oc1 rfl (s_iconst dX12_sequenced_107 (by decide)) <|
  ms_oc1 rfl (s_iconst dX12_sequenced_108 (by decide)) <|
  ms_oc1 rfl (s_bastore dX12_sequenced_109) <|
  ms_oc1 rfl (s_iconst dX12_sequenced_110 (by decide)) <|
  ms_occ (s_istore (by decide) dX12_sequenced_111) <|
  ms_oc1 rfl (s_iload dX12_sequenced_113) <|
  ms_oc1 rfl (s_iload_n rfl dX12_sequenced_115) <|
  ms_oc1 rfl (s_icmpge (by decide) dX12_sequenced_116) <|
  ms_oc1 rfl (s_aload_n rfl dX12_sequenced_119) <|
  ms_oc1 rfl (s_get (r := (RX12, TX12, 45)) rfl (by decide) rfl rfl kw_953 dX12_sequenced_120) <|
  ms_oc1 rfl (s_iload dX12_sequenced_123) <|
  ms_oc1 rfl (s_ifne (by decide) dX12_sequenced_125) <|
  ms_oc1 rfl (s_iload_n rfl dX12_sequenced_128) <|
  ms_oc1 rfl (s_goto (by decide) dX12_sequenced_129) <|
  ms_oc1 rfl (s_iload dX12_sequenced_132) <|
  ms_oc1 rfl (s_iconst dX12_sequenced_134 (by decide)) <|
  ms_oc1 rfl (s_icmpne (by decide) dX12_sequenced_135) <|
  ms_oc1 rfl (s_iload_n rfl dX12_sequenced_138) <|
  ms_oc1 rfl (s_goto (by decide) dX12_sequenced_139) <|
  ms_oc1 rfl (s_iload dX12_sequenced_142) <|
  ms_oc1 rfl (s_iconst dX12_sequenced_144 (by decide)) <|
  ms_oc1 rfl (s_icmpne (by decide) dX12_sequenced_145) <|
  ms_oc1 rfl (s_iload dX12_sequenced_148) <|
  ms_oc1 rfl (s_goto (by decide) dX12_sequenced_150) <|
  ms_occ (s_iload dX12_sequenced_153) <|
  ms_oc1 rfl (s_iconst dX12_sequenced_155 (by decide)) <|
  ms_oc1 rfl (s_bastore dX12_sequenced_156) <|
  ms_oc1 rfl (s_iinc (by decide) dX12_sequenced_157) <|
  ms_oc1 rfl (s_goto (by decide) dX12_sequenced_160) <|
  ms_oc1 rfl (s_iconst dX12_sequenced_163 (by decide)) <|
  ms_oc1 rfl (s_istore (by decide) dX12_sequenced_164) <|
  ms_oc1 rfl (s_sipush dX12_sequenced_166 (by decide) (by decide)) <|
  ms_occ (s_istore (by decide) dX12_sequenced_169) <|
  ms_oc1 rfl (s_iload dX12_sequenced_171) <|
  ms_oc1 rfl (s_iconst dX12_sequenced_173 (by decide)) <|
  ms_oc1 rfl (s_icmple (by decide) dX12_sequenced_174) <|
  ms_oc1 rfl (s_aload_n rfl dX12_sequenced_177) <|
  ms_oc1 rfl (s_get (r := (RX12, TX12, 45)) rfl (by decide) rfl rfl kw_953 dX12_sequenced_178) <|
  ms_oc1 rfl (s_iload dX12_sequenced_181) <|
  ms_oc1 rfl (s_baload dX12_sequenced_183) <|
  ms_oc1 rfl (s_ifne (by decide) dX12_sequenced_184) <|
  ms_oc1 rfl (s_goto (by decide) dX12_sequenced_187) <|
  ms_oc1 rfl (s_iinc (by decide) dX12_sequenced_190) <|
  ms_oc1 rfl (s_iload dX12_sequenced_193) <|
  ms_oc1 rfl (s_iconst dX12_sequenced_195 (by decide)) <|
  ms_oc1 rfl (s_isub dX12_sequenced_196) <|
  ms_occ (s_istore (by decide) dX12_sequenced_197) <|
  ms_oc1 rfl (s_aload_n rfl dX12_sequenced_199) <|
  ms_oc1 rfl (s_get (r := (RX12, TX12, 45)) rfl (by decide) rfl rfl kw_953 dX12_sequenced_200) <|
  ms_oc1 rfl (s_iload dX12_sequenced_203) <|
  ms_oc1 rfl (s_baload dX12_sequenced_205) <|
  ms_oc1 rfl (s_ifne (by decide) dX12_sequenced_206) <|
  ms_oc1 rfl (s_iinc (by decide) dX12_sequenced_209) <|
  ms_oc1 rfl (s_goto (by decide) dX12_sequenced_212) <|
  ms_oc1 rfl (s_iload dX12_sequenced_215) <|
  ms_oc1 rfl (s_iconst dX12_sequenced_217 (by decide)) <|
  ms_oc1 rfl (s_iload dX12_sequenced_218) <|
  ms_oc1 rfl (s_imul dX12_sequenced_220) <|
  ms_oc1 rfl (s_icmpge (by decide) dX12_sequenced_221) <|
  ms_oc1 rfl (s_aload_n rfl dX12_sequenced_224) <|
  ms_oc1 rfl (s_iload dX12_sequenced_225) <|
  ms_oc1 rfl (s_iload dX12_sequenced_227) <|
  ms_oc1 rfl (s_iload dX12_sequenced_229) <|
  ms_oc1 rfl (s_iload dX12_sequenced_231) <|
  ms_oc1 rfl (s_isub dX12_sequenced_233) <|
  ms_oc1 rfl (s_invV (r := (RX12, TX12, 45)) rfl rfl kw_1266 kw_1268 kw_67 kw_88 kw_1269 ⟨by decide +kernel, by decide +kernel, by decide +kernel⟩ (by decide) dX12_sequenced_234) <|
  ms_oc1 rfl (s_goto (by decide) dX12_sequenced_237) <|
  ms_oc1 rfl (s_iload dX12_sequenced_240) <|
  ms_oc1 rfl (s_iconst dX12_sequenced_242 (by decide)) <|
  ms_oc1 rfl (s_irem dX12_sequenced_243) <|
  ms_oc1 rfl (s_ifne (by decide) dX12_sequenced_244) <|
  ms_oc1 rfl (s_aload_n rfl dX12_sequenced_247) <|
  ms_oc1 rfl (s_iload dX12_sequenced_248) <|
  ms_oc1 rfl (s_iload dX12_sequenced_250) <|
  ms_oc1 rfl (s_iconst dX12_sequenced_252 (by decide)) <|
  ms_oc1 rfl (s_idiv dX12_sequenced_253) <|
  ms_oc1 rfl (s_iload dX12_sequenced_254) <|
  ms_oc1 rfl (s_iconst dX12_sequenced_256 (by decide)) <|
  ms_oc1 rfl (s_idiv dX12_sequenced_257) <|
  ms_oc1 rfl (s_invV (r := (RX12, TX12, 45)) rfl rfl kw_1266 kw_1268 kw_67 kw_88 kw_1269 ⟨by decide +kernel, by decide +kernel, by decide +kernel⟩ (by decide) dX12_sequenced_258) <|
  ms_oc1 rfl (s_goto (by decide) dX12_sequenced_261) <|
  ms_oc1 rfl (s_aload_n rfl dX12_sequenced_264) <|
  ms_oc1 rfl (s_iload dX12_sequenced_265) <|
  ms_oc1 rfl (s_iload dX12_sequenced_267) <|
  ms_oc1 rfl (s_iconst dX12_sequenced_269 (by decide)) <|
  ms_oc1 rfl (s_isub dX12_sequenced_270) <|
  ms_oc1 rfl (s_iconst dX12_sequenced_271 (by decide)) <|
  ms_occ (s_invV (r := (RX12, TX12, 45)) rfl rfl kw_1266 kw_1268 kw_67 kw_88 kw_1269 ⟨by decide +kernel, by decide +kernel, by decide +kernel⟩ (by decide) dX12_sequenced_272) <|
  ms_oc1 rfl (s_iinc (by decide) dX12_sequenced_275) <|
  ms_oc1 rfl (s_goto (by decide) dX12_sequenced_278) <|
  ms_oc1 rfl (s_iload dX12_sequenced_281) <|
  ms_oc1 rfl (s_bipush dX12_sequenced_283 (by decide) (by decide)) <|
  ms_oc1 rfl (s_icmple (by decide) dX12_sequenced_285) <|
  ms_oc1 rfl (s_iconst dX12_sequenced_288 (by decide)) <|
  ms_oc1 rfl (s_iret (b := true) rfl dX12_sequenced_289) <|
  ms_oc1 rfl (s_aload_n rfl dX12_sequenced_290) <|
  ms_oc1 rfl (s_get (r := (RX12, TX12, 45)) rfl (by decide) rfl rfl kw_924 dX12_sequenced_291) <|
  ms_oc1 rfl (s_invS kw_1065 kw_1066 kw_88 kw_1067 ⟨by decide +kernel, by decide +kernel, by decide +kernel⟩ (by decide) dX12_sequenced_294) <|
  ms_oc1 rfl (s_aload_n rfl dX12_sequenced_297) <|
  ms_oc1 rfl (s_get (r := (RX12, TX12, 45)) rfl (by decide) rfl rfl kw_924 dX12_sequenced_298) <|
  ms_oc1 rfl (s_iconst dX12_sequenced_301 (by decide)) <|
  ms_oc1 rfl (s_iconst dX12_sequenced_302 (by decide)) <|
  ms_oc1 rfl (s_iastore dX12_sequenced_303) <|
  ms_oc1 rfl (s_aload_n rfl dX12_sequenced_304) <|
  ms_oc1 rfl (s_get (r := (RX12, TX12, 45)) rfl (by decide) rfl rfl kw_956 dX12_sequenced_305) <|
  ms_oc1 rfl (s_iconst dX12_sequenced_308 (by decide)) <|
  ms_oc1 rfl (s_iconst dX12_sequenced_309 (by decide)) <|
  ms_oc1 rfl (s_iastore dX12_sequenced_310) <|
  ms_oc1 rfl (s_iconst dX12_sequenced_311 (by decide)) <|
  ms_occ (s_istore (by decide) dX12_sequenced_312) <|
  ms_oc1 rfl (s_iload dX12_sequenced_314) <|
  ms_oc1 rfl (s_sipush dX12_sequenced_316 (by decide) (by decide)) <|
  ms_oc1 rfl (s_icmpgt (by decide) dX12_sequenced_319) <|
  ms_oc1 rfl (s_aload_n rfl dX12_sequenced_322) <|
  ms_oc1 rfl (s_get (r := (RX12, TX12, 45)) rfl (by decide) rfl rfl kw_953 dX12_sequenced_323) <|
  ms_oc1 rfl (s_iload dX12_sequenced_326) <|
  ms_oc1 rfl (s_baload dX12_sequenced_328) <|
  ms_oc1 rfl (s_ifeq (by decide) dX12_sequenced_329) <|
  ms_oc1 rfl (s_aload_n rfl dX12_sequenced_332) <|
  ms_oc1 rfl (s_get (r := (RX12, TX12, 45)) rfl (by decide) rfl rfl kw_956 dX12_sequenced_333) <|
  ms_oc1 rfl (s_iload dX12_sequenced_336) <|
  ms_oc1 rfl (s_aload_n rfl dX12_sequenced_338) <|
  ms_oc1 rfl (s_get (r := (RX12, TX12, 45)) rfl (by decide) rfl rfl kw_924 dX12_sequenced_339) <|
  ms_oc1 rfl (s_aload_n rfl dX12_sequenced_342) <|
  ms_oc1 rfl (s_get (r := (RX12, TX12, 45)) rfl (by decide) rfl rfl kw_956 dX12_sequenced_343) <|
  ms_oc1 rfl (s_aload_n rfl dX12_sequenced_346) <|
  ms_oc1 rfl (s_get (r := (RX12, TX12, 45)) rfl (by decide) rfl rfl kw_954 dX12_sequenced_347) <|
  ms_oc1 rfl (s_iload dX12_sequenced_350) <|
  ms_oc1 rfl (s_iaload dX12_sequenced_352) <|
  ms_oc1 rfl (s_iaload dX12_sequenced_353) <|
  ms_oc1 rfl (s_aload_n rfl dX12_sequenced_354) <|
  ms_oc1 rfl (s_get (r := (RX12, TX12, 45)) rfl (by decide) rfl rfl kw_956 dX12_sequenced_355) <|
  ms_oc1 rfl (s_aload_n rfl dX12_sequenced_358) <|
  ms_oc1 rfl (s_get (r := (RX12, TX12, 45)) rfl (by decide) rfl rfl kw_955 dX12_sequenced_359) <|
  ms_oc1 rfl (s_iload dX12_sequenced_362) <|
  ms_oc1 rfl (s_iaload dX12_sequenced_364) <|
  ms_oc1 rfl (s_iaload dX12_sequenced_365) <|
  ms_oc1 rfl (s_invS kw_1135 kw_1136 kw_88 kw_1137 ⟨by decide +kernel, by decide +kernel, by decide +kernel⟩ (by decide) dX12_sequenced_366) <|
  ms_occ (s_iastore dX12_sequenced_369) <|
  ms_oc1 rfl (s_iinc (by decide) dX12_sequenced_370) <|
  ms_oc1 rfl (s_goto (by decide) dX12_sequenced_373) <|
  ms_oc1 rfl (s_aload_n rfl dX12_sequenced_376) <|
  ms_oc1 rfl (s_get (r := (RX12, TX12, 45)) rfl (by decide) rfl rfl kw_924 dX12_sequenced_377) <|
  ms_oc1 rfl (s_iconst dX12_sequenced_380 (by decide)) <|
  ms_oc1 rfl (s_iload_n rfl dX12_sequenced_381) <|
  ms_oc1 rfl (s_iastore dX12_sequenced_382) <|
  ms_oc1 rfl (s_iconst dX12_sequenced_383 (by decide)) <|
  ms_occ (s_istore (by decide) dX12_sequenced_384) <|
  ms_oc1 rfl (s_iload dX12_sequenced_386) <|
  ms_oc1 rfl (s_iload_n rfl dX12_sequenced_388) <|
  ms_oc1 rfl (s_icmpge (by decide) dX12_sequenced_389) <|
  ms_oc1 rfl (s_aload_n rfl dX12_sequenced_392) <|
  ms_oc1 rfl (s_get (r := (RX12, TX12, 45)) rfl (by decide) rfl rfl kw_924 dX12_sequenced_393) <|
  ms_oc1 rfl (s_bipush dX12_sequenced_396 (by decide) (by decide)) <|
  ms_oc1 rfl (s_iload dX12_sequenced_398) <|
  ms_oc1 rfl (s_iadd dX12_sequenced_400) <|
  ms_oc1 rfl (s_aload_n rfl dX12_sequenced_401) <|
  ms_oc1 rfl (s_get (r := (RX12, TX12, 45)) rfl (by decide) rfl rfl kw_956 dX12_sequenced_402) <|
  ms_oc1 rfl (s_iload dX12_sequenced_405) <|
  ms_oc1 rfl (s_ifne (by decide) dX12_sequenced_407) <|
  ms_oc1 rfl (s_iload_n rfl dX12_sequenced_410) <|
  ms_oc1 rfl (s_goto (by decide) dX12_sequenced_411) <|
  ms_oc1 rfl (s_iload dX12_sequenced_414) <|
  ms_oc1 rfl (s_iconst dX12_sequenced_416 (by decide)) <|
  ms_oc1 rfl (s_icmpne (by decide) dX12_sequenced_417) <|
  ms_oc1 rfl (s_iload_n rfl dX12_sequenced_420) <|
  ms_oc1 rfl (s_goto (by decide) dX12_sequenced_421) <|
  ms_oc1 rfl (s_iload dX12_sequenced_424) <|
  ms_oc1 rfl (s_iconst dX12_sequenced_426 (by decide)) <|
  ms_oc1 rfl (s_icmpne (by decide) dX12_sequenced_427) <|
  ms_oc1 rfl (s_iload dX12_sequenced_430) <|
  ms_oc1 rfl (s_goto (by decide) dX12_sequenced_432) <|
  ms_occ (s_iload dX12_sequenced_435) <|
  ms_oc1 rfl (s_iaload dX12_sequenced_437) <|
  ms_oc1 rfl (s_iastore dX12_sequenced_438) <|
  ms_oc1 rfl (s_iinc (by decide) dX12_sequenced_439) <|
  ms_oc1 rfl (s_goto (by decide) dX12_sequenced_442) <|
  ms_oc1 rfl (s_iconst dX12_sequenced_445 (by decide)) <|
  ms_oc0 (s_iret (b := true) rfl dX12_sequenced_446)

def tX12_sequence (G : ms_G) (Q : ms_Q) (d : Nat) : List (Nat × ms_T) := [(0, (o_ld 0 2)), (1, (o_ci 0)), (2, (o_put 12 0 0)), (5, (o_ld 0 2)), (6, (o_ld 1 0)), (7, (o_ld 2 0)), (8, (o_ld 3 0)), (9, (o_ld 4 0)), (11, (o_ld 5 0)), (13, (o_invV G d mX12_sequenced 12 5 0 0)), (16, (o_if1 G Q mX12_sequence (d + 1) (fun x => x = 0) 26)), (19, (o_ld 0 2)), (20, (o_invV G d mX12_becomes 12 0 0 0)), (23, (o_go G Q mX12_sequence (d + 1) 27)), (26, (o_ci (-1))), (100000, o_go G Q mX12_sequence (d + 1) 27), (27, (o_ret Q false))]
set_option maxRecDepth 100000 in
set_option maxHeartbeats 4000000 in
theorem kX12_sequence (G : ms_G) (Q : ms_Q) (d : Nat) : ms_Oc G Q mX12_sequence (d + 1) (tX12_sequence G Q d) :=
  ms_oc1 rfl (s_aload_n rfl dX12_sequence_0) <|
  ms_oc1 rfl (s_iconst dX12_sequence_1 (by decide)) <|
  ms_oc1 rfl (s_put (r := (RX12, TX12, 45)) rfl (by decide) rfl rfl (ms_nar0 rfl) (Or.inl rfl) kw_922 dX12_sequence_2) <|
  ms_oc1 rfl (s_aload_n rfl dX12_sequence_5) <|
  ms_oc1 rfl (s_iload_n rfl dX12_sequence_6) <|
  ms_oc1 rfl (s_iload_n rfl dX12_sequence_7) <|
  ms_oc1 rfl (s_iload_n rfl dX12_sequence_8) <|
  ms_oc1 rfl (s_iload dX12_sequence_9) <|
  ms_oc1 rfl (s_iload dX12_sequence_11) <|
  ms_oc1 rfl (s_invV (r := (RX12, TX12, 45)) rfl rfl kw_1261 kw_1263 kw_66 kw_88 kw_1264 ⟨by decide +kernel, by decide +kernel, by decide +kernel⟩ (by decide) dX12_sequence_13) <|
  ms_oc1 rfl (s_ifeq (by decide) dX12_sequence_16) <|
  ms_oc1 rfl (s_aload_n rfl dX12_sequence_19) <|
  ms_oc1 rfl (s_invV (r := (RX12, TX12, 45)) rfl rfl kw_1157 kw_1159 kw_54 kw_88 kw_1160 ⟨by decide +kernel, by decide +kernel, by decide +kernel⟩ (by decide) dX12_sequence_20) <|
  ms_oc1 rfl (s_goto (by decide) dX12_sequence_23) <|
  ms_occ (s_iconst dX12_sequence_26 (by decide)) <|
  ms_oc0 (s_iret (b := false) rfl dX12_sequence_27)

def tX12_vector (G : ms_G) (Q : ms_Q) (d : Nat) : List (Nat × ms_T) := [(0, (o_ld 0 2)), (1, (o_ci 0)), (2, (o_put 12 0 0)), (5, (o_ld 0 2)), (6, (o_ld 1 0)), (7, (o_ld 2 0)), (8, (o_ld 3 0)), (9, (o_ld 4 0)), (11, (o_ld 5 0)), (13, (o_invV G d mX12_sequenced 12 5 0 0)), (16, (o_if1 G Q mX12_vector (d + 1) (fun x => ¬ x = 0) 21)), (19, (o_ci (-1))), (20, (o_ret Q false)), (21, (o_ld 0 2)), (22, (o_get 12 2 2)), (25, (o_ci 0)), (26, (o_ld 0 2)), (27, (o_get 12 30 2)), (30, (o_ci 0)), (31, (o_invS G d mX12_copies 4 0 0)), (34, (o_ld 0 2)), (35, (o_ld 0 2)), (36, (o_get 12 30 2)), (39, (o_invV G d mX12_turns 12 1 0 0)), (42, (o_if1 G Q mX12_vector (d + 1) (fun x => x = 0) 52)), (45, (o_ld 0 2)), (46, (o_invV G d mX12_becomes 12 0 0 0)), (49, (o_go G Q mX12_vector (d + 1) 53)), (52, (o_ci (-1))), (100000, o_go G Q mX12_vector (d + 1) 53), (53, (o_ret Q false))]
set_option maxRecDepth 100000 in
set_option maxHeartbeats 4000000 in
theorem kX12_vector (G : ms_G) (Q : ms_Q) (d : Nat) : ms_Oc G Q mX12_vector (d + 1) (tX12_vector G Q d) :=
  ms_oc1 rfl (s_aload_n rfl dX12_vector_0) <|
  ms_oc1 rfl (s_iconst dX12_vector_1 (by decide)) <|
  ms_oc1 rfl (s_put (r := (RX12, TX12, 45)) rfl (by decide) rfl rfl (ms_nar0 rfl) (Or.inl rfl) kw_922 dX12_vector_2) <|
  ms_oc1 rfl (s_aload_n rfl dX12_vector_5) <|
  ms_oc1 rfl (s_iload_n rfl dX12_vector_6) <|
  ms_oc1 rfl (s_iload_n rfl dX12_vector_7) <|
  ms_oc1 rfl (s_iload_n rfl dX12_vector_8) <|
  ms_oc1 rfl (s_iload dX12_vector_9) <|
  ms_oc1 rfl (s_iload dX12_vector_11) <|
  ms_oc1 rfl (s_invV (r := (RX12, TX12, 45)) rfl rfl kw_1261 kw_1263 kw_66 kw_88 kw_1264 ⟨by decide +kernel, by decide +kernel, by decide +kernel⟩ (by decide) dX12_vector_13) <|
  ms_oc1 rfl (s_ifne (by decide) dX12_vector_16) <|
  ms_oc1 rfl (s_iconst dX12_vector_19 (by decide)) <|
  ms_oc1 rfl (s_iret (b := false) rfl dX12_vector_20) <|
  ms_oc1 rfl (s_aload_n rfl dX12_vector_21) <|
  ms_oc1 rfl (s_get (r := (RX12, TX12, 45)) rfl (by decide) rfl rfl kw_924 dX12_vector_22) <|
  ms_oc1 rfl (s_iconst dX12_vector_25 (by decide)) <|
  ms_oc1 rfl (s_aload_n rfl dX12_vector_26) <|
  ms_oc1 rfl (s_get (r := (RX12, TX12, 45)) rfl (by decide) rfl rfl kw_952 dX12_vector_27) <|
  ms_oc1 rfl (s_iconst dX12_vector_30 (by decide)) <|
  ms_oc1 rfl (s_invS kw_1165 kw_1166 kw_88 kw_1167 ⟨by decide +kernel, by decide +kernel, by decide +kernel⟩ (by decide) dX12_vector_31) <|
  ms_oc1 rfl (s_aload_n rfl dX12_vector_34) <|
  ms_oc1 rfl (s_aload_n rfl dX12_vector_35) <|
  ms_oc1 rfl (s_get (r := (RX12, TX12, 45)) rfl (by decide) rfl rfl kw_952 dX12_vector_36) <|
  ms_oc1 rfl (s_invV (r := (RX12, TX12, 45)) rfl rfl kw_1245 kw_1247 kw_64 kw_88 kw_1248 ⟨by decide +kernel, by decide +kernel, by decide +kernel⟩ (by decide) dX12_vector_39) <|
  ms_oc1 rfl (s_ifeq (by decide) dX12_vector_42) <|
  ms_oc1 rfl (s_aload_n rfl dX12_vector_45) <|
  ms_oc1 rfl (s_invV (r := (RX12, TX12, 45)) rfl rfl kw_1157 kw_1159 kw_54 kw_88 kw_1160 ⟨by decide +kernel, by decide +kernel, by decide +kernel⟩ (by decide) dX12_vector_46) <|
  ms_oc1 rfl (s_goto (by decide) dX12_vector_49) <|
  ms_occ (s_iconst dX12_vector_52 (by decide)) <|
  ms_oc0 (s_iret (b := false) rfl dX12_vector_53)

def tX12_isShelf (G : ms_G) (Q : ms_Q) (d : Nat) : List (Nat × ms_T) := [(0, (o_ld 0 0)), (1, (o_un 0 1 (fun a => a))), (2, (o_cl 0)), (3, (o_cl (2))), (6, (o_invS G d mX12_within 3 0 0)), (9, (o_ret Q true))]
set_option maxRecDepth 100000 in
set_option maxHeartbeats 4000000 in
theorem kX12_isShelf (G : ms_G) (Q : ms_Q) (d : Nat) : ms_Oc G Q mX12_isShelf (d + 1) (tX12_isShelf G Q d) :=
  ms_oc1 rfl (s_iload_n rfl dX12_isShelf_0) <|
  ms_oc1 rfl (s_i2l dX12_isShelf_1) <|
  ms_oc1 rfl (s_lconst dX12_isShelf_2 (by decide) (by decide)) <|
  ms_oc1 rfl (s_ldc2 dX12_isShelf_3 kw_1129 (by decide) (by decide)) <|
  ms_oc1 rfl (s_invS kw_1062 kw_1063 kw_88 kw_1064 ⟨by decide +kernel, by decide +kernel, by decide +kernel⟩ (by decide) dX12_isShelf_6) <|
  ms_oc0 (s_iret (b := true) rfl dX12_isShelf_9)

def tX12_save (G : ms_G) (Q : ms_Q) (d : Nat) : List (Nat × ms_T) := [(0, (o_ld 0 2)), (1, (o_ci 0)), (2, (o_put 12 0 0)), (5, (o_ld 1 0)), (6, (o_invS G d mX12_isShelf 1 0 0)), (9, (o_if1 G Q mX12_save (d + 1) (fun x => ¬ x = 0) 14)), (12, (o_ci (-1))), (13, (o_ret Q false)), (14, (o_ld 0 2)), (15, (o_get 12 1 2)), (18, (o_ci 0)), (19, (o_ld 0 2)), (20, (o_get 12 5 2)), (23, (o_ci 127)), (25, (o_ld 1 0)), (26, (o_bin (fun a b => w32 (a * b)))), (27, (o_invS G d mX12_copies 4 0 0)), (30, (o_ld 0 2)), (31, (o_get 12 6 2)), (34, (o_ld 1 0)), (35, (o_ci 1)), (36, o_bast), (37, (o_ld 0 2)), (38, (o_get 12 1 2)), (41, (o_ci 1)), (42, (o_ald 100 0)), (43, (o_ret Q false))]
set_option maxRecDepth 100000 in
set_option maxHeartbeats 4000000 in
theorem kX12_save (G : ms_G) (Q : ms_Q) (d : Nat) : ms_Oc G Q mX12_save (d + 1) (tX12_save G Q d) :=
  ms_oc1 rfl (s_aload_n rfl dX12_save_0) <|
  ms_oc1 rfl (s_iconst dX12_save_1 (by decide)) <|
  ms_oc1 rfl (s_put (r := (RX12, TX12, 45)) rfl (by decide) rfl rfl (ms_nar0 rfl) (Or.inl rfl) kw_922 dX12_save_2) <|
  ms_oc1 rfl (s_iload_n rfl dX12_save_5) <|
  ms_oc1 rfl (s_invS kw_1281 kw_1282 kw_88 kw_1283 ⟨by decide +kernel, by decide +kernel, by decide +kernel⟩ (by decide) dX12_save_6) <|
  ms_oc1 rfl (s_ifne (by decide) dX12_save_9) <|
  ms_oc1 rfl (s_iconst dX12_save_12 (by decide)) <|
  ms_oc1 rfl (s_iret (b := false) rfl dX12_save_13) <|
  ms_oc1 rfl (s_aload_n rfl dX12_save_14) <|
  ms_oc1 rfl (s_get (r := (RX12, TX12, 45)) rfl (by decide) rfl rfl kw_923 dX12_save_15) <|
  ms_oc1 rfl (s_iconst dX12_save_18 (by decide)) <|
  ms_oc1 rfl (s_aload_n rfl dX12_save_19) <|
  ms_oc1 rfl (s_get (r := (RX12, TX12, 45)) rfl (by decide) rfl rfl kw_927 dX12_save_20) <|
  ms_oc1 rfl (s_bipush dX12_save_23 (by decide) (by decide)) <|
  ms_oc1 rfl (s_iload_n rfl dX12_save_25) <|
  ms_oc1 rfl (s_imul dX12_save_26) <|
  ms_oc1 rfl (s_invS kw_1165 kw_1166 kw_88 kw_1167 ⟨by decide +kernel, by decide +kernel, by decide +kernel⟩ (by decide) dX12_save_27) <|
  ms_oc1 rfl (s_aload_n rfl dX12_save_30) <|
  ms_oc1 rfl (s_get (r := (RX12, TX12, 45)) rfl (by decide) rfl rfl kw_928 dX12_save_31) <|
  ms_oc1 rfl (s_iload_n rfl dX12_save_34) <|
  ms_oc1 rfl (s_iconst dX12_save_35 (by decide)) <|
  ms_oc1 rfl (s_bastore dX12_save_36) <|
  ms_oc1 rfl (s_aload_n rfl dX12_save_37) <|
  ms_oc1 rfl (s_get (r := (RX12, TX12, 45)) rfl (by decide) rfl rfl kw_923 dX12_save_38) <|
  ms_oc1 rfl (s_iconst dX12_save_41 (by decide)) <|
  ms_oc1 rfl (s_iaload dX12_save_42) <|
  ms_oc0 (s_iret (b := false) rfl dX12_save_43)

def tX12_load (G : ms_G) (Q : ms_Q) (d : Nat) : List (Nat × ms_T) := [(0, (o_ld 0 2)), (1, (o_ci 0)), (2, (o_put 12 0 0)), (5, (o_ld 1 0)), (6, (o_invS G d mX12_isShelf 1 0 0)), (9, (o_if1 G Q mX12_load (d + 1) (fun x => x = 0) 21)), (12, (o_ld 0 2)), (13, (o_get 12 6 2)), (16, (o_ld 1 0)), (17, o_bald), (18, (o_if1 G Q mX12_load (d + 1) (fun x => ¬ x = 0) 23)), (100000, o_go G Q mX12_load (d + 1) 21), (21, (o_ci (-1))), (22, (o_ret Q false)), (23, (o_ld 0 2)), (24, (o_get 12 5 2)), (27, (o_ci 127)), (29, (o_ld 1 0)), (30, (o_bin (fun a b => w32 (a * b)))), (31, (o_ld 0 2)), (32, (o_get 12 2 2)), (35, (o_ci 0)), (36, (o_invS G d mX12_copies 4 0 0)), (39, (o_ld 0 2)), (40, (o_invV G d mX12_becomes 12 0 0 0)), (43, (o_ret Q false))]
set_option maxRecDepth 100000 in
set_option maxHeartbeats 4000000 in
theorem kX12_load (G : ms_G) (Q : ms_Q) (d : Nat) : ms_Oc G Q mX12_load (d + 1) (tX12_load G Q d) :=
  ms_oc1 rfl (s_aload_n rfl dX12_load_0) <|
  ms_oc1 rfl (s_iconst dX12_load_1 (by decide)) <|
  ms_oc1 rfl (s_put (r := (RX12, TX12, 45)) rfl (by decide) rfl rfl (ms_nar0 rfl) (Or.inl rfl) kw_922 dX12_load_2) <|
  ms_oc1 rfl (s_iload_n rfl dX12_load_5) <|
  ms_oc1 rfl (s_invS kw_1281 kw_1282 kw_88 kw_1283 ⟨by decide +kernel, by decide +kernel, by decide +kernel⟩ (by decide) dX12_load_6) <|
  ms_oc1 rfl (s_ifeq (by decide) dX12_load_9) <|
  ms_oc1 rfl (s_aload_n rfl dX12_load_12) <|
  ms_oc1 rfl (s_get (r := (RX12, TX12, 45)) rfl (by decide) rfl rfl kw_928 dX12_load_13) <|
  ms_oc1 rfl (s_iload_n rfl dX12_load_16) <|
  ms_oc1 rfl (s_baload dX12_load_17) <|
  ms_occ (s_ifne (by decide) dX12_load_18) <|
  ms_oc1 rfl (s_iconst dX12_load_21 (by decide)) <|
  ms_oc1 rfl (s_iret (b := false) rfl dX12_load_22) <|
  ms_oc1 rfl (s_aload_n rfl dX12_load_23) <|
  ms_oc1 rfl (s_get (r := (RX12, TX12, 45)) rfl (by decide) rfl rfl kw_927 dX12_load_24) <|
  ms_oc1 rfl (s_bipush dX12_load_27 (by decide) (by decide)) <|
  ms_oc1 rfl (s_iload_n rfl dX12_load_29) <|
  ms_oc1 rfl (s_imul dX12_load_30) <|
  ms_oc1 rfl (s_aload_n rfl dX12_load_31) <|
  ms_oc1 rfl (s_get (r := (RX12, TX12, 45)) rfl (by decide) rfl rfl kw_924 dX12_load_32) <|
  ms_oc1 rfl (s_iconst dX12_load_35 (by decide)) <|
  ms_oc1 rfl (s_invS kw_1165 kw_1166 kw_88 kw_1167 ⟨by decide +kernel, by decide +kernel, by decide +kernel⟩ (by decide) dX12_load_36) <|
  ms_oc1 rfl (s_aload_n rfl dX12_load_39) <|
  ms_oc1 rfl (s_invV (r := (RX12, TX12, 45)) rfl rfl kw_1157 kw_1159 kw_54 kw_88 kw_1160 ⟨by decide +kernel, by decide +kernel, by decide +kernel⟩ (by decide) dX12_load_40) <|
  ms_oc0 (s_iret (b := false) rfl dX12_load_43)

def tX12_same (G : ms_G) (Q : ms_Q) (d : Nat) : List (Nat × ms_T) := [(0, (o_ld 0 2)), (1, (o_ci 0)), (2, (o_put 12 0 0)), (5, (o_ld 1 0)), (6, (o_invS G d mX12_isShelf 1 0 0)), (9, (o_if1 G Q mX12_same (d + 1) (fun x => x = 0) 21)), (12, (o_ld 0 2)), (13, (o_get 12 6 2)), (16, (o_ld 1 0)), (17, o_bald), (18, (o_if1 G Q mX12_same (d + 1) (fun x => ¬ x = 0) 23)), (100000, o_go G Q mX12_same (d + 1) 21), (21, (o_ci (-1))), (22, (o_ret Q false)), (23, (o_ld 0 2)), (24, (o_get 12 5 2)), (27, (o_ci 127)), (29, (o_ld 1 0)), (30, (o_bin (fun a b => w32 (a * b)))), (31, (o_ld 0 2)), (32, (o_get 12 30 2)), (35, (o_ci 0)), (36, (o_invS G d mX12_copies 4 0 0)), (39, (o_ld 0 2)), (40, (o_get 12 30 2)), (43, (o_ci 0)), (44, (o_ald 100 0)), (45, (o_ld 0 2)), (46, (o_get 12 1 2)), (49, (o_ci 0)), (50, (o_ald 100 0)), (51, (o_if2 G Q mX12_same (d + 1) (fun a b => ¬ a = b) 69)), (54, (o_ld 0 2)), (55, (o_get 12 30 2)), (58, (o_ci 2)), (59, (o_ald 100 0)), (60, (o_ld 0 2)), (61, (o_get 12 1 2)), (64, (o_ci 2)), (65, (o_ald 100 0)), (66, (o_if2 G Q mX12_same (d + 1) (fun a b => a = b) 71)), (100000, o_go G Q mX12_same (d + 1) 69), (69, (o_ci 0)), (70, (o_ret Q false)), (71, (o_ld 0 2)), (72, (o_ld 0 2)), (73, (o_get 12 30 2)), (76, (o_invV G d mX12_powersOf 12 1 0 0)), (79, (o_ci 0)), (80, (o_st 2 0)), (100000, o_go G Q mX12_same (d + 1) 81), (81, (o_ld 2 0)), (82, (o_ld 0 2)), (83, (o_get 12 30 2)), (86, (o_ci 2)), (87, (o_ald 100 0)), (88, (o_if2 G Q mX12_same (d + 1) (fun a b => b ≤ a) 143)), (91, (o_ci 0)), (92, (o_st 3 0)), (100000, o_go G Q mX12_same (d + 1) 93), (93, (o_ld 3 0)), (94, (o_ld 0 2)), (95, (o_get 12 30 2)), (98, (o_ci 0)), (99, (o_ald 100 0)), (100, (o_if2 G Q mX12_same (d + 1) (fun a b => b ≤ a) 137)), (103, (o_ld 0 2)), (104, (o_get 12 35 2)), (107, (o_ci 4)), (108, (o_ld 2 0)), (109, (o_bin (fun a b => w32 (a * b)))), (110, (o_ld 3 0)), (111, (o_bin (fun a b => w32 (a + b)))), (112, (o_ld 0 2)), (113, (o_get 12 7 2)), (116, (o_ci 4)), (117, (o_ld 0 2)), (118, (o_get 12 30 2)), (121, (o_ci 123)), (123, (o_ld 2 0)), (124, (o_bin (fun a b => w32 (a + b)))), (125, (o_ald 100 0)), (126, (o_bin (fun a b => w32 (a * b)))), (127, (o_ld 3 0)), (128, (o_bin (fun a b => w32 (a + b)))), (129, (o_ald 101 1)), (130, (o_ast 101 1 (fun x => x))), (131, (o_inc 3 1)), (134, (o_go G Q mX12_same (d + 1) 93)), (137, (o_inc 2 1)), (140, (o_go G Q mX12_same (d + 1) 81)), (143, (o_ld 0 2)), (144, (o_ld 0 2)), (145, (o_get 12 1 2)), (148, (o_invV G d mX12_powersOf 12 1 0 0)), (151, (o_ci 0)), (152, (o_st 2 0)), (100000, o_go G Q mX12_same (d + 1) 153), (153, (o_ld 2 0)), (154, (o_ld 0 2)), (155, (o_get 12 1 2)), (158, (o_ci 2)), (159, (o_ald 100 0)), (160, (o_if2 G Q mX12_same (d + 1) (fun a b => b ≤ a) 221)), (163, (o_ci 0)), (164, (o_st 3 0)), (100000, o_go G Q mX12_same (d + 1) 165), (165, (o_ld 3 0)), (166, (o_ld 0 2)), (167, (o_get 12 1 2)), (170, (o_ci 0)), (171, (o_ald 100 0)), (172, (o_if2 G Q mX12_same (d + 1) (fun a b => b ≤ a) 215)), (175, (o_ld 0 2)), (176, (o_get 12 35 2)), (179, (o_ci 4)), (180, (o_ld 2 0)), (181, (o_bin (fun a b => w32 (a * b)))), (182, (o_ld 3 0)), (183, (o_bin (fun a b => w32 (a + b)))), (184, (o_ald 101 1)), (185, (o_ld 0 2)), (186, (o_get 12 7 2)), (189, (o_ci 4)), (190, (o_ld 0 2)), (191, (o_get 12 1 2)), (194, (o_ci 123)), (196, (o_ld 2 0)), (197, (o_bin (fun a b => w32 (a + b)))), (198, (o_ald 100 0)), (199, (o_bin (fun a b => w32 (a * b)))), (200, (o_ld 3 0)), (201, (o_bin (fun a b => w32 (a + b)))), (202, (o_ald 101 1)), (203, o_lcmp), (204, (o_if1 G Q mX12_same (d + 1) (fun x => x = 0) 209)), (207, (o_ci 0)), (208, (o_ret Q false)), (209, (o_inc 3 1)), (212, (o_go G Q mX12_same (d + 1) 165)), (215, (o_inc 2 1)), (218, (o_go G Q mX12_same (d + 1) 153)), (221, (o_ci 1)), (222, (o_ret Q false))]
set_option maxRecDepth 100000 in
set_option maxHeartbeats 4000000 in
theorem kX12_same (G : ms_G) (Q : ms_Q) (d : Nat) : ms_Oc G Q mX12_same (d + 1) (tX12_same G Q d) :=
  ms_oc1 rfl (s_aload_n rfl dX12_same_0) <|
  ms_oc1 rfl (s_iconst dX12_same_1 (by decide)) <|
  ms_oc1 rfl (s_put (r := (RX12, TX12, 45)) rfl (by decide) rfl rfl (ms_nar0 rfl) (Or.inl rfl) kw_922 dX12_same_2) <|
  ms_oc1 rfl (s_iload_n rfl dX12_same_5) <|
  ms_oc1 rfl (s_invS kw_1281 kw_1282 kw_88 kw_1283 ⟨by decide +kernel, by decide +kernel, by decide +kernel⟩ (by decide) dX12_same_6) <|
  ms_oc1 rfl (s_ifeq (by decide) dX12_same_9) <|
  ms_oc1 rfl (s_aload_n rfl dX12_same_12) <|
  ms_oc1 rfl (s_get (r := (RX12, TX12, 45)) rfl (by decide) rfl rfl kw_928 dX12_same_13) <|
  ms_oc1 rfl (s_iload_n rfl dX12_same_16) <|
  ms_oc1 rfl (s_baload dX12_same_17) <|
  ms_occ (s_ifne (by decide) dX12_same_18) <|
  ms_oc1 rfl (s_iconst dX12_same_21 (by decide)) <|
  ms_oc1 rfl (s_iret (b := false) rfl dX12_same_22) <|
  ms_oc1 rfl (s_aload_n rfl dX12_same_23) <|
  ms_oc1 rfl (s_get (r := (RX12, TX12, 45)) rfl (by decide) rfl rfl kw_927 dX12_same_24) <|
  ms_oc1 rfl (s_bipush dX12_same_27 (by decide) (by decide)) <|
  ms_oc1 rfl (s_iload_n rfl dX12_same_29) <|
  ms_oc1 rfl (s_imul dX12_same_30) <|
  ms_oc1 rfl (s_aload_n rfl dX12_same_31) <|
  ms_oc1 rfl (s_get (r := (RX12, TX12, 45)) rfl (by decide) rfl rfl kw_952 dX12_same_32) <|
  ms_oc1 rfl (s_iconst dX12_same_35 (by decide)) <|
  ms_oc1 rfl (s_invS kw_1165 kw_1166 kw_88 kw_1167 ⟨by decide +kernel, by decide +kernel, by decide +kernel⟩ (by decide) dX12_same_36) <|
  ms_oc1 rfl (s_aload_n rfl dX12_same_39) <|
  ms_oc1 rfl (s_get (r := (RX12, TX12, 45)) rfl (by decide) rfl rfl kw_952 dX12_same_40) <|
  ms_oc1 rfl (s_iconst dX12_same_43 (by decide)) <|
  ms_oc1 rfl (s_iaload dX12_same_44) <|
  ms_oc1 rfl (s_aload_n rfl dX12_same_45) <|
  ms_oc1 rfl (s_get (r := (RX12, TX12, 45)) rfl (by decide) rfl rfl kw_923 dX12_same_46) <|
  ms_oc1 rfl (s_iconst dX12_same_49 (by decide)) <|
  ms_oc1 rfl (s_iaload dX12_same_50) <|
  ms_oc1 rfl (s_icmpne (by decide) dX12_same_51) <|
  ms_oc1 rfl (s_aload_n rfl dX12_same_54) <|
  ms_oc1 rfl (s_get (r := (RX12, TX12, 45)) rfl (by decide) rfl rfl kw_952 dX12_same_55) <|
  ms_oc1 rfl (s_iconst dX12_same_58 (by decide)) <|
  ms_oc1 rfl (s_iaload dX12_same_59) <|
  ms_oc1 rfl (s_aload_n rfl dX12_same_60) <|
  ms_oc1 rfl (s_get (r := (RX12, TX12, 45)) rfl (by decide) rfl rfl kw_923 dX12_same_61) <|
  ms_oc1 rfl (s_iconst dX12_same_64 (by decide)) <|
  ms_oc1 rfl (s_iaload dX12_same_65) <|
  ms_occ (s_icmpeq (by decide) dX12_same_66) <|
  ms_oc1 rfl (s_iconst dX12_same_69 (by decide)) <|
  ms_oc1 rfl (s_iret (b := false) rfl dX12_same_70) <|
  ms_oc1 rfl (s_aload_n rfl dX12_same_71) <|
  ms_oc1 rfl (s_aload_n rfl dX12_same_72) <|
  ms_oc1 rfl (s_get (r := (RX12, TX12, 45)) rfl (by decide) rfl rfl kw_952 dX12_same_73) <|
  ms_oc1 rfl (s_invV (r := (RX12, TX12, 45)) rfl rfl kw_1142 kw_1144 kw_52 kw_88 kw_1145 ⟨by decide +kernel, by decide +kernel, by decide +kernel⟩ (by decide) dX12_same_76) <|
  ms_oc1 rfl (s_iconst dX12_same_79 (by decide)) <|
  ms_occ (s_istore_n rfl (by decide) dX12_same_80) <|
  ms_oc1 rfl (s_iload_n rfl dX12_same_81) <|
  ms_oc1 rfl (s_aload_n rfl dX12_same_82) <|
  ms_oc1 rfl (s_get (r := (RX12, TX12, 45)) rfl (by decide) rfl rfl kw_952 dX12_same_83) <|
  ms_oc1 rfl (s_iconst dX12_same_86 (by decide)) <|
  ms_oc1 rfl (s_iaload dX12_same_87) <|
  ms_oc1 rfl (s_icmpge (by decide) dX12_same_88) <|
  ms_oc1 rfl (s_iconst dX12_same_91 (by decide)) <|
  ms_occ (s_istore_n rfl (by decide) dX12_same_92) <|
  ms_oc1 rfl (s_iload_n rfl dX12_same_93) <|
  ms_oc1 rfl (s_aload_n rfl dX12_same_94) <|
  ms_oc1 rfl (s_get (r := (RX12, TX12, 45)) rfl (by decide) rfl rfl kw_952 dX12_same_95) <|
  ms_oc1 rfl (s_iconst dX12_same_98 (by decide)) <|
  ms_oc1 rfl (s_iaload dX12_same_99) <|
  ms_oc1 rfl (s_icmpge (by decide) dX12_same_100) <|
  ms_oc1 rfl (s_aload_n rfl dX12_same_103) <|
  ms_oc1 rfl (s_get (r := (RX12, TX12, 45)) rfl (by decide) rfl rfl kw_957 dX12_same_104) <|
  ms_oc1 rfl (s_iconst dX12_same_107 (by decide)) <|
  ms_oc1 rfl (s_iload_n rfl dX12_same_108) <|
  ms_oc1 rfl (s_imul dX12_same_109) <|
  ms_oc1 rfl (s_iload_n rfl dX12_same_110) <|
  ms_oc1 rfl (s_iadd dX12_same_111) <|
  ms_oc1 rfl (s_aload_n rfl dX12_same_112) <|
  ms_oc1 rfl (s_get (r := (RX12, TX12, 45)) rfl (by decide) rfl rfl kw_929 dX12_same_113) <|
  ms_oc1 rfl (s_iconst dX12_same_116 (by decide)) <|
  ms_oc1 rfl (s_aload_n rfl dX12_same_117) <|
  ms_oc1 rfl (s_get (r := (RX12, TX12, 45)) rfl (by decide) rfl rfl kw_952 dX12_same_118) <|
  ms_oc1 rfl (s_bipush dX12_same_121 (by decide) (by decide)) <|
  ms_oc1 rfl (s_iload_n rfl dX12_same_123) <|
  ms_oc1 rfl (s_iadd dX12_same_124) <|
  ms_oc1 rfl (s_iaload dX12_same_125) <|
  ms_oc1 rfl (s_imul dX12_same_126) <|
  ms_oc1 rfl (s_iload_n rfl dX12_same_127) <|
  ms_oc1 rfl (s_iadd dX12_same_128) <|
  ms_oc1 rfl (s_laload dX12_same_129) <|
  ms_oc1 rfl (s_lastore dX12_same_130) <|
  ms_oc1 rfl (s_iinc (by decide) dX12_same_131) <|
  ms_oc1 rfl (s_goto (by decide) dX12_same_134) <|
  ms_oc1 rfl (s_iinc (by decide) dX12_same_137) <|
  ms_oc1 rfl (s_goto (by decide) dX12_same_140) <|
  ms_oc1 rfl (s_aload_n rfl dX12_same_143) <|
  ms_oc1 rfl (s_aload_n rfl dX12_same_144) <|
  ms_oc1 rfl (s_get (r := (RX12, TX12, 45)) rfl (by decide) rfl rfl kw_923 dX12_same_145) <|
  ms_oc1 rfl (s_invV (r := (RX12, TX12, 45)) rfl rfl kw_1142 kw_1144 kw_52 kw_88 kw_1145 ⟨by decide +kernel, by decide +kernel, by decide +kernel⟩ (by decide) dX12_same_148) <|
  ms_oc1 rfl (s_iconst dX12_same_151 (by decide)) <|
  ms_occ (s_istore_n rfl (by decide) dX12_same_152) <|
  ms_oc1 rfl (s_iload_n rfl dX12_same_153) <|
  ms_oc1 rfl (s_aload_n rfl dX12_same_154) <|
  ms_oc1 rfl (s_get (r := (RX12, TX12, 45)) rfl (by decide) rfl rfl kw_923 dX12_same_155) <|
  ms_oc1 rfl (s_iconst dX12_same_158 (by decide)) <|
  ms_oc1 rfl (s_iaload dX12_same_159) <|
  ms_oc1 rfl (s_icmpge (by decide) dX12_same_160) <|
  ms_oc1 rfl (s_iconst dX12_same_163 (by decide)) <|
  ms_occ (s_istore_n rfl (by decide) dX12_same_164) <|
  ms_oc1 rfl (s_iload_n rfl dX12_same_165) <|
  ms_oc1 rfl (s_aload_n rfl dX12_same_166) <|
  ms_oc1 rfl (s_get (r := (RX12, TX12, 45)) rfl (by decide) rfl rfl kw_923 dX12_same_167) <|
  ms_oc1 rfl (s_iconst dX12_same_170 (by decide)) <|
  ms_oc1 rfl (s_iaload dX12_same_171) <|
  ms_oc1 rfl (s_icmpge (by decide) dX12_same_172) <|
  ms_oc1 rfl (s_aload_n rfl dX12_same_175) <|
  ms_oc1 rfl (s_get (r := (RX12, TX12, 45)) rfl (by decide) rfl rfl kw_957 dX12_same_176) <|
  ms_oc1 rfl (s_iconst dX12_same_179 (by decide)) <|
  ms_oc1 rfl (s_iload_n rfl dX12_same_180) <|
  ms_oc1 rfl (s_imul dX12_same_181) <|
  ms_oc1 rfl (s_iload_n rfl dX12_same_182) <|
  ms_oc1 rfl (s_iadd dX12_same_183) <|
  ms_oc1 rfl (s_laload dX12_same_184) <|
  ms_oc1 rfl (s_aload_n rfl dX12_same_185) <|
  ms_oc1 rfl (s_get (r := (RX12, TX12, 45)) rfl (by decide) rfl rfl kw_929 dX12_same_186) <|
  ms_oc1 rfl (s_iconst dX12_same_189 (by decide)) <|
  ms_oc1 rfl (s_aload_n rfl dX12_same_190) <|
  ms_oc1 rfl (s_get (r := (RX12, TX12, 45)) rfl (by decide) rfl rfl kw_923 dX12_same_191) <|
  ms_oc1 rfl (s_bipush dX12_same_194 (by decide) (by decide)) <|
  ms_oc1 rfl (s_iload_n rfl dX12_same_196) <|
  ms_oc1 rfl (s_iadd dX12_same_197) <|
  ms_oc1 rfl (s_iaload dX12_same_198) <|
  ms_oc1 rfl (s_imul dX12_same_199) <|
  ms_oc1 rfl (s_iload_n rfl dX12_same_200) <|
  ms_oc1 rfl (s_iadd dX12_same_201) <|
  ms_oc1 rfl (s_laload dX12_same_202) <|
  ms_oc1 rfl (s_lcmp dX12_same_203) <|
  ms_oc1 rfl (s_ifeq (by decide) dX12_same_204) <|
  ms_oc1 rfl (s_iconst dX12_same_207 (by decide)) <|
  ms_oc1 rfl (s_iret (b := false) rfl dX12_same_208) <|
  ms_oc1 rfl (s_iinc (by decide) dX12_same_209) <|
  ms_oc1 rfl (s_goto (by decide) dX12_same_212) <|
  ms_oc1 rfl (s_iinc (by decide) dX12_same_215) <|
  ms_oc1 rfl (s_goto (by decide) dX12_same_218) <|
  ms_oc1 rfl (s_iconst dX12_same_221 (by decide)) <|
  ms_oc0 (s_iret (b := false) rfl dX12_same_222)

def tX12_undo (G : ms_G) (Q : ms_Q) (d : Nat) : List (Nat × ms_T) := [(0, (o_ld 0 2)), (1, (o_ci 0)), (2, (o_put 12 0 0)), (5, (o_ld 0 2)), (6, (o_get 12 4 0)), (9, (o_if1 G Q mX12_undo (d + 1) (fun x => ¬ x = 0) 14)), (12, (o_ci (-1))), (13, (o_ret Q false)), (14, (o_ld 0 2)), (15, o_dup), (16, (o_get 12 4 0)), (19, (o_ci 1)), (20, (o_bin (fun a b => w32 (a - b)))), (21, (o_put 12 4 0)), (24, (o_ld 0 2)), (25, (o_get 12 3 2)), (28, (o_ci 127)), (30, (o_ld 0 2)), (31, (o_get 12 4 0)), (34, (o_bin (fun a b => w32 (a * b)))), (35, (o_ld 0 2)), (36, (o_get 12 1 2)), (39, (o_ci 0)), (40, (o_invS G d mX12_copies 4 0 0)), (43, (o_ld 0 2)), (44, (o_get 12 4 0)), (47, (o_ret Q false))]
set_option maxRecDepth 100000 in
set_option maxHeartbeats 4000000 in
theorem kX12_undo (G : ms_G) (Q : ms_Q) (d : Nat) : ms_Oc G Q mX12_undo (d + 1) (tX12_undo G Q d) :=
  ms_oc1 rfl (s_aload_n rfl dX12_undo_0) <|
  ms_oc1 rfl (s_iconst dX12_undo_1 (by decide)) <|
  ms_oc1 rfl (s_put (r := (RX12, TX12, 45)) rfl (by decide) rfl rfl (ms_nar0 rfl) (Or.inl rfl) kw_922 dX12_undo_2) <|
  ms_oc1 rfl (s_aload_n rfl dX12_undo_5) <|
  ms_oc1 rfl (s_get (r := (RX12, TX12, 45)) rfl (by decide) rfl rfl kw_926 dX12_undo_6) <|
  ms_oc1 rfl (s_ifne (by decide) dX12_undo_9) <|
  ms_oc1 rfl (s_iconst dX12_undo_12 (by decide)) <|
  ms_oc1 rfl (s_iret (b := false) rfl dX12_undo_13) <|
  ms_oc1 rfl (s_aload_n rfl dX12_undo_14) <|
  ms_oc1 rfl (s_dup dX12_undo_15) <|
  ms_oc1 rfl (s_get (r := (RX12, TX12, 45)) rfl (by decide) rfl rfl kw_926 dX12_undo_16) <|
  ms_oc1 rfl (s_iconst dX12_undo_19 (by decide)) <|
  ms_oc1 rfl (s_isub dX12_undo_20) <|
  ms_oc1 rfl (s_put (r := (RX12, TX12, 45)) rfl (by decide) rfl rfl (ms_nar0 rfl) (Or.inl rfl) kw_926 dX12_undo_21) <|
  ms_oc1 rfl (s_aload_n rfl dX12_undo_24) <|
  ms_oc1 rfl (s_get (r := (RX12, TX12, 45)) rfl (by decide) rfl rfl kw_925 dX12_undo_25) <|
  ms_oc1 rfl (s_bipush dX12_undo_28 (by decide) (by decide)) <|
  ms_oc1 rfl (s_aload_n rfl dX12_undo_30) <|
  ms_oc1 rfl (s_get (r := (RX12, TX12, 45)) rfl (by decide) rfl rfl kw_926 dX12_undo_31) <|
  ms_oc1 rfl (s_imul dX12_undo_34) <|
  ms_oc1 rfl (s_aload_n rfl dX12_undo_35) <|
  ms_oc1 rfl (s_get (r := (RX12, TX12, 45)) rfl (by decide) rfl rfl kw_923 dX12_undo_36) <|
  ms_oc1 rfl (s_iconst dX12_undo_39 (by decide)) <|
  ms_oc1 rfl (s_invS kw_1165 kw_1166 kw_88 kw_1167 ⟨by decide +kernel, by decide +kernel, by decide +kernel⟩ (by decide) dX12_undo_40) <|
  ms_oc1 rfl (s_aload_n rfl dX12_undo_43) <|
  ms_oc1 rfl (s_get (r := (RX12, TX12, 45)) rfl (by decide) rfl rfl kw_926 dX12_undo_44) <|
  ms_oc0 (s_iret (b := false) rfl dX12_undo_47)

def tX12_marksBinary (G : ms_G) (Q : ms_Q) (d : Nat) : List (Nat × ms_T) := [(0, (o_ci 1)), (1, (o_st 2 0)), (2, (o_ld 0 2)), (3, (o_get 12 36 2)), (6, (o_ci 1)), (7, (o_ci 1)), (8, o_bast), (9, (o_ld 0 2)), (10, (o_ld 1 0)), (11, (o_invV G d mX12_highest 12 1 0 0)), (14, (o_ci 2)), (15, (o_dv wdiv)), (16, (o_st 3 0)), (100000, o_go G Q mX12_marksBinary (d + 1) 17), (17, (o_ld 3 0)), (18, (o_if1 G Q mX12_marksBinary (d + 1) (fun x => x ≤ 0) 55)), (21, (o_ld 2 0)), (22, (o_ci 2)), (23, (o_bin (fun a b => w32 (a * b)))), (24, (o_st 2 0)), (25, (o_ld 0 2)), (26, (o_get 12 36 2)), (29, (o_ld 2 0)), (30, (o_ci 1)), (31, o_bast), (32, (o_ld 1 0)), (33, (o_ld 3 0)), (34, (o_bin wand)), (35, (o_if1 G Q mX12_marksBinary (d + 1) (fun x => x ≤ 0) 48)), (38, (o_inc 2 1)), (41, (o_ld 0 2)), (42, (o_get 12 36 2)), (45, (o_ld 2 0)), (46, (o_ci 1)), (47, o_bast), (100000, o_go G Q mX12_marksBinary (d + 1) 48), (48, (o_ld 3 0)), (49, (o_ci 2)), (50, (o_dv wdiv)), (51, (o_st 3 0)), (52, (o_go G Q mX12_marksBinary (d + 1) 17)), (55, (o_vret Q))]
set_option maxRecDepth 100000 in
set_option maxHeartbeats 4000000 in
theorem kX12_marksBinary (G : ms_G) (Q : ms_Q) (d : Nat) : ms_Oc G Q mX12_marksBinary (d + 1) (tX12_marksBinary G Q d) :=
  ms_oc1 rfl (s_iconst dX12_marksBinary_0 (by decide)) <|
  ms_oc1 rfl (s_istore_n rfl (by decide) dX12_marksBinary_1) <|
  ms_oc1 rfl (s_aload_n rfl dX12_marksBinary_2) <|
  ms_oc1 rfl (s_get (r := (RX12, TX12, 45)) rfl (by decide) rfl rfl kw_958 dX12_marksBinary_3) <|
  ms_oc1 rfl (s_iconst dX12_marksBinary_6 (by decide)) <|
  ms_oc1 rfl (s_iconst dX12_marksBinary_7 (by decide)) <|
  ms_oc1 rfl (s_bastore dX12_marksBinary_8) <|
  ms_oc1 rfl (s_aload_n rfl dX12_marksBinary_9) <|
  ms_oc1 rfl (s_iload_n rfl dX12_marksBinary_10) <|
  ms_oc1 rfl (s_invV (r := (RX12, TX12, 45)) rfl rfl kw_1131 kw_1133 kw_50 kw_88 kw_1134 ⟨by decide +kernel, by decide +kernel, by decide +kernel⟩ (by decide) dX12_marksBinary_11) <|
  ms_oc1 rfl (s_iconst dX12_marksBinary_14 (by decide)) <|
  ms_oc1 rfl (s_idiv dX12_marksBinary_15) <|
  ms_occ (s_istore_n rfl (by decide) dX12_marksBinary_16) <|
  ms_oc1 rfl (s_iload_n rfl dX12_marksBinary_17) <|
  ms_oc1 rfl (s_ifle (by decide) dX12_marksBinary_18) <|
  ms_oc1 rfl (s_iload_n rfl dX12_marksBinary_21) <|
  ms_oc1 rfl (s_iconst dX12_marksBinary_22 (by decide)) <|
  ms_oc1 rfl (s_imul dX12_marksBinary_23) <|
  ms_oc1 rfl (s_istore_n rfl (by decide) dX12_marksBinary_24) <|
  ms_oc1 rfl (s_aload_n rfl dX12_marksBinary_25) <|
  ms_oc1 rfl (s_get (r := (RX12, TX12, 45)) rfl (by decide) rfl rfl kw_958 dX12_marksBinary_26) <|
  ms_oc1 rfl (s_iload_n rfl dX12_marksBinary_29) <|
  ms_oc1 rfl (s_iconst dX12_marksBinary_30 (by decide)) <|
  ms_oc1 rfl (s_bastore dX12_marksBinary_31) <|
  ms_oc1 rfl (s_iload_n rfl dX12_marksBinary_32) <|
  ms_oc1 rfl (s_iload_n rfl dX12_marksBinary_33) <|
  ms_oc1 rfl (s_iand dX12_marksBinary_34) <|
  ms_oc1 rfl (s_ifle (by decide) dX12_marksBinary_35) <|
  ms_oc1 rfl (s_iinc (by decide) dX12_marksBinary_38) <|
  ms_oc1 rfl (s_aload_n rfl dX12_marksBinary_41) <|
  ms_oc1 rfl (s_get (r := (RX12, TX12, 45)) rfl (by decide) rfl rfl kw_958 dX12_marksBinary_42) <|
  ms_oc1 rfl (s_iload_n rfl dX12_marksBinary_45) <|
  ms_oc1 rfl (s_iconst dX12_marksBinary_46 (by decide)) <|
  ms_occ (s_bastore dX12_marksBinary_47) <|
  ms_oc1 rfl (s_iload_n rfl dX12_marksBinary_48) <|
  ms_oc1 rfl (s_iconst dX12_marksBinary_49 (by decide)) <|
  ms_oc1 rfl (s_idiv dX12_marksBinary_50) <|
  ms_oc1 rfl (s_istore_n rfl (by decide) dX12_marksBinary_51) <|
  ms_oc1 rfl (s_goto (by decide) dX12_marksBinary_52) <|
  ms_oc0 (s_vret rfl dX12_marksBinary_55)

def tX12_marksRight (G : ms_G) (Q : ms_Q) (d : Nat) : List (Nat × ms_T) := [(0, (o_ci 0)), (1, (o_st 2 0)), (2, (o_ci 1)), (3, (o_st 3 0)), (100000, o_go G Q mX12_marksRight (d + 1) 4), (4, (o_ld 3 0)), (5, (o_ld 1 0)), (6, (o_if2 G Q mX12_marksRight (d + 1) (fun a b => b < a) 40)), (9, (o_ld 0 2)), (10, (o_get 12 36 2)), (13, (o_ld 3 0)), (14, (o_ci 1)), (15, o_bast), (16, (o_ld 1 0)), (17, (o_ld 3 0)), (18, (o_bin wand)), (19, (o_if1 G Q mX12_marksRight (d + 1) (fun x => x ≤ 0) 33)), (22, (o_ld 2 0)), (23, (o_ld 3 0)), (24, (o_bin (fun a b => w32 (a + b)))), (25, (o_st 2 0)), (26, (o_ld 0 2)), (27, (o_get 12 36 2)), (30, (o_ld 2 0)), (31, (o_ci 1)), (32, o_bast), (100000, o_go G Q mX12_marksRight (d + 1) 33), (33, (o_ld 3 0)), (34, (o_ci 2)), (35, (o_bin (fun a b => w32 (a * b)))), (36, (o_st 3 0)), (37, (o_go G Q mX12_marksRight (d + 1) 4)), (40, (o_vret Q))]
set_option maxRecDepth 100000 in
set_option maxHeartbeats 4000000 in
theorem kX12_marksRight (G : ms_G) (Q : ms_Q) (d : Nat) : ms_Oc G Q mX12_marksRight (d + 1) (tX12_marksRight G Q d) :=
  ms_oc1 rfl (s_iconst dX12_marksRight_0 (by decide)) <|
  ms_oc1 rfl (s_istore_n rfl (by decide) dX12_marksRight_1) <|
  ms_oc1 rfl (s_iconst dX12_marksRight_2 (by decide)) <|
  ms_occ (s_istore_n rfl (by decide) dX12_marksRight_3) <|
  ms_oc1 rfl (s_iload_n rfl dX12_marksRight_4) <|
  ms_oc1 rfl (s_iload_n rfl dX12_marksRight_5) <|
  ms_oc1 rfl (s_icmpgt (by decide) dX12_marksRight_6) <|
  ms_oc1 rfl (s_aload_n rfl dX12_marksRight_9) <|
  ms_oc1 rfl (s_get (r := (RX12, TX12, 45)) rfl (by decide) rfl rfl kw_958 dX12_marksRight_10) <|
  ms_oc1 rfl (s_iload_n rfl dX12_marksRight_13) <|
  ms_oc1 rfl (s_iconst dX12_marksRight_14 (by decide)) <|
  ms_oc1 rfl (s_bastore dX12_marksRight_15) <|
  ms_oc1 rfl (s_iload_n rfl dX12_marksRight_16) <|
  ms_oc1 rfl (s_iload_n rfl dX12_marksRight_17) <|
  ms_oc1 rfl (s_iand dX12_marksRight_18) <|
  ms_oc1 rfl (s_ifle (by decide) dX12_marksRight_19) <|
  ms_oc1 rfl (s_iload_n rfl dX12_marksRight_22) <|
  ms_oc1 rfl (s_iload_n rfl dX12_marksRight_23) <|
  ms_oc1 rfl (s_iadd dX12_marksRight_24) <|
  ms_oc1 rfl (s_istore_n rfl (by decide) dX12_marksRight_25) <|
  ms_oc1 rfl (s_aload_n rfl dX12_marksRight_26) <|
  ms_oc1 rfl (s_get (r := (RX12, TX12, 45)) rfl (by decide) rfl rfl kw_958 dX12_marksRight_27) <|
  ms_oc1 rfl (s_iload_n rfl dX12_marksRight_30) <|
  ms_oc1 rfl (s_iconst dX12_marksRight_31 (by decide)) <|
  ms_occ (s_bastore dX12_marksRight_32) <|
  ms_oc1 rfl (s_iload_n rfl dX12_marksRight_33) <|
  ms_oc1 rfl (s_iconst dX12_marksRight_34 (by decide)) <|
  ms_oc1 rfl (s_imul dX12_marksRight_35) <|
  ms_oc1 rfl (s_istore_n rfl (by decide) dX12_marksRight_36) <|
  ms_oc1 rfl (s_goto (by decide) dX12_marksRight_37) <|
  ms_oc0 (s_vret rfl dX12_marksRight_40)

def tX12_leastPrime (G : ms_G) (Q : ms_Q) (d : Nat) : List (Nat × ms_T) := [(0, (o_ci 2)), (1, (o_st 1 0)), (100000, o_go G Q mX12_leastPrime (d + 1) 2), (2, (o_ld 0 0)), (3, (o_ld 1 0)), (4, (o_dv wrem)), (5, (o_if1 G Q mX12_leastPrime (d + 1) (fun x => x = 0) 14)), (8, (o_inc 1 1)), (11, (o_go G Q mX12_leastPrime (d + 1) 2)), (14, (o_ld 1 0)), (15, (o_ret Q false))]
set_option maxRecDepth 100000 in
set_option maxHeartbeats 4000000 in
theorem kX12_leastPrime (G : ms_G) (Q : ms_Q) (d : Nat) : ms_Oc G Q mX12_leastPrime (d + 1) (tX12_leastPrime G Q d) :=
  ms_oc1 rfl (s_iconst dX12_leastPrime_0 (by decide)) <|
  ms_occ (s_istore_n rfl (by decide) dX12_leastPrime_1) <|
  ms_oc1 rfl (s_iload_n rfl dX12_leastPrime_2) <|
  ms_oc1 rfl (s_iload_n rfl dX12_leastPrime_3) <|
  ms_oc1 rfl (s_irem dX12_leastPrime_4) <|
  ms_oc1 rfl (s_ifeq (by decide) dX12_leastPrime_5) <|
  ms_oc1 rfl (s_iinc (by decide) dX12_leastPrime_8) <|
  ms_oc1 rfl (s_goto (by decide) dX12_leastPrime_11) <|
  ms_oc1 rfl (s_iload_n rfl dX12_leastPrime_14) <|
  ms_oc0 (s_iret (b := false) rfl dX12_leastPrime_15)

def tX12_marksFactor (G : ms_G) (Q : ms_Q) (d : Nat) : List (Nat × ms_T) := [(0, (o_ld 0 2)), (1, (o_get 12 36 2)), (4, (o_ld 2 0)), (5, (o_ci 1)), (6, o_bast), (7, (o_ld 1 0)), (8, (o_ci 1)), (9, (o_if2 G Q mX12_marksFactor (d + 1) (fun a b => ¬ a = b) 13)), (12, (o_vret Q)), (13, (o_ld 1 0)), (14, (o_invS G d mX12_leastPrime 1 0 0)), (17, (o_st 3 0)), (18, (o_ld 3 0)), (19, (o_ld 1 0)), (20, (o_if2 G Q mX12_marksFactor (d + 1) (fun a b => ¬ a = b) 41)), (23, (o_ld 0 2)), (24, (o_ld 1 0)), (25, (o_ci 1)), (26, (o_bin (fun a b => w32 (a - b)))), (27, (o_ld 2 0)), (28, (o_invV G d mX12_marksFactor 12 2 0 0)), (31, (o_ld 0 2)), (32, (o_get 12 36 2)), (35, (o_ld 1 0)), (36, (o_ld 2 0)), (37, (o_bin (fun a b => w32 (a * b)))), (38, (o_ci 1)), (39, o_bast), (40, (o_vret Q)), (41, (o_ld 0 2)), (42, (o_ld 3 0)), (43, (o_ld 2 0)), (44, (o_invV G d mX12_marksFactor 12 2 0 0)), (47, (o_ld 0 2)), (48, (o_ld 1 0)), (49, (o_ld 3 0)), (50, (o_dv wdiv)), (51, (o_ld 2 0)), (52, (o_ld 3 0)), (53, (o_bin (fun a b => w32 (a * b)))), (54, (o_invV G d mX12_marksFactor 12 2 0 0)), (57, (o_vret Q))]
set_option maxRecDepth 100000 in
set_option maxHeartbeats 4000000 in
theorem kX12_marksFactor (G : ms_G) (Q : ms_Q) (d : Nat) : ms_Oc G Q mX12_marksFactor (d + 1) (tX12_marksFactor G Q d) :=
  ms_oc1 rfl (s_aload_n rfl dX12_marksFactor_0) <|
  ms_oc1 rfl (s_get (r := (RX12, TX12, 45)) rfl (by decide) rfl rfl kw_958 dX12_marksFactor_1) <|
  ms_oc1 rfl (s_iload_n rfl dX12_marksFactor_4) <|
  ms_oc1 rfl (s_iconst dX12_marksFactor_5 (by decide)) <|
  ms_oc1 rfl (s_bastore dX12_marksFactor_6) <|
  ms_oc1 rfl (s_iload_n rfl dX12_marksFactor_7) <|
  ms_oc1 rfl (s_iconst dX12_marksFactor_8 (by decide)) <|
  ms_oc1 rfl (s_icmpne (by decide) dX12_marksFactor_9) <|
  ms_oc1 rfl (s_vret rfl dX12_marksFactor_12) <|
  ms_oc1 rfl (s_iload_n rfl dX12_marksFactor_13) <|
  ms_oc1 rfl (s_invS kw_1317 kw_1318 kw_88 kw_1319 ⟨by decide +kernel, by decide +kernel, by decide +kernel⟩ (by decide) dX12_marksFactor_14) <|
  ms_oc1 rfl (s_istore_n rfl (by decide) dX12_marksFactor_17) <|
  ms_oc1 rfl (s_iload_n rfl dX12_marksFactor_18) <|
  ms_oc1 rfl (s_iload_n rfl dX12_marksFactor_19) <|
  ms_oc1 rfl (s_icmpne (by decide) dX12_marksFactor_20) <|
  ms_oc1 rfl (s_aload_n rfl dX12_marksFactor_23) <|
  ms_oc1 rfl (s_iload_n rfl dX12_marksFactor_24) <|
  ms_oc1 rfl (s_iconst dX12_marksFactor_25 (by decide)) <|
  ms_oc1 rfl (s_isub dX12_marksFactor_26) <|
  ms_oc1 rfl (s_iload_n rfl dX12_marksFactor_27) <|
  ms_oc1 rfl (s_invV (r := (RX12, TX12, 45)) rfl rfl kw_1313 kw_1315 kw_71 kw_88 kw_1316 ⟨by decide +kernel, by decide +kernel, by decide +kernel⟩ (by decide) dX12_marksFactor_28) <|
  ms_oc1 rfl (s_aload_n rfl dX12_marksFactor_31) <|
  ms_oc1 rfl (s_get (r := (RX12, TX12, 45)) rfl (by decide) rfl rfl kw_958 dX12_marksFactor_32) <|
  ms_oc1 rfl (s_iload_n rfl dX12_marksFactor_35) <|
  ms_oc1 rfl (s_iload_n rfl dX12_marksFactor_36) <|
  ms_oc1 rfl (s_imul dX12_marksFactor_37) <|
  ms_oc1 rfl (s_iconst dX12_marksFactor_38 (by decide)) <|
  ms_oc1 rfl (s_bastore dX12_marksFactor_39) <|
  ms_oc1 rfl (s_vret rfl dX12_marksFactor_40) <|
  ms_oc1 rfl (s_aload_n rfl dX12_marksFactor_41) <|
  ms_oc1 rfl (s_iload_n rfl dX12_marksFactor_42) <|
  ms_oc1 rfl (s_iload_n rfl dX12_marksFactor_43) <|
  ms_oc1 rfl (s_invV (r := (RX12, TX12, 45)) rfl rfl kw_1313 kw_1315 kw_71 kw_88 kw_1316 ⟨by decide +kernel, by decide +kernel, by decide +kernel⟩ (by decide) dX12_marksFactor_44) <|
  ms_oc1 rfl (s_aload_n rfl dX12_marksFactor_47) <|
  ms_oc1 rfl (s_iload_n rfl dX12_marksFactor_48) <|
  ms_oc1 rfl (s_iload_n rfl dX12_marksFactor_49) <|
  ms_oc1 rfl (s_idiv dX12_marksFactor_50) <|
  ms_oc1 rfl (s_iload_n rfl dX12_marksFactor_51) <|
  ms_oc1 rfl (s_iload_n rfl dX12_marksFactor_52) <|
  ms_oc1 rfl (s_imul dX12_marksFactor_53) <|
  ms_oc1 rfl (s_invV (r := (RX12, TX12, 45)) rfl rfl kw_1313 kw_1315 kw_71 kw_88 kw_1316 ⟨by decide +kernel, by decide +kernel, by decide +kernel⟩ (by decide) dX12_marksFactor_54) <|
  ms_oc0 (s_vret rfl dX12_marksFactor_57)

def tX12_marksThrees (G : ms_G) (Q : ms_Q) (d : Nat) : List (Nat × ms_T) := [(0, (o_ld 1 0)), (1, (o_ci 4)), (2, (o_if2 G Q mX12_marksThrees (d + 1) (fun a b => b ≤ a) 11)), (5, (o_ld 0 2)), (6, (o_ld 1 0)), (7, (o_invV G d mX12_marksBinary 12 1 0 0)), (10, (o_vret Q)), (11, (o_ld 0 2)), (12, (o_get 12 36 2)), (15, (o_ci 1)), (16, (o_ci 1)), (17, o_bast), (18, (o_ld 0 2)), (19, (o_get 12 36 2)), (22, (o_ci 2)), (23, (o_ci 1)), (24, o_bast), (25, (o_ld 0 2)), (26, (o_get 12 36 2)), (29, (o_ci 3)), (30, (o_ci 1)), (31, o_bast), (32, (o_ci 0)), (33, (o_st 2 0)), (100000, o_go G Q mX12_marksThrees (d + 1) 34), (34, (o_ld 1 0)), (35, (o_ci 2)), (36, (o_ld 2 0)), (37, (o_bin (fun a b => w32 (a * b)))), (38, (o_bin wshr)), (39, (o_if1 G Q mX12_marksThrees (d + 1) (fun x => x ≤ 0) 48)), (42, (o_inc 2 1)), (45, (o_go G Q mX12_marksThrees (d + 1) 34)), (48, (o_ld 1 0)), (49, (o_ci 2)), (50, (o_ld 2 0)), (51, (o_bin (fun a b => w32 (a * b)))), (52, (o_ci 2)), (53, (o_bin (fun a b => w32 (a - b)))), (54, (o_bin wshr)), (55, (o_st 3 0)), (56, (o_ld 2 0)), (57, (o_ci 2)), (58, (o_bin (fun a b => w32 (a - b)))), (59, (o_st 4 0)), (100000, o_go G Q mX12_marksThrees (d + 1) 61), (61, (o_ld 4 0)), (63, (o_if1 G Q mX12_marksThrees (d + 1) (fun x => x < 0) 110)), (66, (o_ld 0 2)), (67, (o_get 12 36 2)), (70, (o_ci 2)), (71, (o_ld 3 0)), (72, (o_bin (fun a b => w32 (a * b)))), (73, (o_ci 1)), (74, o_bast), (75, (o_ld 0 2)), (76, (o_get 12 36 2)), (79, (o_ci 4)), (80, (o_ld 3 0)), (81, (o_bin (fun a b => w32 (a * b)))), (82, (o_ci 1)), (83, o_bast), (84, (o_ci 4)), (85, (o_ld 3 0)), (86, (o_bin (fun a b => w32 (a * b)))), (87, (o_ld 1 0)), (88, (o_ci 2)), (89, (o_ld 4 0)), (91, (o_bin (fun a b => w32 (a * b)))), (92, (o_bin wshr)), (93, (o_ci 3)), (94, (o_bin wand)), (95, (o_bin (fun a b => w32 (a + b)))), (96, (o_st 3 0)), (97, (o_ld 0 2)), (98, (o_get 12 36 2)), (101, (o_ld 3 0)), (102, (o_ci 1)), (103, o_bast), (104, (o_inc 4 (-1))), (107, (o_go G Q mX12_marksThrees (d + 1) 61)), (110, (o_vret Q))]
set_option maxRecDepth 100000 in
set_option maxHeartbeats 4000000 in
theorem kX12_marksThrees (G : ms_G) (Q : ms_Q) (d : Nat) : ms_Oc G Q mX12_marksThrees (d + 1) (tX12_marksThrees G Q d) :=
  ms_oc1 rfl (s_iload_n rfl dX12_marksThrees_0) <|
  ms_oc1 rfl (s_iconst dX12_marksThrees_1 (by decide)) <|
  ms_oc1 rfl (s_icmpge (by decide) dX12_marksThrees_2) <|
  ms_oc1 rfl (s_aload_n rfl dX12_marksThrees_5) <|
  ms_oc1 rfl (s_iload_n rfl dX12_marksThrees_6) <|
  ms_oc1 rfl (s_invV (r := (RX12, TX12, 45)) rfl rfl kw_1305 kw_1307 kw_69 kw_88 kw_1308 ⟨by decide +kernel, by decide +kernel, by decide +kernel⟩ (by decide) dX12_marksThrees_7) <|
  ms_oc1 rfl (s_vret rfl dX12_marksThrees_10) <|
  ms_oc1 rfl (s_aload_n rfl dX12_marksThrees_11) <|
  ms_oc1 rfl (s_get (r := (RX12, TX12, 45)) rfl (by decide) rfl rfl kw_958 dX12_marksThrees_12) <|
  ms_oc1 rfl (s_iconst dX12_marksThrees_15 (by decide)) <|
  ms_oc1 rfl (s_iconst dX12_marksThrees_16 (by decide)) <|
  ms_oc1 rfl (s_bastore dX12_marksThrees_17) <|
  ms_oc1 rfl (s_aload_n rfl dX12_marksThrees_18) <|
  ms_oc1 rfl (s_get (r := (RX12, TX12, 45)) rfl (by decide) rfl rfl kw_958 dX12_marksThrees_19) <|
  ms_oc1 rfl (s_iconst dX12_marksThrees_22 (by decide)) <|
  ms_oc1 rfl (s_iconst dX12_marksThrees_23 (by decide)) <|
  ms_oc1 rfl (s_bastore dX12_marksThrees_24) <|
  ms_oc1 rfl (s_aload_n rfl dX12_marksThrees_25) <|
  ms_oc1 rfl (s_get (r := (RX12, TX12, 45)) rfl (by decide) rfl rfl kw_958 dX12_marksThrees_26) <|
  ms_oc1 rfl (s_iconst dX12_marksThrees_29 (by decide)) <|
  ms_oc1 rfl (s_iconst dX12_marksThrees_30 (by decide)) <|
  ms_oc1 rfl (s_bastore dX12_marksThrees_31) <|
  ms_oc1 rfl (s_iconst dX12_marksThrees_32 (by decide)) <|
  ms_occ (s_istore_n rfl (by decide) dX12_marksThrees_33) <|
  ms_oc1 rfl (s_iload_n rfl dX12_marksThrees_34) <|
  ms_oc1 rfl (s_iconst dX12_marksThrees_35 (by decide)) <|
  ms_oc1 rfl (s_iload_n rfl dX12_marksThrees_36) <|
  ms_oc1 rfl (s_imul dX12_marksThrees_37) <|
  ms_oc1 rfl (s_ishr dX12_marksThrees_38) <|
  ms_oc1 rfl (s_ifle (by decide) dX12_marksThrees_39) <|
  ms_oc1 rfl (s_iinc (by decide) dX12_marksThrees_42) <|
  ms_oc1 rfl (s_goto (by decide) dX12_marksThrees_45) <|
  ms_oc1 rfl (s_iload_n rfl dX12_marksThrees_48) <|
  ms_oc1 rfl (s_iconst dX12_marksThrees_49 (by decide)) <|
  ms_oc1 rfl (s_iload_n rfl dX12_marksThrees_50) <|
  ms_oc1 rfl (s_imul dX12_marksThrees_51) <|
  ms_oc1 rfl (s_iconst dX12_marksThrees_52 (by decide)) <|
  ms_oc1 rfl (s_isub dX12_marksThrees_53) <|
  ms_oc1 rfl (s_ishr dX12_marksThrees_54) <|
  ms_oc1 rfl (s_istore_n rfl (by decide) dX12_marksThrees_55) <|
  ms_oc1 rfl (s_iload_n rfl dX12_marksThrees_56) <|
  ms_oc1 rfl (s_iconst dX12_marksThrees_57 (by decide)) <|
  ms_oc1 rfl (s_isub dX12_marksThrees_58) <|
  ms_occ (s_istore (by decide) dX12_marksThrees_59) <|
  ms_oc1 rfl (s_iload dX12_marksThrees_61) <|
  ms_oc1 rfl (s_iflt (by decide) dX12_marksThrees_63) <|
  ms_oc1 rfl (s_aload_n rfl dX12_marksThrees_66) <|
  ms_oc1 rfl (s_get (r := (RX12, TX12, 45)) rfl (by decide) rfl rfl kw_958 dX12_marksThrees_67) <|
  ms_oc1 rfl (s_iconst dX12_marksThrees_70 (by decide)) <|
  ms_oc1 rfl (s_iload_n rfl dX12_marksThrees_71) <|
  ms_oc1 rfl (s_imul dX12_marksThrees_72) <|
  ms_oc1 rfl (s_iconst dX12_marksThrees_73 (by decide)) <|
  ms_oc1 rfl (s_bastore dX12_marksThrees_74) <|
  ms_oc1 rfl (s_aload_n rfl dX12_marksThrees_75) <|
  ms_oc1 rfl (s_get (r := (RX12, TX12, 45)) rfl (by decide) rfl rfl kw_958 dX12_marksThrees_76) <|
  ms_oc1 rfl (s_iconst dX12_marksThrees_79 (by decide)) <|
  ms_oc1 rfl (s_iload_n rfl dX12_marksThrees_80) <|
  ms_oc1 rfl (s_imul dX12_marksThrees_81) <|
  ms_oc1 rfl (s_iconst dX12_marksThrees_82 (by decide)) <|
  ms_oc1 rfl (s_bastore dX12_marksThrees_83) <|
  ms_oc1 rfl (s_iconst dX12_marksThrees_84 (by decide)) <|
  ms_oc1 rfl (s_iload_n rfl dX12_marksThrees_85) <|
  ms_oc1 rfl (s_imul dX12_marksThrees_86) <|
  ms_oc1 rfl (s_iload_n rfl dX12_marksThrees_87) <|
  ms_oc1 rfl (s_iconst dX12_marksThrees_88 (by decide)) <|
  ms_oc1 rfl (s_iload dX12_marksThrees_89) <|
  ms_oc1 rfl (s_imul dX12_marksThrees_91) <|
  ms_oc1 rfl (s_ishr dX12_marksThrees_92) <|
  ms_oc1 rfl (s_iconst dX12_marksThrees_93 (by decide)) <|
  ms_oc1 rfl (s_iand dX12_marksThrees_94) <|
  ms_oc1 rfl (s_iadd dX12_marksThrees_95) <|
  ms_oc1 rfl (s_istore_n rfl (by decide) dX12_marksThrees_96) <|
  ms_oc1 rfl (s_aload_n rfl dX12_marksThrees_97) <|
  ms_oc1 rfl (s_get (r := (RX12, TX12, 45)) rfl (by decide) rfl rfl kw_958 dX12_marksThrees_98) <|
  ms_oc1 rfl (s_iload_n rfl dX12_marksThrees_101) <|
  ms_oc1 rfl (s_iconst dX12_marksThrees_102 (by decide)) <|
  ms_oc1 rfl (s_bastore dX12_marksThrees_103) <|
  ms_oc1 rfl (s_iinc (by decide) dX12_marksThrees_104) <|
  ms_oc1 rfl (s_goto (by decide) dX12_marksThrees_107) <|
  ms_oc0 (s_vret rfl dX12_marksThrees_110)

def tX12_lays (G : ms_G) (Q : ms_Q) (d : Nat) : List (Nat × ms_T) := [(0, (o_ld 1 0)), (1, (o_un 0 1 (fun a => a))), (2, (o_cl 1)), (3, (o_cl (9999))), (6, (o_invS G d mX12_within 3 0 0)), (9, (o_if1 G Q mX12_lays (d + 1) (fun x => x = 0) 24)), (12, (o_ld 2 0)), (13, (o_un 0 1 (fun a => a))), (14, (o_cl 0)), (15, (o_cl (3))), (18, (o_invS G d mX12_within 3 0 0)), (21, (o_if1 G Q mX12_lays (d + 1) (fun x => ¬ x = 0) 26)), (100000, o_go G Q mX12_lays (d + 1) 24), (24, (o_ci 0)), (25, (o_ret Q true)), (26, (o_ci 0)), (27, (o_st 3 0)), (100000, o_go G Q mX12_lays (d + 1) 28), (28, (o_ld 3 0)), (29, (o_ld 1 0)), (30, (o_if2 G Q mX12_lays (d + 1) (fun a b => b < a) 46)), (33, (o_ld 0 2)), (34, (o_get 12 36 2)), (37, (o_ld 3 0)), (38, (o_ci 0)), (39, o_bast), (40, (o_inc 3 1)), (43, (o_go G Q mX12_lays (d + 1) 28)), (46, (o_ld 2 0)), (47, (o_if1 G Q mX12_lays (d + 1) (fun x => ¬ x = 0) 58)), (50, (o_ld 0 2)), (51, (o_ld 1 0)), (52, (o_invV G d mX12_marksBinary 12 1 0 0)), (55, (o_go G Q mX12_lays (d + 1) 90)), (58, (o_ld 2 0)), (59, (o_ci 1)), (60, (o_if2 G Q mX12_lays (d + 1) (fun a b => ¬ a = b) 71)), (63, (o_ld 0 2)), (64, (o_ld 1 0)), (65, (o_invV G d mX12_marksRight 12 1 0 0)), (68, (o_go G Q mX12_lays (d + 1) 90)), (71, (o_ld 2 0)), (72, (o_ci 2)), (73, (o_if2 G Q mX12_lays (d + 1) (fun a b => ¬ a = b) 85)), (76, (o_ld 0 2)), (77, (o_ld 1 0)), (78, (o_ci 1)), (79, (o_invV G d mX12_marksFactor 12 2 0 0)), (82, (o_go G Q mX12_lays (d + 1) 90)), (85, (o_ld 0 2)), (86, (o_ld 1 0)), (87, (o_invV G d mX12_marksThrees 12 1 0 0)), (100000, o_go G Q mX12_lays (d + 1) 90), (90, (o_ld 0 2)), (91, (o_ci 0)), (92, (o_put 12 38 0)), (95, (o_ci 1)), (96, (o_st 3 0)), (100000, o_go G Q mX12_lays (d + 1) 97), (97, (o_ld 3 0)), (98, (o_ld 1 0)), (99, (o_if2 G Q mX12_lays (d + 1) (fun a b => b < a) 137)), (102, (o_ld 0 2)), (103, (o_get 12 36 2)), (106, (o_ld 3 0)), (107, o_bald), (108, (o_if1 G Q mX12_lays (d + 1) (fun x => x = 0) 131)), (111, (o_ld 0 2)), (112, (o_get 12 37 2)), (115, (o_ld 0 2)), (116, (o_get 12 38 0)), (119, (o_ld 3 0)), (120, (o_ast 100 0 (fun x => x))), (121, (o_ld 0 2)), (122, o_dup), (123, (o_get 12 38 0)), (126, (o_ci 1)), (127, (o_bin (fun a b => w32 (a + b)))), (128, (o_put 12 38 0)), (100000, o_go G Q mX12_lays (d + 1) 131), (131, (o_inc 3 1)), (134, (o_go G Q mX12_lays (d + 1) 97)), (137, (o_ci 1)), (138, (o_ret Q true))]
set_option maxRecDepth 100000 in
set_option maxHeartbeats 4000000 in
theorem kX12_lays (G : ms_G) (Q : ms_Q) (d : Nat) : ms_Oc G Q mX12_lays (d + 1) (tX12_lays G Q d) :=
  ms_oc1 rfl (s_iload_n rfl dX12_lays_0) <|
  ms_oc1 rfl (s_i2l dX12_lays_1) <|
  ms_oc1 rfl (s_lconst dX12_lays_2 (by decide) (by decide)) <|
  ms_oc1 rfl (s_ldc2 dX12_lays_3 kw_1130 (by decide) (by decide)) <|
  ms_oc1 rfl (s_invS kw_1062 kw_1063 kw_88 kw_1064 ⟨by decide +kernel, by decide +kernel, by decide +kernel⟩ (by decide) dX12_lays_6) <|
  ms_oc1 rfl (s_ifeq (by decide) dX12_lays_9) <|
  ms_oc1 rfl (s_iload_n rfl dX12_lays_12) <|
  ms_oc1 rfl (s_i2l dX12_lays_13) <|
  ms_oc1 rfl (s_lconst dX12_lays_14 (by decide) (by decide)) <|
  ms_oc1 rfl (s_ldc2 dX12_lays_15 kw_1304 (by decide) (by decide)) <|
  ms_oc1 rfl (s_invS kw_1062 kw_1063 kw_88 kw_1064 ⟨by decide +kernel, by decide +kernel, by decide +kernel⟩ (by decide) dX12_lays_18) <|
  ms_occ (s_ifne (by decide) dX12_lays_21) <|
  ms_oc1 rfl (s_iconst dX12_lays_24 (by decide)) <|
  ms_oc1 rfl (s_iret (b := true) rfl dX12_lays_25) <|
  ms_oc1 rfl (s_iconst dX12_lays_26 (by decide)) <|
  ms_occ (s_istore_n rfl (by decide) dX12_lays_27) <|
  ms_oc1 rfl (s_iload_n rfl dX12_lays_28) <|
  ms_oc1 rfl (s_iload_n rfl dX12_lays_29) <|
  ms_oc1 rfl (s_icmpgt (by decide) dX12_lays_30) <|
  ms_oc1 rfl (s_aload_n rfl dX12_lays_33) <|
  ms_oc1 rfl (s_get (r := (RX12, TX12, 45)) rfl (by decide) rfl rfl kw_958 dX12_lays_34) <|
  ms_oc1 rfl (s_iload_n rfl dX12_lays_37) <|
  ms_oc1 rfl (s_iconst dX12_lays_38 (by decide)) <|
  ms_oc1 rfl (s_bastore dX12_lays_39) <|
  ms_oc1 rfl (s_iinc (by decide) dX12_lays_40) <|
  ms_oc1 rfl (s_goto (by decide) dX12_lays_43) <|
  ms_oc1 rfl (s_iload_n rfl dX12_lays_46) <|
  ms_oc1 rfl (s_ifne (by decide) dX12_lays_47) <|
  ms_oc1 rfl (s_aload_n rfl dX12_lays_50) <|
  ms_oc1 rfl (s_iload_n rfl dX12_lays_51) <|
  ms_oc1 rfl (s_invV (r := (RX12, TX12, 45)) rfl rfl kw_1305 kw_1307 kw_69 kw_88 kw_1308 ⟨by decide +kernel, by decide +kernel, by decide +kernel⟩ (by decide) dX12_lays_52) <|
  ms_oc1 rfl (s_goto (by decide) dX12_lays_55) <|
  ms_oc1 rfl (s_iload_n rfl dX12_lays_58) <|
  ms_oc1 rfl (s_iconst dX12_lays_59 (by decide)) <|
  ms_oc1 rfl (s_icmpne (by decide) dX12_lays_60) <|
  ms_oc1 rfl (s_aload_n rfl dX12_lays_63) <|
  ms_oc1 rfl (s_iload_n rfl dX12_lays_64) <|
  ms_oc1 rfl (s_invV (r := (RX12, TX12, 45)) rfl rfl kw_1309 kw_1311 kw_70 kw_88 kw_1312 ⟨by decide +kernel, by decide +kernel, by decide +kernel⟩ (by decide) dX12_lays_65) <|
  ms_oc1 rfl (s_goto (by decide) dX12_lays_68) <|
  ms_oc1 rfl (s_iload_n rfl dX12_lays_71) <|
  ms_oc1 rfl (s_iconst dX12_lays_72 (by decide)) <|
  ms_oc1 rfl (s_icmpne (by decide) dX12_lays_73) <|
  ms_oc1 rfl (s_aload_n rfl dX12_lays_76) <|
  ms_oc1 rfl (s_iload_n rfl dX12_lays_77) <|
  ms_oc1 rfl (s_iconst dX12_lays_78 (by decide)) <|
  ms_oc1 rfl (s_invV (r := (RX12, TX12, 45)) rfl rfl kw_1313 kw_1315 kw_71 kw_88 kw_1316 ⟨by decide +kernel, by decide +kernel, by decide +kernel⟩ (by decide) dX12_lays_79) <|
  ms_oc1 rfl (s_goto (by decide) dX12_lays_82) <|
  ms_oc1 rfl (s_aload_n rfl dX12_lays_85) <|
  ms_oc1 rfl (s_iload_n rfl dX12_lays_86) <|
  ms_occ (s_invV (r := (RX12, TX12, 45)) rfl rfl kw_1320 kw_1322 kw_72 kw_88 kw_1323 ⟨by decide +kernel, by decide +kernel, by decide +kernel⟩ (by decide) dX12_lays_87) <|
  ms_oc1 rfl (s_aload_n rfl dX12_lays_90) <|
  ms_oc1 rfl (s_iconst dX12_lays_91 (by decide)) <|
  ms_oc1 rfl (s_put (r := (RX12, TX12, 45)) rfl (by decide) rfl rfl (ms_nar0 rfl) (Or.inl rfl) kw_960 dX12_lays_92) <|
  ms_oc1 rfl (s_iconst dX12_lays_95 (by decide)) <|
  ms_occ (s_istore_n rfl (by decide) dX12_lays_96) <|
  ms_oc1 rfl (s_iload_n rfl dX12_lays_97) <|
  ms_oc1 rfl (s_iload_n rfl dX12_lays_98) <|
  ms_oc1 rfl (s_icmpgt (by decide) dX12_lays_99) <|
  ms_oc1 rfl (s_aload_n rfl dX12_lays_102) <|
  ms_oc1 rfl (s_get (r := (RX12, TX12, 45)) rfl (by decide) rfl rfl kw_958 dX12_lays_103) <|
  ms_oc1 rfl (s_iload_n rfl dX12_lays_106) <|
  ms_oc1 rfl (s_baload dX12_lays_107) <|
  ms_oc1 rfl (s_ifeq (by decide) dX12_lays_108) <|
  ms_oc1 rfl (s_aload_n rfl dX12_lays_111) <|
  ms_oc1 rfl (s_get (r := (RX12, TX12, 45)) rfl (by decide) rfl rfl kw_959 dX12_lays_112) <|
  ms_oc1 rfl (s_aload_n rfl dX12_lays_115) <|
  ms_oc1 rfl (s_get (r := (RX12, TX12, 45)) rfl (by decide) rfl rfl kw_960 dX12_lays_116) <|
  ms_oc1 rfl (s_iload_n rfl dX12_lays_119) <|
  ms_oc1 rfl (s_iastore dX12_lays_120) <|
  ms_oc1 rfl (s_aload_n rfl dX12_lays_121) <|
  ms_oc1 rfl (s_dup dX12_lays_122) <|
  ms_oc1 rfl (s_get (r := (RX12, TX12, 45)) rfl (by decide) rfl rfl kw_960 dX12_lays_123) <|
  ms_oc1 rfl (s_iconst dX12_lays_126 (by decide)) <|
  ms_oc1 rfl (s_iadd dX12_lays_127) <|
  ms_occ (s_put (r := (RX12, TX12, 45)) rfl (by decide) rfl rfl (ms_nar0 rfl) (Or.inl rfl) kw_960 dX12_lays_128) <|
  ms_oc1 rfl (s_iinc (by decide) dX12_lays_131) <|
  ms_oc1 rfl (s_goto (by decide) dX12_lays_134) <|
  ms_oc1 rfl (s_iconst dX12_lays_137 (by decide)) <|
  ms_oc0 (s_iret (b := true) rfl dX12_lays_138)

def tX12_method (G : ms_G) (Q : ms_Q) (d : Nat) : List (Nat × ms_T) := [(0, (o_ld 0 2)), (1, (o_ci 0)), (2, (o_put 12 0 0)), (5, (o_ld 0 2)), (6, (o_ld 1 0)), (7, (o_ld 2 0)), (8, (o_invV G d mX12_lays 12 2 0 0)), (11, (o_if1 G Q mX12_method (d + 1) (fun x => x = 0) 23)), (14, (o_ld 0 2)), (15, (o_get 12 38 0)), (18, (o_ci 1)), (19, (o_bin (fun a b => w32 (a - b)))), (20, (o_go G Q mX12_method (d + 1) 24)), (23, (o_ci (-1))), (100000, o_go G Q mX12_method (d + 1) 24), (24, (o_ret Q false))]
set_option maxRecDepth 100000 in
set_option maxHeartbeats 4000000 in
theorem kX12_method (G : ms_G) (Q : ms_Q) (d : Nat) : ms_Oc G Q mX12_method (d + 1) (tX12_method G Q d) :=
  ms_oc1 rfl (s_aload_n rfl dX12_method_0) <|
  ms_oc1 rfl (s_iconst dX12_method_1 (by decide)) <|
  ms_oc1 rfl (s_put (r := (RX12, TX12, 45)) rfl (by decide) rfl rfl (ms_nar0 rfl) (Or.inl rfl) kw_922 dX12_method_2) <|
  ms_oc1 rfl (s_aload_n rfl dX12_method_5) <|
  ms_oc1 rfl (s_iload_n rfl dX12_method_6) <|
  ms_oc1 rfl (s_iload_n rfl dX12_method_7) <|
  ms_oc1 rfl (s_invV (r := (RX12, TX12, 45)) rfl rfl kw_1300 kw_1302 kw_68 kw_88 kw_1303 ⟨by decide +kernel, by decide +kernel, by decide +kernel⟩ (by decide) dX12_method_8) <|
  ms_oc1 rfl (s_ifeq (by decide) dX12_method_11) <|
  ms_oc1 rfl (s_aload_n rfl dX12_method_14) <|
  ms_oc1 rfl (s_get (r := (RX12, TX12, 45)) rfl (by decide) rfl rfl kw_960 dX12_method_15) <|
  ms_oc1 rfl (s_iconst dX12_method_18 (by decide)) <|
  ms_oc1 rfl (s_isub dX12_method_19) <|
  ms_oc1 rfl (s_goto (by decide) dX12_method_20) <|
  ms_occ (s_iconst dX12_method_23 (by decide)) <|
  ms_oc0 (s_iret (b := false) rfl dX12_method_24)

def tX12_chain (G : ms_G) (Q : ms_Q) (d : Nat) : List (Nat × ms_T) := [(0, (o_ld 0 2)), (1, (o_ci 0)), (2, (o_put 12 0 0)), (5, (o_ld 0 2)), (6, (o_ld 1 0)), (7, (o_ld 2 0)), (8, (o_invV G d mX12_lays 12 2 0 0)), (11, (o_if1 G Q mX12_chain (d + 1) (fun x => ¬ x = 0) 16)), (14, (o_ci (-1))), (15, (o_ret Q false)), (16, (o_ld 3 0)), (17, (o_un 0 1 (fun a => a))), (18, (o_cl 0)), (19, (o_ld 0 2)), (20, (o_get 12 38 0)), (23, (o_ci 1)), (24, (o_bin (fun a b => w32 (a - b)))), (25, (o_un 0 1 (fun a => a))), (26, (o_invS G d mX12_within 3 0 0)), (29, (o_if1 G Q mX12_chain (d + 1) (fun x => x = 0) 41)), (32, (o_ld 0 2)), (33, (o_get 12 37 2)), (36, (o_ld 3 0)), (37, (o_ald 100 0)), (38, (o_go G Q mX12_chain (d + 1) 43)), (41, (o_ci (-2))), (100000, o_go G Q mX12_chain (d + 1) 43), (43, (o_ret Q false))]
set_option maxRecDepth 100000 in
set_option maxHeartbeats 4000000 in
theorem kX12_chain (G : ms_G) (Q : ms_Q) (d : Nat) : ms_Oc G Q mX12_chain (d + 1) (tX12_chain G Q d) :=
  ms_oc1 rfl (s_aload_n rfl dX12_chain_0) <|
  ms_oc1 rfl (s_iconst dX12_chain_1 (by decide)) <|
  ms_oc1 rfl (s_put (r := (RX12, TX12, 45)) rfl (by decide) rfl rfl (ms_nar0 rfl) (Or.inl rfl) kw_922 dX12_chain_2) <|
  ms_oc1 rfl (s_aload_n rfl dX12_chain_5) <|
  ms_oc1 rfl (s_iload_n rfl dX12_chain_6) <|
  ms_oc1 rfl (s_iload_n rfl dX12_chain_7) <|
  ms_oc1 rfl (s_invV (r := (RX12, TX12, 45)) rfl rfl kw_1300 kw_1302 kw_68 kw_88 kw_1303 ⟨by decide +kernel, by decide +kernel, by decide +kernel⟩ (by decide) dX12_chain_8) <|
  ms_oc1 rfl (s_ifne (by decide) dX12_chain_11) <|
  ms_oc1 rfl (s_iconst dX12_chain_14 (by decide)) <|
  ms_oc1 rfl (s_iret (b := false) rfl dX12_chain_15) <|
  ms_oc1 rfl (s_iload_n rfl dX12_chain_16) <|
  ms_oc1 rfl (s_i2l dX12_chain_17) <|
  ms_oc1 rfl (s_lconst dX12_chain_18 (by decide) (by decide)) <|
  ms_oc1 rfl (s_aload_n rfl dX12_chain_19) <|
  ms_oc1 rfl (s_get (r := (RX12, TX12, 45)) rfl (by decide) rfl rfl kw_960 dX12_chain_20) <|
  ms_oc1 rfl (s_iconst dX12_chain_23 (by decide)) <|
  ms_oc1 rfl (s_isub dX12_chain_24) <|
  ms_oc1 rfl (s_i2l dX12_chain_25) <|
  ms_oc1 rfl (s_invS kw_1062 kw_1063 kw_88 kw_1064 ⟨by decide +kernel, by decide +kernel, by decide +kernel⟩ (by decide) dX12_chain_26) <|
  ms_oc1 rfl (s_ifeq (by decide) dX12_chain_29) <|
  ms_oc1 rfl (s_aload_n rfl dX12_chain_32) <|
  ms_oc1 rfl (s_get (r := (RX12, TX12, 45)) rfl (by decide) rfl rfl kw_959 dX12_chain_33) <|
  ms_oc1 rfl (s_iload_n rfl dX12_chain_36) <|
  ms_oc1 rfl (s_iaload dX12_chain_37) <|
  ms_oc1 rfl (s_goto (by decide) dX12_chain_38) <|
  ms_occ (s_bipush dX12_chain_41 (by decide) (by decide)) <|
  ms_oc0 (s_iret (b := false) rfl dX12_chain_43)

def tX12_best (G : ms_G) (Q : ms_Q) (d : Nat) : List (Nat × ms_T) := [(0, (o_ld 0 2)), (1, (o_ci 0)), (2, (o_put 12 0 0)), (5, (o_ci (-1))), (6, (o_st 2 0)), (7, (o_ci 0)), (8, (o_st 3 0)), (9, (o_ci 0)), (10, (o_st 4 0)), (100000, o_go G Q mX12_best (d + 1) 12), (12, (o_ld 4 0)), (14, (o_ci 4)), (15, (o_if2 G Q mX12_best (d + 1) (fun a b => b ≤ a) 55)), (18, (o_ld 0 2)), (19, (o_ld 1 0)), (20, (o_ld 4 0)), (22, (o_invV G d mX12_lays 12 2 0 0)), (25, (o_if1 G Q mX12_best (d + 1) (fun x => x = 0) 49)), (28, (o_ld 2 0)), (29, (o_ci (-1))), (30, (o_if2 G Q mX12_best (d + 1) (fun a b => a = b) 41)), (33, (o_ld 0 2)), (34, (o_get 12 38 0)), (37, (o_ld 3 0)), (38, (o_if2 G Q mX12_best (d + 1) (fun a b => b ≤ a) 49)), (100000, o_go G Q mX12_best (d + 1) 41), (41, (o_ld 4 0)), (43, (o_st 2 0)), (44, (o_ld 0 2)), (45, (o_get 12 38 0)), (48, (o_st 3 0)), (100000, o_go G Q mX12_best (d + 1) 49), (49, (o_inc 4 1)), (52, (o_go G Q mX12_best (d + 1) 12)), (55, (o_ld 2 0)), (56, (o_ret Q false))]
set_option maxRecDepth 100000 in
set_option maxHeartbeats 4000000 in
theorem kX12_best (G : ms_G) (Q : ms_Q) (d : Nat) : ms_Oc G Q mX12_best (d + 1) (tX12_best G Q d) :=
  ms_oc1 rfl (s_aload_n rfl dX12_best_0) <|
  ms_oc1 rfl (s_iconst dX12_best_1 (by decide)) <|
  ms_oc1 rfl (s_put (r := (RX12, TX12, 45)) rfl (by decide) rfl rfl (ms_nar0 rfl) (Or.inl rfl) kw_922 dX12_best_2) <|
  ms_oc1 rfl (s_iconst dX12_best_5 (by decide)) <|
  ms_oc1 rfl (s_istore_n rfl (by decide) dX12_best_6) <|
  ms_oc1 rfl (s_iconst dX12_best_7 (by decide)) <|
  ms_oc1 rfl (s_istore_n rfl (by decide) dX12_best_8) <|
  ms_oc1 rfl (s_iconst dX12_best_9 (by decide)) <|
  ms_occ (s_istore (by decide) dX12_best_10) <|
  ms_oc1 rfl (s_iload dX12_best_12) <|
  ms_oc1 rfl (s_iconst dX12_best_14 (by decide)) <|
  ms_oc1 rfl (s_icmpge (by decide) dX12_best_15) <|
  ms_oc1 rfl (s_aload_n rfl dX12_best_18) <|
  ms_oc1 rfl (s_iload_n rfl dX12_best_19) <|
  ms_oc1 rfl (s_iload dX12_best_20) <|
  ms_oc1 rfl (s_invV (r := (RX12, TX12, 45)) rfl rfl kw_1300 kw_1302 kw_68 kw_88 kw_1303 ⟨by decide +kernel, by decide +kernel, by decide +kernel⟩ (by decide) dX12_best_22) <|
  ms_oc1 rfl (s_ifeq (by decide) dX12_best_25) <|
  ms_oc1 rfl (s_iload_n rfl dX12_best_28) <|
  ms_oc1 rfl (s_iconst dX12_best_29 (by decide)) <|
  ms_oc1 rfl (s_icmpeq (by decide) dX12_best_30) <|
  ms_oc1 rfl (s_aload_n rfl dX12_best_33) <|
  ms_oc1 rfl (s_get (r := (RX12, TX12, 45)) rfl (by decide) rfl rfl kw_960 dX12_best_34) <|
  ms_oc1 rfl (s_iload_n rfl dX12_best_37) <|
  ms_occ (s_icmpge (by decide) dX12_best_38) <|
  ms_oc1 rfl (s_iload dX12_best_41) <|
  ms_oc1 rfl (s_istore_n rfl (by decide) dX12_best_43) <|
  ms_oc1 rfl (s_aload_n rfl dX12_best_44) <|
  ms_oc1 rfl (s_get (r := (RX12, TX12, 45)) rfl (by decide) rfl rfl kw_960 dX12_best_45) <|
  ms_occ (s_istore_n rfl (by decide) dX12_best_48) <|
  ms_oc1 rfl (s_iinc (by decide) dX12_best_49) <|
  ms_oc1 rfl (s_goto (by decide) dX12_best_52) <|
  ms_oc1 rfl (s_iload_n rfl dX12_best_55) <|
  ms_oc0 (s_iret (b := false) rfl dX12_best_56)

def tX12_star (G : ms_G) (Q : ms_Q) (d : Nat) : List (Nat × ms_T) := [(0, (o_ld 0 2)), (1, (o_ci 0)), (2, (o_put 12 0 0)), (5, (o_ld 0 2)), (6, (o_ld 1 0)), (7, (o_ld 2 0)), (8, (o_invV G d mX12_lays 12 2 0 0)), (11, (o_if1 G Q mX12_star (d + 1) (fun x => ¬ x = 0) 16)), (14, (o_ci (-1))), (15, (o_ret Q false)), (16, (o_ci 1)), (17, (o_st 3 0)), (100000, o_go G Q mX12_star (d + 1) 18), (18, (o_ld 3 0)), (19, (o_ld 0 2)), (20, (o_get 12 38 0)), (23, (o_if2 G Q mX12_star (d + 1) (fun a b => b ≤ a) 98)), (26, (o_ld 0 2)), (27, (o_get 12 37 2)), (30, (o_ld 3 0)), (31, (o_ald 100 0)), (32, (o_ld 0 2)), (33, (o_get 12 37 2)), (36, (o_ld 3 0)), (37, (o_ci 1)), (38, (o_bin (fun a b => w32 (a - b)))), (39, (o_ald 100 0)), (40, (o_bin (fun a b => w32 (a - b)))), (41, (o_st 4 0)), (43, (o_ci 0)), (44, (o_st 5 0)), (46, (o_ci 0)), (47, (o_st 6 0)), (100000, o_go G Q mX12_star (d + 1) 49), (49, (o_ld 6 0)), (51, (o_ld 3 0)), (52, (o_if2 G Q mX12_star (d + 1) (fun a b => b ≤ a) 85)), (55, (o_ld 5 0)), (57, (o_if1 G Q mX12_star (d + 1) (fun x => ¬ x = 0) 72)), (60, (o_ld 0 2)), (61, (o_get 12 37 2)), (64, (o_ld 6 0)), (66, (o_ald 100 0)), (67, (o_ld 4 0)), (69, (o_if2 G Q mX12_star (d + 1) (fun a b => ¬ a = b) 76)), (100000, o_go G Q mX12_star (d + 1) 72), (72, (o_ci 1)), (73, (o_go G Q mX12_star (d + 1) 77)), (76, (o_ci 0)), (100000, o_go G Q mX12_star (d + 1) 77), (77, (o_st 5 0)), (79, (o_inc 6 1)), (82, (o_go G Q mX12_star (d + 1) 49)), (85, (o_ld 5 0)), (87, (o_if1 G Q mX12_star (d + 1) (fun x => ¬ x = 0) 92)), (90, (o_ci 0)), (91, (o_ret Q false)), (92, (o_inc 3 1)), (95, (o_go G Q mX12_star (d + 1) 18)), (98, (o_ci 1)), (99, (o_ret Q false))]
set_option maxRecDepth 100000 in
set_option maxHeartbeats 4000000 in
theorem kX12_star (G : ms_G) (Q : ms_Q) (d : Nat) : ms_Oc G Q mX12_star (d + 1) (tX12_star G Q d) :=
  ms_oc1 rfl (s_aload_n rfl dX12_star_0) <|
  ms_oc1 rfl (s_iconst dX12_star_1 (by decide)) <|
  ms_oc1 rfl (s_put (r := (RX12, TX12, 45)) rfl (by decide) rfl rfl (ms_nar0 rfl) (Or.inl rfl) kw_922 dX12_star_2) <|
  ms_oc1 rfl (s_aload_n rfl dX12_star_5) <|
  ms_oc1 rfl (s_iload_n rfl dX12_star_6) <|
  ms_oc1 rfl (s_iload_n rfl dX12_star_7) <|
  ms_oc1 rfl (s_invV (r := (RX12, TX12, 45)) rfl rfl kw_1300 kw_1302 kw_68 kw_88 kw_1303 ⟨by decide +kernel, by decide +kernel, by decide +kernel⟩ (by decide) dX12_star_8) <|
  ms_oc1 rfl (s_ifne (by decide) dX12_star_11) <|
  ms_oc1 rfl (s_iconst dX12_star_14 (by decide)) <|
  ms_oc1 rfl (s_iret (b := false) rfl dX12_star_15) <|
  ms_oc1 rfl (s_iconst dX12_star_16 (by decide)) <|
  ms_occ (s_istore_n rfl (by decide) dX12_star_17) <|
  ms_oc1 rfl (s_iload_n rfl dX12_star_18) <|
  ms_oc1 rfl (s_aload_n rfl dX12_star_19) <|
  ms_oc1 rfl (s_get (r := (RX12, TX12, 45)) rfl (by decide) rfl rfl kw_960 dX12_star_20) <|
  ms_oc1 rfl (s_icmpge (by decide) dX12_star_23) <|
  ms_oc1 rfl (s_aload_n rfl dX12_star_26) <|
  ms_oc1 rfl (s_get (r := (RX12, TX12, 45)) rfl (by decide) rfl rfl kw_959 dX12_star_27) <|
  ms_oc1 rfl (s_iload_n rfl dX12_star_30) <|
  ms_oc1 rfl (s_iaload dX12_star_31) <|
  ms_oc1 rfl (s_aload_n rfl dX12_star_32) <|
  ms_oc1 rfl (s_get (r := (RX12, TX12, 45)) rfl (by decide) rfl rfl kw_959 dX12_star_33) <|
  ms_oc1 rfl (s_iload_n rfl dX12_star_36) <|
  ms_oc1 rfl (s_iconst dX12_star_37 (by decide)) <|
  ms_oc1 rfl (s_isub dX12_star_38) <|
  ms_oc1 rfl (s_iaload dX12_star_39) <|
  ms_oc1 rfl (s_isub dX12_star_40) <|
  ms_oc1 rfl (s_istore (by decide) dX12_star_41) <|
  ms_oc1 rfl (s_iconst dX12_star_43 (by decide)) <|
  ms_oc1 rfl (s_istore (by decide) dX12_star_44) <|
  ms_oc1 rfl (s_iconst dX12_star_46 (by decide)) <|
  ms_occ (s_istore (by decide) dX12_star_47) <|
  ms_oc1 rfl (s_iload dX12_star_49) <|
  ms_oc1 rfl (s_iload_n rfl dX12_star_51) <|
  ms_oc1 rfl (s_icmpge (by decide) dX12_star_52) <|
  ms_oc1 rfl (s_iload dX12_star_55) <|
  ms_oc1 rfl (s_ifne (by decide) dX12_star_57) <|
  ms_oc1 rfl (s_aload_n rfl dX12_star_60) <|
  ms_oc1 rfl (s_get (r := (RX12, TX12, 45)) rfl (by decide) rfl rfl kw_959 dX12_star_61) <|
  ms_oc1 rfl (s_iload dX12_star_64) <|
  ms_oc1 rfl (s_iaload dX12_star_66) <|
  ms_oc1 rfl (s_iload dX12_star_67) <|
  ms_occ (s_icmpne (by decide) dX12_star_69) <|
  ms_oc1 rfl (s_iconst dX12_star_72 (by decide)) <|
  ms_oc1 rfl (s_goto (by decide) dX12_star_73) <|
  ms_occ (s_iconst dX12_star_76 (by decide)) <|
  ms_oc1 rfl (s_istore (by decide) dX12_star_77) <|
  ms_oc1 rfl (s_iinc (by decide) dX12_star_79) <|
  ms_oc1 rfl (s_goto (by decide) dX12_star_82) <|
  ms_oc1 rfl (s_iload dX12_star_85) <|
  ms_oc1 rfl (s_ifne (by decide) dX12_star_87) <|
  ms_oc1 rfl (s_iconst dX12_star_90 (by decide)) <|
  ms_oc1 rfl (s_iret (b := false) rfl dX12_star_91) <|
  ms_oc1 rfl (s_iinc (by decide) dX12_star_92) <|
  ms_oc1 rfl (s_goto (by decide) dX12_star_95) <|
  ms_oc1 rfl (s_iconst dX12_star_98 (by decide)) <|
  ms_oc0 (s_iret (b := false) rfl dX12_star_99)

def tX12_lowerOf (G : ms_G) (Q : ms_Q) (d : Nat) : List (Nat × ms_T) := [(0, (o_ci 0)), (1, (o_st 3 0)), (2, (o_ci 0)), (3, (o_st 4 0)), (5, (o_ld 1 0)), (6, (o_st 5 0)), (100000, o_go G Q mX12_lowerOf (d + 1) 8), (8, (o_ld 5 0)), (10, (o_if1 G Q mX12_lowerOf (d + 1) (fun x => x ≤ 0) 34)), (13, (o_inc 3 1)), (16, (o_ld 4 0)), (18, (o_ld 5 0)), (20, (o_ci 2)), (21, (o_dv wrem)), (22, (o_bin (fun a b => w32 (a + b)))), (23, (o_st 4 0)), (25, (o_ld 5 0)), (27, (o_ci 2)), (28, (o_dv wdiv)), (29, (o_st 5 0)), (31, (o_go G Q mX12_lowerOf (d + 1) 8)), (34, (o_inc 3 (-1))), (37, (o_ld 2 0)), (38, (o_if1 G Q mX12_lowerOf (d + 1) (fun x => ¬ x = 0) 43)), (41, (o_ld 3 0)), (42, (o_ret Q false)), (43, (o_ld 2 0)), (44, (o_ci 1)), (45, (o_if2 G Q mX12_lowerOf (d + 1) (fun a b => ¬ a = b) 84)), (48, (o_ld 3 0)), (49, (o_ld 4 0)), (51, (o_ci 1)), (52, (o_if2 G Q mX12_lowerOf (d + 1) (fun a b => ¬ a = b) 59)), (55, (o_ci 0)), (56, (o_go G Q mX12_lowerOf (d + 1) 80)), (59, (o_ld 4 0)), (61, (o_ci 2)), (62, (o_if2 G Q mX12_lowerOf (d + 1) (fun a b => ¬ a = b) 69)), (65, (o_ci 1)), (66, (o_go G Q mX12_lowerOf (d + 1) 80)), (69, (o_ld 4 0)), (71, (o_ci 5)), (72, (o_if2 G Q mX12_lowerOf (d + 1) (fun a b => b ≤ a) 79)), (75, (o_ci 2)), (76, (o_go G Q mX12_lowerOf (d + 1) 80)), (79, (o_ci 3)), (100000, o_go G Q mX12_lowerOf (d + 1) 80), (80, (o_bin (fun a b => w32 (a + b)))), (81, (o_go G Q mX12_lowerOf (d + 1) 97)), (84, (o_ld 4 0)), (86, (o_ci 1)), (87, (o_if2 G Q mX12_lowerOf (d + 1) (fun a b => ¬ a = b) 94)), (90, (o_ld 3 0)), (91, (o_go G Q mX12_lowerOf (d + 1) 97)), (94, (o_ld 3 0)), (95, (o_ci 1)), (96, (o_bin (fun a b => w32 (a + b)))), (100000, o_go G Q mX12_lowerOf (d + 1) 97), (97, (o_ret Q false))]
set_option maxRecDepth 100000 in
set_option maxHeartbeats 4000000 in
theorem kX12_lowerOf (G : ms_G) (Q : ms_Q) (d : Nat) : ms_Oc G Q mX12_lowerOf (d + 1) (tX12_lowerOf G Q d) :=
  ms_oc1 rfl (s_iconst dX12_lowerOf_0 (by decide)) <|
  ms_oc1 rfl (s_istore_n rfl (by decide) dX12_lowerOf_1) <|
  ms_oc1 rfl (s_iconst dX12_lowerOf_2 (by decide)) <|
  ms_oc1 rfl (s_istore (by decide) dX12_lowerOf_3) <|
  ms_oc1 rfl (s_iload_n rfl dX12_lowerOf_5) <|
  ms_occ (s_istore (by decide) dX12_lowerOf_6) <|
  ms_oc1 rfl (s_iload dX12_lowerOf_8) <|
  ms_oc1 rfl (s_ifle (by decide) dX12_lowerOf_10) <|
  ms_oc1 rfl (s_iinc (by decide) dX12_lowerOf_13) <|
  ms_oc1 rfl (s_iload dX12_lowerOf_16) <|
  ms_oc1 rfl (s_iload dX12_lowerOf_18) <|
  ms_oc1 rfl (s_iconst dX12_lowerOf_20 (by decide)) <|
  ms_oc1 rfl (s_irem dX12_lowerOf_21) <|
  ms_oc1 rfl (s_iadd dX12_lowerOf_22) <|
  ms_oc1 rfl (s_istore (by decide) dX12_lowerOf_23) <|
  ms_oc1 rfl (s_iload dX12_lowerOf_25) <|
  ms_oc1 rfl (s_iconst dX12_lowerOf_27 (by decide)) <|
  ms_oc1 rfl (s_idiv dX12_lowerOf_28) <|
  ms_oc1 rfl (s_istore (by decide) dX12_lowerOf_29) <|
  ms_oc1 rfl (s_goto (by decide) dX12_lowerOf_31) <|
  ms_oc1 rfl (s_iinc (by decide) dX12_lowerOf_34) <|
  ms_oc1 rfl (s_iload_n rfl dX12_lowerOf_37) <|
  ms_oc1 rfl (s_ifne (by decide) dX12_lowerOf_38) <|
  ms_oc1 rfl (s_iload_n rfl dX12_lowerOf_41) <|
  ms_oc1 rfl (s_iret (b := false) rfl dX12_lowerOf_42) <|
  ms_oc1 rfl (s_iload_n rfl dX12_lowerOf_43) <|
  ms_oc1 rfl (s_iconst dX12_lowerOf_44 (by decide)) <|
  ms_oc1 rfl (s_icmpne (by decide) dX12_lowerOf_45) <|
  ms_oc1 rfl (s_iload_n rfl dX12_lowerOf_48) <|
  ms_oc1 rfl (s_iload dX12_lowerOf_49) <|
  ms_oc1 rfl (s_iconst dX12_lowerOf_51 (by decide)) <|
  ms_oc1 rfl (s_icmpne (by decide) dX12_lowerOf_52) <|
  ms_oc1 rfl (s_iconst dX12_lowerOf_55 (by decide)) <|
  ms_oc1 rfl (s_goto (by decide) dX12_lowerOf_56) <|
  ms_oc1 rfl (s_iload dX12_lowerOf_59) <|
  ms_oc1 rfl (s_iconst dX12_lowerOf_61 (by decide)) <|
  ms_oc1 rfl (s_icmpne (by decide) dX12_lowerOf_62) <|
  ms_oc1 rfl (s_iconst dX12_lowerOf_65 (by decide)) <|
  ms_oc1 rfl (s_goto (by decide) dX12_lowerOf_66) <|
  ms_oc1 rfl (s_iload dX12_lowerOf_69) <|
  ms_oc1 rfl (s_iconst dX12_lowerOf_71 (by decide)) <|
  ms_oc1 rfl (s_icmpge (by decide) dX12_lowerOf_72) <|
  ms_oc1 rfl (s_iconst dX12_lowerOf_75 (by decide)) <|
  ms_oc1 rfl (s_goto (by decide) dX12_lowerOf_76) <|
  ms_occ (s_iconst dX12_lowerOf_79 (by decide)) <|
  ms_oc1 rfl (s_iadd dX12_lowerOf_80) <|
  ms_oc1 rfl (s_goto (by decide) dX12_lowerOf_81) <|
  ms_oc1 rfl (s_iload dX12_lowerOf_84) <|
  ms_oc1 rfl (s_iconst dX12_lowerOf_86 (by decide)) <|
  ms_oc1 rfl (s_icmpne (by decide) dX12_lowerOf_87) <|
  ms_oc1 rfl (s_iload_n rfl dX12_lowerOf_90) <|
  ms_oc1 rfl (s_goto (by decide) dX12_lowerOf_91) <|
  ms_oc1 rfl (s_iload_n rfl dX12_lowerOf_94) <|
  ms_oc1 rfl (s_iconst dX12_lowerOf_95 (by decide)) <|
  ms_occ (s_iadd dX12_lowerOf_96) <|
  ms_oc0 (s_iret (b := false) rfl dX12_lowerOf_97)

def tX12_lower (G : ms_G) (Q : ms_Q) (d : Nat) : List (Nat × ms_T) := [(0, (o_ld 0 2)), (1, (o_ci 0)), (2, (o_put 12 0 0)), (5, (o_ld 1 0)), (6, (o_un 0 1 (fun a => a))), (7, (o_cl 1)), (8, (o_cl (9999))), (11, (o_invS G d mX12_within 3 0 0)), (14, (o_if1 G Q mX12_lower (d + 1) (fun x => x = 0) 38)), (17, (o_ld 2 0)), (18, (o_un 0 1 (fun a => a))), (19, (o_cl 0)), (20, (o_cl (2))), (23, (o_invS G d mX12_within 3 0 0)), (26, (o_if1 G Q mX12_lower (d + 1) (fun x => x = 0) 38)), (29, (o_ld 0 2)), (30, (o_ld 1 0)), (31, (o_ld 2 0)), (32, (o_invV G d mX12_lowerOf 12 2 0 0)), (35, (o_go G Q mX12_lower (d + 1) 39)), (38, (o_ci (-1))), (100000, o_go G Q mX12_lower (d + 1) 39), (39, (o_ret Q false))]
set_option maxRecDepth 100000 in
set_option maxHeartbeats 4000000 in
theorem kX12_lower (G : ms_G) (Q : ms_Q) (d : Nat) : ms_Oc G Q mX12_lower (d + 1) (tX12_lower G Q d) :=
  ms_oc1 rfl (s_aload_n rfl dX12_lower_0) <|
  ms_oc1 rfl (s_iconst dX12_lower_1 (by decide)) <|
  ms_oc1 rfl (s_put (r := (RX12, TX12, 45)) rfl (by decide) rfl rfl (ms_nar0 rfl) (Or.inl rfl) kw_922 dX12_lower_2) <|
  ms_oc1 rfl (s_iload_n rfl dX12_lower_5) <|
  ms_oc1 rfl (s_i2l dX12_lower_6) <|
  ms_oc1 rfl (s_lconst dX12_lower_7 (by decide) (by decide)) <|
  ms_oc1 rfl (s_ldc2 dX12_lower_8 kw_1130 (by decide) (by decide)) <|
  ms_oc1 rfl (s_invS kw_1062 kw_1063 kw_88 kw_1064 ⟨by decide +kernel, by decide +kernel, by decide +kernel⟩ (by decide) dX12_lower_11) <|
  ms_oc1 rfl (s_ifeq (by decide) dX12_lower_14) <|
  ms_oc1 rfl (s_iload_n rfl dX12_lower_17) <|
  ms_oc1 rfl (s_i2l dX12_lower_18) <|
  ms_oc1 rfl (s_lconst dX12_lower_19 (by decide) (by decide)) <|
  ms_oc1 rfl (s_ldc2 dX12_lower_20 kw_1129 (by decide) (by decide)) <|
  ms_oc1 rfl (s_invS kw_1062 kw_1063 kw_88 kw_1064 ⟨by decide +kernel, by decide +kernel, by decide +kernel⟩ (by decide) dX12_lower_23) <|
  ms_oc1 rfl (s_ifeq (by decide) dX12_lower_26) <|
  ms_oc1 rfl (s_aload_n rfl dX12_lower_29) <|
  ms_oc1 rfl (s_iload_n rfl dX12_lower_30) <|
  ms_oc1 rfl (s_iload_n rfl dX12_lower_31) <|
  ms_oc1 rfl (s_invV (r := (RX12, TX12, 45)) rfl rfl kw_1340 kw_1342 kw_73 kw_88 kw_1343 ⟨by decide +kernel, by decide +kernel, by decide +kernel⟩ (by decide) dX12_lower_32) <|
  ms_oc1 rfl (s_goto (by decide) dX12_lower_35) <|
  ms_occ (s_iconst dX12_lower_38 (by decide)) <|
  ms_oc0 (s_iret (b := false) rfl dX12_lower_39)

def tX12_goes (G : ms_G) (Q : ms_Q) (d : Nat) : List (Nat × ms_T) := [(0, (o_ld 0 2)), (1, (o_get 12 39 0)), (4, (o_ld 0 2)), (5, (o_get 12 42 0)), (8, (o_if2 G Q mX12_goes (d + 1) (fun a b => ¬ a = b) 13)), (11, (o_ci 2)), (12, (o_ret Q false)), (13, (o_ld 0 2)), (14, o_dup), (15, (o_get 12 39 0)), (18, (o_ci 1)), (19, (o_bin (fun a b => w32 (a + b)))), (20, (o_put 12 39 0)), (23, (o_ld 0 2)), (24, (o_get 12 41 2)), (27, (o_ld 1 0)), (28, (o_ald 100 0)), (29, (o_st 2 0)), (30, (o_ld 2 0)), (31, (o_ld 0 2)), (32, (o_get 12 43 0)), (35, (o_if2 G Q mX12_goes (d + 1) (fun a b => ¬ a = b) 47)), (38, (o_ld 0 2)), (39, (o_ld 1 0)), (40, (o_ci 1)), (41, (o_bin (fun a b => w32 (a + b)))), (42, (o_put 12 40 0)), (45, (o_ci 1)), (46, (o_ret Q false)), (47, (o_ld 1 0)), (48, (o_ld 0 2)), (49, (o_get 12 44 0)), (52, (o_if2 G Q mX12_goes (d + 1) (fun a b => a = b) 70)), (55, (o_ld 2 0)), (56, (o_ld 0 2)), (57, (o_get 12 44 0)), (60, (o_ld 1 0)), (61, (o_bin (fun a b => w32 (a - b)))), (62, (o_bin wshl)), (63, (o_ld 0 2)), (64, (o_get 12 43 0)), (67, (o_if2 G Q mX12_goes (d + 1) (fun a b => b ≤ a) 72)), (100000, o_go G Q mX12_goes (d + 1) 70), (70, (o_ci 0)), (71, (o_ret Q false)), (72, (o_ld 1 0)), (73, (o_st 3 0)), (100000, o_go G Q mX12_goes (d + 1) 74), (74, (o_ld 3 0)), (75, (o_if1 G Q mX12_goes (d + 1) (fun x => x < 0) 135)), (78, (o_ld 2 0)), (79, (o_ld 0 2)), (80, (o_get 12 41 2)), (83, (o_ld 3 0)), (84, (o_ald 100 0)), (85, (o_bin (fun a b => w32 (a + b)))), (86, (o_ld 0 2)), (87, (o_get 12 43 0)), (90, (o_if2 G Q mX12_goes (d + 1) (fun a b => a ≤ b) 96)), (93, (o_go G Q mX12_goes (d + 1) 129)), (96, (o_ld 0 2)), (97, (o_get 12 41 2)), (100, (o_ld 1 0)), (101, (o_ci 1)), (102, (o_bin (fun a b => w32 (a + b)))), (103, (o_ld 2 0)), (104, (o_ld 0 2)), (105, (o_get 12 41 2)), (108, (o_ld 3 0)), (109, (o_ald 100 0)), (110, (o_bin (fun a b => w32 (a + b)))), (111, (o_ast 100 0 (fun x => x))), (112, (o_ld 0 2)), (113, (o_ld 1 0)), (114, (o_ci 1)), (115, (o_bin (fun a b => w32 (a + b)))), (116, (o_invV G d mX12_goes 12 1 0 0)), (119, (o_st 4 0)), (121, (o_ld 4 0)), (123, (o_if1 G Q mX12_goes (d + 1) (fun x => x ≤ 0) 129)), (126, (o_ld 4 0)), (128, (o_ret Q false)), (129, (o_inc 3 (-1))), (132, (o_go G Q mX12_goes (d + 1) 74)), (135, (o_ci 0)), (136, (o_ret Q false))]
set_option maxRecDepth 100000 in
set_option maxHeartbeats 4000000 in
theorem kX12_goes (G : ms_G) (Q : ms_Q) (d : Nat) : ms_Oc G Q mX12_goes (d + 1) (tX12_goes G Q d) :=
  ms_oc1 rfl (s_aload_n rfl dX12_goes_0) <|
  ms_oc1 rfl (s_get (r := (RX12, TX12, 45)) rfl (by decide) rfl rfl kw_961 dX12_goes_1) <|
  ms_oc1 rfl (s_aload_n rfl dX12_goes_4) <|
  ms_oc1 rfl (s_get (r := (RX12, TX12, 45)) rfl (by decide) rfl rfl kw_964 dX12_goes_5) <|
  ms_oc1 rfl (s_icmpne (by decide) dX12_goes_8) <|
  ms_oc1 rfl (s_iconst dX12_goes_11 (by decide)) <|
  ms_oc1 rfl (s_iret (b := false) rfl dX12_goes_12) <|
  ms_oc1 rfl (s_aload_n rfl dX12_goes_13) <|
  ms_oc1 rfl (s_dup dX12_goes_14) <|
  ms_oc1 rfl (s_get (r := (RX12, TX12, 45)) rfl (by decide) rfl rfl kw_961 dX12_goes_15) <|
  ms_oc1 rfl (s_iconst dX12_goes_18 (by decide)) <|
  ms_oc1 rfl (s_iadd dX12_goes_19) <|
  ms_oc1 rfl (s_put (r := (RX12, TX12, 45)) rfl (by decide) rfl rfl (ms_nar0 rfl) (Or.inl rfl) kw_961 dX12_goes_20) <|
  ms_oc1 rfl (s_aload_n rfl dX12_goes_23) <|
  ms_oc1 rfl (s_get (r := (RX12, TX12, 45)) rfl (by decide) rfl rfl kw_963 dX12_goes_24) <|
  ms_oc1 rfl (s_iload_n rfl dX12_goes_27) <|
  ms_oc1 rfl (s_iaload dX12_goes_28) <|
  ms_oc1 rfl (s_istore_n rfl (by decide) dX12_goes_29) <|
  ms_oc1 rfl (s_iload_n rfl dX12_goes_30) <|
  ms_oc1 rfl (s_aload_n rfl dX12_goes_31) <|
  ms_oc1 rfl (s_get (r := (RX12, TX12, 45)) rfl (by decide) rfl rfl kw_965 dX12_goes_32) <|
  ms_oc1 rfl (s_icmpne (by decide) dX12_goes_35) <|
  ms_oc1 rfl (s_aload_n rfl dX12_goes_38) <|
  ms_oc1 rfl (s_iload_n rfl dX12_goes_39) <|
  ms_oc1 rfl (s_iconst dX12_goes_40 (by decide)) <|
  ms_oc1 rfl (s_iadd dX12_goes_41) <|
  ms_oc1 rfl (s_put (r := (RX12, TX12, 45)) rfl (by decide) rfl rfl (ms_nar0 rfl) (Or.inl rfl) kw_962 dX12_goes_42) <|
  ms_oc1 rfl (s_iconst dX12_goes_45 (by decide)) <|
  ms_oc1 rfl (s_iret (b := false) rfl dX12_goes_46) <|
  ms_oc1 rfl (s_iload_n rfl dX12_goes_47) <|
  ms_oc1 rfl (s_aload_n rfl dX12_goes_48) <|
  ms_oc1 rfl (s_get (r := (RX12, TX12, 45)) rfl (by decide) rfl rfl kw_966 dX12_goes_49) <|
  ms_oc1 rfl (s_icmpeq (by decide) dX12_goes_52) <|
  ms_oc1 rfl (s_iload_n rfl dX12_goes_55) <|
  ms_oc1 rfl (s_aload_n rfl dX12_goes_56) <|
  ms_oc1 rfl (s_get (r := (RX12, TX12, 45)) rfl (by decide) rfl rfl kw_966 dX12_goes_57) <|
  ms_oc1 rfl (s_iload_n rfl dX12_goes_60) <|
  ms_oc1 rfl (s_isub dX12_goes_61) <|
  ms_oc1 rfl (s_ishl dX12_goes_62) <|
  ms_oc1 rfl (s_aload_n rfl dX12_goes_63) <|
  ms_oc1 rfl (s_get (r := (RX12, TX12, 45)) rfl (by decide) rfl rfl kw_965 dX12_goes_64) <|
  ms_occ (s_icmpge (by decide) dX12_goes_67) <|
  ms_oc1 rfl (s_iconst dX12_goes_70 (by decide)) <|
  ms_oc1 rfl (s_iret (b := false) rfl dX12_goes_71) <|
  ms_oc1 rfl (s_iload_n rfl dX12_goes_72) <|
  ms_occ (s_istore_n rfl (by decide) dX12_goes_73) <|
  ms_oc1 rfl (s_iload_n rfl dX12_goes_74) <|
  ms_oc1 rfl (s_iflt (by decide) dX12_goes_75) <|
  ms_oc1 rfl (s_iload_n rfl dX12_goes_78) <|
  ms_oc1 rfl (s_aload_n rfl dX12_goes_79) <|
  ms_oc1 rfl (s_get (r := (RX12, TX12, 45)) rfl (by decide) rfl rfl kw_963 dX12_goes_80) <|
  ms_oc1 rfl (s_iload_n rfl dX12_goes_83) <|
  ms_oc1 rfl (s_iaload dX12_goes_84) <|
  ms_oc1 rfl (s_iadd dX12_goes_85) <|
  ms_oc1 rfl (s_aload_n rfl dX12_goes_86) <|
  ms_oc1 rfl (s_get (r := (RX12, TX12, 45)) rfl (by decide) rfl rfl kw_965 dX12_goes_87) <|
  ms_oc1 rfl (s_icmple (by decide) dX12_goes_90) <|
  ms_oc1 rfl (s_goto (by decide) dX12_goes_93) <|
  ms_oc1 rfl (s_aload_n rfl dX12_goes_96) <|
  ms_oc1 rfl (s_get (r := (RX12, TX12, 45)) rfl (by decide) rfl rfl kw_963 dX12_goes_97) <|
  ms_oc1 rfl (s_iload_n rfl dX12_goes_100) <|
  ms_oc1 rfl (s_iconst dX12_goes_101 (by decide)) <|
  ms_oc1 rfl (s_iadd dX12_goes_102) <|
  ms_oc1 rfl (s_iload_n rfl dX12_goes_103) <|
  ms_oc1 rfl (s_aload_n rfl dX12_goes_104) <|
  ms_oc1 rfl (s_get (r := (RX12, TX12, 45)) rfl (by decide) rfl rfl kw_963 dX12_goes_105) <|
  ms_oc1 rfl (s_iload_n rfl dX12_goes_108) <|
  ms_oc1 rfl (s_iaload dX12_goes_109) <|
  ms_oc1 rfl (s_iadd dX12_goes_110) <|
  ms_oc1 rfl (s_iastore dX12_goes_111) <|
  ms_oc1 rfl (s_aload_n rfl dX12_goes_112) <|
  ms_oc1 rfl (s_iload_n rfl dX12_goes_113) <|
  ms_oc1 rfl (s_iconst dX12_goes_114 (by decide)) <|
  ms_oc1 rfl (s_iadd dX12_goes_115) <|
  ms_oc1 rfl (s_invV (r := (RX12, TX12, 45)) rfl rfl kw_1350 kw_1352 kw_74 kw_88 kw_1353 ⟨by decide +kernel, by decide +kernel, by decide +kernel⟩ (by decide) dX12_goes_116) <|
  ms_oc1 rfl (s_istore (by decide) dX12_goes_119) <|
  ms_oc1 rfl (s_iload dX12_goes_121) <|
  ms_oc1 rfl (s_ifle (by decide) dX12_goes_123) <|
  ms_oc1 rfl (s_iload dX12_goes_126) <|
  ms_oc1 rfl (s_iret (b := false) rfl dX12_goes_128) <|
  ms_oc1 rfl (s_iinc (by decide) dX12_goes_129) <|
  ms_oc1 rfl (s_goto (by decide) dX12_goes_132) <|
  ms_oc1 rfl (s_iconst dX12_goes_135 (by decide)) <|
  ms_oc0 (s_iret (b := false) rfl dX12_goes_136)

def tX12_search (G : ms_G) (Q : ms_Q) (d : Nat) : List (Nat × ms_T) := [(0, (o_ld 0 2)), (1, (o_ci 0)), (2, (o_put 12 0 0)), (5, (o_ld 1 0)), (6, (o_un 0 1 (fun a => a))), (7, (o_cl 1)), (8, (o_cl (2047))), (11, (o_invS G d mX12_within 3 0 0)), (14, (o_if1 G Q mX12_search (d + 1) (fun x => x = 0) 29)), (17, (o_ld 2 0)), (18, (o_un 0 1 (fun a => a))), (19, (o_cl 1)), (20, (o_cl (100000))), (23, (o_invS G d mX12_within 3 0 0)), (26, (o_if1 G Q mX12_search (d + 1) (fun x => ¬ x = 0) 31)), (100000, o_go G Q mX12_search (d + 1) 29), (29, (o_ci (-1))), (30, (o_ret Q false)), (31, (o_ld 0 2)), (32, (o_ci 0)), (33, (o_put 12 39 0)), (36, (o_ld 0 2)), (37, (o_ci 0)), (38, (o_put 12 40 0)), (41, (o_ld 0 2)), (42, (o_ld 2 0)), (43, (o_put 12 42 0)), (46, (o_ld 0 2)), (47, (o_ld 1 0)), (48, (o_put 12 43 0)), (51, (o_ld 0 2)), (52, (o_ld 0 2)), (53, (o_ld 1 0)), (54, (o_ci 1)), (55, (o_invV G d mX12_lowerOf 12 2 0 0)), (58, (o_put 12 44 0)), (61, (o_ld 0 2)), (62, (o_get 12 41 2)), (65, (o_ci 0)), (66, (o_ci 1)), (67, (o_ast 100 0 (fun x => x))), (68, (o_ld 0 2)), (69, (o_ci 0)), (70, (o_invV G d mX12_goes 12 1 0 0)), (73, (o_st 3 0)), (100000, o_go G Q mX12_search (d + 1) 74), (74, (o_ld 3 0)), (75, (o_if1 G Q mX12_search (d + 1) (fun x => ¬ x = 0) 97)), (78, (o_ld 0 2)), (79, o_dup), (80, (o_get 12 44 0)), (83, (o_ci 1)), (84, (o_bin (fun a b => w32 (a + b)))), (85, (o_put 12 44 0)), (88, (o_ld 0 2)), (89, (o_ci 0)), (90, (o_invV G d mX12_goes 12 1 0 0)), (93, (o_st 3 0)), (94, (o_go G Q mX12_search (d + 1) 74)), (97, (o_ld 3 0)), (98, (o_ci 1)), (99, (o_if2 G Q mX12_search (d + 1) (fun a b => ¬ a = b) 111)), (102, (o_ld 0 2)), (103, (o_get 12 40 0)), (106, (o_ci 1)), (107, (o_bin (fun a b => w32 (a - b)))), (108, (o_go G Q mX12_search (d + 1) 113)), (111, (o_ci (-2))), (100000, o_go G Q mX12_search (d + 1) 113), (113, (o_ret Q false))]
set_option maxRecDepth 100000 in
set_option maxHeartbeats 4000000 in
theorem kX12_search (G : ms_G) (Q : ms_Q) (d : Nat) : ms_Oc G Q mX12_search (d + 1) (tX12_search G Q d) :=
  ms_oc1 rfl (s_aload_n rfl dX12_search_0) <|
  ms_oc1 rfl (s_iconst dX12_search_1 (by decide)) <|
  ms_oc1 rfl (s_put (r := (RX12, TX12, 45)) rfl (by decide) rfl rfl (ms_nar0 rfl) (Or.inl rfl) kw_922 dX12_search_2) <|
  ms_oc1 rfl (s_iload_n rfl dX12_search_5) <|
  ms_oc1 rfl (s_i2l dX12_search_6) <|
  ms_oc1 rfl (s_lconst dX12_search_7 (by decide) (by decide)) <|
  ms_oc1 rfl (s_ldc2 dX12_search_8 kw_1348 (by decide) (by decide)) <|
  ms_oc1 rfl (s_invS kw_1062 kw_1063 kw_88 kw_1064 ⟨by decide +kernel, by decide +kernel, by decide +kernel⟩ (by decide) dX12_search_11) <|
  ms_oc1 rfl (s_ifeq (by decide) dX12_search_14) <|
  ms_oc1 rfl (s_iload_n rfl dX12_search_17) <|
  ms_oc1 rfl (s_i2l dX12_search_18) <|
  ms_oc1 rfl (s_lconst dX12_search_19 (by decide) (by decide)) <|
  ms_oc1 rfl (s_ldc2 dX12_search_20 kw_1349 (by decide) (by decide)) <|
  ms_oc1 rfl (s_invS kw_1062 kw_1063 kw_88 kw_1064 ⟨by decide +kernel, by decide +kernel, by decide +kernel⟩ (by decide) dX12_search_23) <|
  ms_occ (s_ifne (by decide) dX12_search_26) <|
  ms_oc1 rfl (s_iconst dX12_search_29 (by decide)) <|
  ms_oc1 rfl (s_iret (b := false) rfl dX12_search_30) <|
  ms_oc1 rfl (s_aload_n rfl dX12_search_31) <|
  ms_oc1 rfl (s_iconst dX12_search_32 (by decide)) <|
  ms_oc1 rfl (s_put (r := (RX12, TX12, 45)) rfl (by decide) rfl rfl (ms_nar0 rfl) (Or.inl rfl) kw_961 dX12_search_33) <|
  ms_oc1 rfl (s_aload_n rfl dX12_search_36) <|
  ms_oc1 rfl (s_iconst dX12_search_37 (by decide)) <|
  ms_oc1 rfl (s_put (r := (RX12, TX12, 45)) rfl (by decide) rfl rfl (ms_nar0 rfl) (Or.inl rfl) kw_962 dX12_search_38) <|
  ms_oc1 rfl (s_aload_n rfl dX12_search_41) <|
  ms_oc1 rfl (s_iload_n rfl dX12_search_42) <|
  ms_oc1 rfl (s_put (r := (RX12, TX12, 45)) rfl (by decide) rfl rfl (ms_nar0 rfl) (Or.inl rfl) kw_964 dX12_search_43) <|
  ms_oc1 rfl (s_aload_n rfl dX12_search_46) <|
  ms_oc1 rfl (s_iload_n rfl dX12_search_47) <|
  ms_oc1 rfl (s_put (r := (RX12, TX12, 45)) rfl (by decide) rfl rfl (ms_nar0 rfl) (Or.inl rfl) kw_965 dX12_search_48) <|
  ms_oc1 rfl (s_aload_n rfl dX12_search_51) <|
  ms_oc1 rfl (s_aload_n rfl dX12_search_52) <|
  ms_oc1 rfl (s_iload_n rfl dX12_search_53) <|
  ms_oc1 rfl (s_iconst dX12_search_54 (by decide)) <|
  ms_oc1 rfl (s_invV (r := (RX12, TX12, 45)) rfl rfl kw_1340 kw_1342 kw_73 kw_88 kw_1343 ⟨by decide +kernel, by decide +kernel, by decide +kernel⟩ (by decide) dX12_search_55) <|
  ms_oc1 rfl (s_put (r := (RX12, TX12, 45)) rfl (by decide) rfl rfl (ms_nar0 rfl) (Or.inl rfl) kw_966 dX12_search_58) <|
  ms_oc1 rfl (s_aload_n rfl dX12_search_61) <|
  ms_oc1 rfl (s_get (r := (RX12, TX12, 45)) rfl (by decide) rfl rfl kw_963 dX12_search_62) <|
  ms_oc1 rfl (s_iconst dX12_search_65 (by decide)) <|
  ms_oc1 rfl (s_iconst dX12_search_66 (by decide)) <|
  ms_oc1 rfl (s_iastore dX12_search_67) <|
  ms_oc1 rfl (s_aload_n rfl dX12_search_68) <|
  ms_oc1 rfl (s_iconst dX12_search_69 (by decide)) <|
  ms_oc1 rfl (s_invV (r := (RX12, TX12, 45)) rfl rfl kw_1350 kw_1352 kw_74 kw_88 kw_1353 ⟨by decide +kernel, by decide +kernel, by decide +kernel⟩ (by decide) dX12_search_70) <|
  ms_occ (s_istore_n rfl (by decide) dX12_search_73) <|
  ms_oc1 rfl (s_iload_n rfl dX12_search_74) <|
  ms_oc1 rfl (s_ifne (by decide) dX12_search_75) <|
  ms_oc1 rfl (s_aload_n rfl dX12_search_78) <|
  ms_oc1 rfl (s_dup dX12_search_79) <|
  ms_oc1 rfl (s_get (r := (RX12, TX12, 45)) rfl (by decide) rfl rfl kw_966 dX12_search_80) <|
  ms_oc1 rfl (s_iconst dX12_search_83 (by decide)) <|
  ms_oc1 rfl (s_iadd dX12_search_84) <|
  ms_oc1 rfl (s_put (r := (RX12, TX12, 45)) rfl (by decide) rfl rfl (ms_nar0 rfl) (Or.inl rfl) kw_966 dX12_search_85) <|
  ms_oc1 rfl (s_aload_n rfl dX12_search_88) <|
  ms_oc1 rfl (s_iconst dX12_search_89 (by decide)) <|
  ms_oc1 rfl (s_invV (r := (RX12, TX12, 45)) rfl rfl kw_1350 kw_1352 kw_74 kw_88 kw_1353 ⟨by decide +kernel, by decide +kernel, by decide +kernel⟩ (by decide) dX12_search_90) <|
  ms_oc1 rfl (s_istore_n rfl (by decide) dX12_search_93) <|
  ms_oc1 rfl (s_goto (by decide) dX12_search_94) <|
  ms_oc1 rfl (s_iload_n rfl dX12_search_97) <|
  ms_oc1 rfl (s_iconst dX12_search_98 (by decide)) <|
  ms_oc1 rfl (s_icmpne (by decide) dX12_search_99) <|
  ms_oc1 rfl (s_aload_n rfl dX12_search_102) <|
  ms_oc1 rfl (s_get (r := (RX12, TX12, 45)) rfl (by decide) rfl rfl kw_962 dX12_search_103) <|
  ms_oc1 rfl (s_iconst dX12_search_106 (by decide)) <|
  ms_oc1 rfl (s_isub dX12_search_107) <|
  ms_oc1 rfl (s_goto (by decide) dX12_search_108) <|
  ms_occ (s_bipush dX12_search_111 (by decide) (by decide)) <|
  ms_oc0 (s_iret (b := false) rfl dX12_search_113)

def tX12_found (G : ms_G) (Q : ms_Q) (d : Nat) : List (Nat × ms_T) := [(0, (o_ld 0 2)), (1, (o_ci 0)), (2, (o_put 12 0 0)), (5, (o_ld 1 0)), (6, (o_un 0 1 (fun a => a))), (7, (o_cl 0)), (8, (o_ld 0 2)), (9, (o_get 12 40 0)), (12, (o_ci 1)), (13, (o_bin (fun a b => w32 (a - b)))), (14, (o_un 0 1 (fun a => a))), (15, (o_invS G d mX12_within 3 0 0)), (18, (o_if1 G Q mX12_found (d + 1) (fun x => x = 0) 30)), (21, (o_ld 0 2)), (22, (o_get 12 41 2)), (25, (o_ld 1 0)), (26, (o_ald 100 0)), (27, (o_go G Q mX12_found (d + 1) 31)), (30, (o_ci (-1))), (100000, o_go G Q mX12_found (d + 1) 31), (31, (o_ret Q false))]
set_option maxRecDepth 100000 in
set_option maxHeartbeats 4000000 in
theorem kX12_found (G : ms_G) (Q : ms_Q) (d : Nat) : ms_Oc G Q mX12_found (d + 1) (tX12_found G Q d) :=
  ms_oc1 rfl (s_aload_n rfl dX12_found_0) <|
  ms_oc1 rfl (s_iconst dX12_found_1 (by decide)) <|
  ms_oc1 rfl (s_put (r := (RX12, TX12, 45)) rfl (by decide) rfl rfl (ms_nar0 rfl) (Or.inl rfl) kw_922 dX12_found_2) <|
  ms_oc1 rfl (s_iload_n rfl dX12_found_5) <|
  ms_oc1 rfl (s_i2l dX12_found_6) <|
  ms_oc1 rfl (s_lconst dX12_found_7 (by decide) (by decide)) <|
  ms_oc1 rfl (s_aload_n rfl dX12_found_8) <|
  ms_oc1 rfl (s_get (r := (RX12, TX12, 45)) rfl (by decide) rfl rfl kw_962 dX12_found_9) <|
  ms_oc1 rfl (s_iconst dX12_found_12 (by decide)) <|
  ms_oc1 rfl (s_isub dX12_found_13) <|
  ms_oc1 rfl (s_i2l dX12_found_14) <|
  ms_oc1 rfl (s_invS kw_1062 kw_1063 kw_88 kw_1064 ⟨by decide +kernel, by decide +kernel, by decide +kernel⟩ (by decide) dX12_found_15) <|
  ms_oc1 rfl (s_ifeq (by decide) dX12_found_18) <|
  ms_oc1 rfl (s_aload_n rfl dX12_found_21) <|
  ms_oc1 rfl (s_get (r := (RX12, TX12, 45)) rfl (by decide) rfl rfl kw_963 dX12_found_22) <|
  ms_oc1 rfl (s_iload_n rfl dX12_found_25) <|
  ms_oc1 rfl (s_iaload dX12_found_26) <|
  ms_oc1 rfl (s_goto (by decide) dX12_found_27) <|
  ms_occ (s_iconst dX12_found_30 (by decide)) <|
  ms_oc0 (s_iret (b := false) rfl dX12_found_31)

def tX12_isChain (G : ms_G) (Q : ms_Q) (d : Nat) : List (Nat × ms_T) := [(0, (o_ld 0 2)), (1, (o_ci 0)), (2, (o_put 12 0 0)), (5, (o_ld 1 0)), (6, (o_un 0 1 (fun a => a))), (7, (o_cl 1)), (8, (o_cl (6))), (11, (o_invS G d mX12_within 3 0 0)), (14, (o_if1 G Q mX12_isChain (d + 1) (fun x => ¬ x = 0) 19)), (17, (o_ci (-1))), (18, (o_ret Q false)), (19, (o_ci 6)), (21, (o_newa 100)), (23, o_dup), (24, (o_ci 0)), (25, (o_ci 1)), (26, (o_ast 100 0 (fun x => x))), (27, o_dup), (28, (o_ci 1)), (29, (o_ld 2 0)), (30, (o_ast 100 0 (fun x => x))), (31, o_dup), (32, (o_ci 2)), (33, (o_ld 3 0)), (34, (o_ast 100 0 (fun x => x))), (35, o_dup), (36, (o_ci 3)), (37, (o_ld 4 0)), (39, (o_ast 100 0 (fun x => x))), (40, o_dup), (41, (o_ci 4)), (42, (o_ld 5 0)), (44, (o_ast 100 0 (fun x => x))), (45, o_dup), (46, (o_ci 5)), (47, (o_ld 6 0)), (49, (o_ast 100 0 (fun x => x))), (50, (o_st 7 2)), (52, (o_ci 1)), (53, (o_st 8 0)), (100000, o_go G Q mX12_isChain (d + 1) 55), (55, (o_ld 8 0)), (57, (o_ld 1 0)), (58, (o_if2 G Q mX12_isChain (d + 1) (fun a b => b ≤ a) 159)), (61, (o_ci 0)), (62, (o_st 9 0)), (64, (o_ci 0)), (65, (o_st 10 0)), (100000, o_go G Q mX12_isChain (d + 1) 67), (67, (o_ld 10 0)), (69, (o_ld 8 0)), (71, (o_if2 G Q mX12_isChain (d + 1) (fun a b => b ≤ a) 131)), (74, (o_ci 0)), (75, (o_st 11 0)), (100000, o_go G Q mX12_isChain (d + 1) 77), (77, (o_ld 11 0)), (79, (o_ld 10 0)), (81, (o_if2 G Q mX12_isChain (d + 1) (fun a b => b < a) 125)), (84, (o_ld 9 0)), (86, (o_if1 G Q mX12_isChain (d + 1) (fun x => ¬ x = 0) 112)), (89, (o_ld 7 2)), (91, (o_ld 10 0)), (93, (o_ald 100 0)), (94, (o_un 0 1 (fun a => a))), (95, (o_ld 7 2)), (97, (o_ld 11 0)), (99, (o_ald 100 0)), (100, (o_un 0 1 (fun a => a))), (101, (o_lbin (fun a b => w64 (a + b)))), (102, (o_ld 7 2)), (104, (o_ld 8 0)), (106, (o_ald 100 0)), (107, (o_un 0 1 (fun a => a))), (108, o_lcmp), (109, (o_if1 G Q mX12_isChain (d + 1) (fun x => ¬ x = 0) 116)), (100000, o_go G Q mX12_isChain (d + 1) 112), (112, (o_ci 1)), (113, (o_go G Q mX12_isChain (d + 1) 117)), (116, (o_ci 0)), (100000, o_go G Q mX12_isChain (d + 1) 117), (117, (o_st 9 0)), (119, (o_inc 11 1)), (122, (o_go G Q mX12_isChain (d + 1) 77)), (125, (o_inc 10 1)), (128, (o_go G Q mX12_isChain (d + 1) 67)), (131, (o_ld 9 0)), (133, (o_if1 G Q mX12_isChain (d + 1) (fun x => x = 0) 151)), (136, (o_ld 7 2)), (138, (o_ld 8 0)), (140, (o_ald 100 0)), (141, (o_ld 7 2)), (143, (o_ld 8 0)), (145, (o_ci 1)), (146, (o_bin (fun a b => w32 (a - b)))), (147, (o_ald 100 0)), (148, (o_if2 G Q mX12_isChain (d + 1) (fun a b => b < a) 153)), (100000, o_go G Q mX12_isChain (d + 1) 151), (151, (o_ci 0)), (152, (o_ret Q false)), (153, (o_inc 8 1)), (156, (o_go G Q mX12_isChain (d + 1) 55)), (159, (o_ci 1)), (160, (o_ret Q false))]
set_option maxRecDepth 100000 in
set_option maxHeartbeats 4000000 in
theorem kX12_isChain (G : ms_G) (Q : ms_Q) (d : Nat) : ms_Oc G Q mX12_isChain (d + 1) (tX12_isChain G Q d) :=
  ms_oc1 rfl (s_aload_n rfl dX12_isChain_0) <|
  ms_oc1 rfl (s_iconst dX12_isChain_1 (by decide)) <|
  ms_oc1 rfl (s_put (r := (RX12, TX12, 45)) rfl (by decide) rfl rfl (ms_nar0 rfl) (Or.inl rfl) kw_922 dX12_isChain_2) <|
  ms_oc1 rfl (s_iload_n rfl dX12_isChain_5) <|
  ms_oc1 rfl (s_i2l dX12_isChain_6) <|
  ms_oc1 rfl (s_lconst dX12_isChain_7 (by decide) (by decide)) <|
  ms_oc1 rfl (s_ldc2 dX12_isChain_8 kw_1197 (by decide) (by decide)) <|
  ms_oc1 rfl (s_invS kw_1062 kw_1063 kw_88 kw_1064 ⟨by decide +kernel, by decide +kernel, by decide +kernel⟩ (by decide) dX12_isChain_11) <|
  ms_oc1 rfl (s_ifne (by decide) dX12_isChain_14) <|
  ms_oc1 rfl (s_iconst dX12_isChain_17 (by decide)) <|
  ms_oc1 rfl (s_iret (b := false) rfl dX12_isChain_18) <|
  ms_oc1 rfl (s_bipush dX12_isChain_19 (by decide) (by decide)) <|
  ms_oc1 rfl (s_newa (ty := .int) rfl kw_153 dX12_isChain_21 (Or.inl ⟨rfl, rfl⟩)) <|
  ms_oc1 rfl (s_dup dX12_isChain_23) <|
  ms_oc1 rfl (s_iconst dX12_isChain_24 (by decide)) <|
  ms_oc1 rfl (s_iconst dX12_isChain_25 (by decide)) <|
  ms_oc1 rfl (s_iastore dX12_isChain_26) <|
  ms_oc1 rfl (s_dup dX12_isChain_27) <|
  ms_oc1 rfl (s_iconst dX12_isChain_28 (by decide)) <|
  ms_oc1 rfl (s_iload_n rfl dX12_isChain_29) <|
  ms_oc1 rfl (s_iastore dX12_isChain_30) <|
  ms_oc1 rfl (s_dup dX12_isChain_31) <|
  ms_oc1 rfl (s_iconst dX12_isChain_32 (by decide)) <|
  ms_oc1 rfl (s_iload_n rfl dX12_isChain_33) <|
  ms_oc1 rfl (s_iastore dX12_isChain_34) <|
  ms_oc1 rfl (s_dup dX12_isChain_35) <|
  ms_oc1 rfl (s_iconst dX12_isChain_36 (by decide)) <|
  ms_oc1 rfl (s_iload dX12_isChain_37) <|
  ms_oc1 rfl (s_iastore dX12_isChain_39) <|
  ms_oc1 rfl (s_dup dX12_isChain_40) <|
  ms_oc1 rfl (s_iconst dX12_isChain_41 (by decide)) <|
  ms_oc1 rfl (s_iload dX12_isChain_42) <|
  ms_oc1 rfl (s_iastore dX12_isChain_44) <|
  ms_oc1 rfl (s_dup dX12_isChain_45) <|
  ms_oc1 rfl (s_iconst dX12_isChain_46 (by decide)) <|
  ms_oc1 rfl (s_iload dX12_isChain_47) <|
  ms_oc1 rfl (s_iastore dX12_isChain_49) <|
  ms_oc1 rfl (s_astore (by decide) dX12_isChain_50) <|
  ms_oc1 rfl (s_iconst dX12_isChain_52 (by decide)) <|
  ms_occ (s_istore (by decide) dX12_isChain_53) <|
  ms_oc1 rfl (s_iload dX12_isChain_55) <|
  ms_oc1 rfl (s_iload_n rfl dX12_isChain_57) <|
  ms_oc1 rfl (s_icmpge (by decide) dX12_isChain_58) <|
  ms_oc1 rfl (s_iconst dX12_isChain_61 (by decide)) <|
  ms_oc1 rfl (s_istore (by decide) dX12_isChain_62) <|
  ms_oc1 rfl (s_iconst dX12_isChain_64 (by decide)) <|
  ms_occ (s_istore (by decide) dX12_isChain_65) <|
  ms_oc1 rfl (s_iload dX12_isChain_67) <|
  ms_oc1 rfl (s_iload dX12_isChain_69) <|
  ms_oc1 rfl (s_icmpge (by decide) dX12_isChain_71) <|
  ms_oc1 rfl (s_iconst dX12_isChain_74 (by decide)) <|
  ms_occ (s_istore (by decide) dX12_isChain_75) <|
  ms_oc1 rfl (s_iload dX12_isChain_77) <|
  ms_oc1 rfl (s_iload dX12_isChain_79) <|
  ms_oc1 rfl (s_icmpgt (by decide) dX12_isChain_81) <|
  ms_oc1 rfl (s_iload dX12_isChain_84) <|
  ms_oc1 rfl (s_ifne (by decide) dX12_isChain_86) <|
  ms_oc1 rfl (s_aload dX12_isChain_89) <|
  ms_oc1 rfl (s_iload dX12_isChain_91) <|
  ms_oc1 rfl (s_iaload dX12_isChain_93) <|
  ms_oc1 rfl (s_i2l dX12_isChain_94) <|
  ms_oc1 rfl (s_aload dX12_isChain_95) <|
  ms_oc1 rfl (s_iload dX12_isChain_97) <|
  ms_oc1 rfl (s_iaload dX12_isChain_99) <|
  ms_oc1 rfl (s_i2l dX12_isChain_100) <|
  ms_oc1 rfl (s_ladd dX12_isChain_101) <|
  ms_oc1 rfl (s_aload dX12_isChain_102) <|
  ms_oc1 rfl (s_iload dX12_isChain_104) <|
  ms_oc1 rfl (s_iaload dX12_isChain_106) <|
  ms_oc1 rfl (s_i2l dX12_isChain_107) <|
  ms_oc1 rfl (s_lcmp dX12_isChain_108) <|
  ms_occ (s_ifne (by decide) dX12_isChain_109) <|
  ms_oc1 rfl (s_iconst dX12_isChain_112 (by decide)) <|
  ms_oc1 rfl (s_goto (by decide) dX12_isChain_113) <|
  ms_occ (s_iconst dX12_isChain_116 (by decide)) <|
  ms_oc1 rfl (s_istore (by decide) dX12_isChain_117) <|
  ms_oc1 rfl (s_iinc (by decide) dX12_isChain_119) <|
  ms_oc1 rfl (s_goto (by decide) dX12_isChain_122) <|
  ms_oc1 rfl (s_iinc (by decide) dX12_isChain_125) <|
  ms_oc1 rfl (s_goto (by decide) dX12_isChain_128) <|
  ms_oc1 rfl (s_iload dX12_isChain_131) <|
  ms_oc1 rfl (s_ifeq (by decide) dX12_isChain_133) <|
  ms_oc1 rfl (s_aload dX12_isChain_136) <|
  ms_oc1 rfl (s_iload dX12_isChain_138) <|
  ms_oc1 rfl (s_iaload dX12_isChain_140) <|
  ms_oc1 rfl (s_aload dX12_isChain_141) <|
  ms_oc1 rfl (s_iload dX12_isChain_143) <|
  ms_oc1 rfl (s_iconst dX12_isChain_145 (by decide)) <|
  ms_oc1 rfl (s_isub dX12_isChain_146) <|
  ms_oc1 rfl (s_iaload dX12_isChain_147) <|
  ms_occ (s_icmpgt (by decide) dX12_isChain_148) <|
  ms_oc1 rfl (s_iconst dX12_isChain_151 (by decide)) <|
  ms_oc1 rfl (s_iret (b := false) rfl dX12_isChain_152) <|
  ms_oc1 rfl (s_iinc (by decide) dX12_isChain_153) <|
  ms_oc1 rfl (s_goto (by decide) dX12_isChain_156) <|
  ms_oc1 rfl (s_iconst dX12_isChain_159 (by decide)) <|
  ms_oc0 (s_iret (b := false) rfl dX12_isChain_160)
