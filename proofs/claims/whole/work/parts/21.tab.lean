def tX0_init (G : ms_G) (Q : ms_Q) (d : Nat) : List (Nat × ms_T) := [(0, (o_ld 0 2)), (1, o_oi), (4, (o_ld 0 2)), (5, (o_ci 64)), (7, (o_newa 100)), (9, (o_put 0 0 2)), (12, (o_vret Q))]
set_option maxRecDepth 100000 in
set_option maxHeartbeats 4000000 in
theorem kX0_init (G : ms_G) (Q : ms_Q) (d : Nat) : ms_Oc G Q mX0_init (d + 1) (tX0_init G Q d) :=
  ms_oc1 rfl (s_aload_n rfl dX0_init_0) <|
  ms_oc1 rfl (s_oi kw_300 kw_102 kw_103 dX0_init_1) <|
  ms_oc1 rfl (s_aload_n rfl dX0_init_4) <|
  ms_oc1 rfl (s_bipush dX0_init_5 (by decide) (by decide)) <|
  ms_oc1 rfl (s_newa (ty := .int) rfl kw_153 dX0_init_7 (Or.inl ⟨rfl, rfl⟩)) <|
  ms_oc1 rfl (s_put (r := (RX0, TX0, 2)) rfl (by decide) rfl rfl (ms_nar2 (fun r => by cases r <;> exact ⟨rfl, rfl⟩)) (Or.inr ⟨rfl, rfl⟩) kw_301 dX0_init_9) <|
  ms_oc0 (s_vret rfl dX0_init_12)

def tX0_make (G : ms_G) (Q : ms_Q) (d : Nat) : List (Nat × ms_T) := [(0, (o_ld 1 0)), (1, (o_ci 1)), (2, (o_if2 G Q mX0_make (d + 1) (fun a b => a < b) 21)), (5, (o_ld 1 0)), (6, (o_ci 9999)), (9, (o_if2 G Q mX0_make (d + 1) (fun a b => b < a) 21)), (12, (o_ld 2 0)), (13, (o_if1 G Q mX0_make (d + 1) (fun x => x < 0) 21)), (16, (o_ld 2 0)), (17, (o_ci 4)), (18, (o_if2 G Q mX0_make (d + 1) (fun a b => a < b) 23)), (100000, o_go G Q mX0_make (d + 1) 21), (21, (o_ci 0)), (22, (o_ret Q true)), (23, (o_ld 0 2)), (24, (o_ci 0)), (25, (o_put 0 1 0)), (28, (o_ld 0 2)), (29, (o_ci 1)), (30, (o_invV G d mX0_put 0 1 0 0)), (33, (o_ld 2 0)), (34, (o_sw G Q mX0_make (d + 1) (0) 2 [60, 68, 76] 86)), (60, (o_ld 0 2)), (61, (o_ld 1 0)), (62, (o_invV G d mX0_goBinary 0 1 0 0)), (65, (o_go G Q mX0_make (d + 1) 91)), (68, (o_ld 0 2)), (69, (o_ld 1 0)), (70, (o_invV G d mX0_goRight 0 1 0 0)), (73, (o_go G Q mX0_make (d + 1) 91)), (76, (o_ld 0 2)), (77, (o_ld 1 0)), (78, (o_ci 1)), (79, (o_ci 0)), (80, (o_invS G d mX0_goFactor 4 0 0)), (83, (o_go G Q mX0_make (d + 1) 91)), (86, (o_ld 0 2)), (87, (o_ld 1 0)), (88, (o_invV G d mX0_goThrees 0 1 0 0)), (100000, o_go G Q mX0_make (d + 1) 91), (91, (o_ci 1)), (92, (o_ret Q true))]
set_option maxRecDepth 100000 in
set_option maxHeartbeats 4000000 in
theorem kX0_make (G : ms_G) (Q : ms_Q) (d : Nat) : ms_Oc G Q mX0_make (d + 1) (tX0_make G Q d) :=
  ms_oc1 rfl (s_iload_n rfl dX0_make_0) <|
  ms_oc1 rfl (s_iconst dX0_make_1 (by decide)) <|
  ms_oc1 rfl (s_icmplt (by decide) dX0_make_2) <|
  ms_oc1 rfl (s_iload_n rfl dX0_make_5) <|
  ms_oc1 rfl (s_sipush dX0_make_6 (by decide) (by decide)) <|
  ms_oc1 rfl (s_icmpgt (by decide) dX0_make_9) <|
  ms_oc1 rfl (s_iload_n rfl dX0_make_12) <|
  ms_oc1 rfl (s_iflt (by decide) dX0_make_13) <|
  ms_oc1 rfl (s_iload_n rfl dX0_make_16) <|
  ms_oc1 rfl (s_iconst dX0_make_17 (by decide)) <|
  ms_occ (s_icmplt (by decide) dX0_make_18) <|
  ms_oc1 rfl (s_iconst dX0_make_21 (by decide)) <|
  ms_oc1 rfl (s_iret (b := true) rfl dX0_make_22) <|
  ms_oc1 rfl (s_aload_n rfl dX0_make_23) <|
  ms_oc1 rfl (s_iconst dX0_make_24 (by decide)) <|
  ms_oc1 rfl (s_put (r := (RX0, TX0, 2)) rfl (by decide) rfl rfl (ms_nar0 rfl) (Or.inl rfl) kw_303 dX0_make_25) <|
  ms_oc1 rfl (s_aload_n rfl dX0_make_28) <|
  ms_oc1 rfl (s_iconst dX0_make_29 (by decide)) <|
  ms_oc1 rfl (s_invV (r := (RX0, TX0, 2)) rfl rfl kw_753 kw_755 kw_30 kw_86 kw_756 ⟨by decide +kernel, by decide +kernel, by decide +kernel⟩ (by decide) dX0_make_30) <|
  ms_oc1 rfl (s_iload_n rfl dX0_make_33) <|
  ms_oc1 rfl (s_tsw dX0_make_34 (by decide) (by decide) (by decide)) <|
  ms_oc1 rfl (s_aload_n rfl dX0_make_60) <|
  ms_oc1 rfl (s_iload_n rfl dX0_make_61) <|
  ms_oc1 rfl (s_invV (r := (RX0, TX0, 2)) rfl rfl kw_757 kw_759 kw_31 kw_86 kw_760 ⟨by decide +kernel, by decide +kernel, by decide +kernel⟩ (by decide) dX0_make_62) <|
  ms_oc1 rfl (s_goto (by decide) dX0_make_65) <|
  ms_oc1 rfl (s_aload_n rfl dX0_make_68) <|
  ms_oc1 rfl (s_iload_n rfl dX0_make_69) <|
  ms_oc1 rfl (s_invV (r := (RX0, TX0, 2)) rfl rfl kw_762 kw_764 kw_32 kw_86 kw_765 ⟨by decide +kernel, by decide +kernel, by decide +kernel⟩ (by decide) dX0_make_70) <|
  ms_oc1 rfl (s_goto (by decide) dX0_make_73) <|
  ms_oc1 rfl (s_aload_n rfl dX0_make_76) <|
  ms_oc1 rfl (s_iload_n rfl dX0_make_77) <|
  ms_oc1 rfl (s_iconst dX0_make_78 (by decide)) <|
  ms_oc1 rfl (s_iconst dX0_make_79 (by decide)) <|
  ms_oc1 rfl (s_invS kw_766 kw_767 kw_86 kw_768 ⟨by decide +kernel, by decide +kernel, by decide +kernel⟩ (by decide) dX0_make_80) <|
  ms_oc1 rfl (s_goto (by decide) dX0_make_83) <|
  ms_oc1 rfl (s_aload_n rfl dX0_make_86) <|
  ms_oc1 rfl (s_iload_n rfl dX0_make_87) <|
  ms_occ (s_invV (r := (RX0, TX0, 2)) rfl rfl kw_772 kw_774 kw_33 kw_86 kw_775 ⟨by decide +kernel, by decide +kernel, by decide +kernel⟩ (by decide) dX0_make_88) <|
  ms_oc1 rfl (s_iconst dX0_make_91 (by decide)) <|
  ms_oc0 (s_iret (b := true) rfl dX0_make_92)

def tX0_goBinary (G : ms_G) (Q : ms_Q) (d : Nat) : List (Nat × ms_T) := [(0, (o_ci 1)), (1, (o_st 2 0)), (2, (o_ld 1 0)), (3, (o_invS G d mX11_highestBitOf 1 0 0)), (6, (o_ci 1)), (7, (o_bin (fun a b => w32 (a - b)))), (8, (o_st 3 0)), (100000, o_go G Q mX0_goBinary (d + 1) 9), (9, (o_ld 3 0)), (10, (o_if1 G Q mX0_goBinary (d + 1) (fun x => x < 0) 46)), (13, (o_ci 2)), (14, (o_ld 2 0)), (15, (o_bin (fun a b => w32 (a * b)))), (16, (o_st 2 0)), (17, (o_ld 0 2)), (18, (o_ld 2 0)), (19, (o_invV G d mX0_put 0 1 0 0)), (22, (o_ld 1 0)), (23, (o_ld 3 0)), (24, (o_bin wshr)), (25, (o_ci 1)), (26, (o_bin wand)), (27, (o_ci 1)), (28, (o_if2 G Q mX0_goBinary (d + 1) (fun a b => ¬ a = b) 40)), (31, (o_ld 2 0)), (32, (o_ci 1)), (33, (o_bin (fun a b => w32 (a + b)))), (34, (o_st 2 0)), (35, (o_ld 0 2)), (36, (o_ld 2 0)), (37, (o_invV G d mX0_put 0 1 0 0)), (100000, o_go G Q mX0_goBinary (d + 1) 40), (40, (o_inc 3 (-1))), (43, (o_go G Q mX0_goBinary (d + 1) 9)), (46, (o_vret Q))]
set_option maxRecDepth 100000 in
set_option maxHeartbeats 4000000 in
theorem kX0_goBinary (G : ms_G) (Q : ms_Q) (d : Nat) : ms_Oc G Q mX0_goBinary (d + 1) (tX0_goBinary G Q d) :=
  ms_oc1 rfl (s_iconst dX0_goBinary_0 (by decide)) <|
  ms_oc1 rfl (s_istore_n rfl (by decide) dX0_goBinary_1) <|
  ms_oc1 rfl (s_iload_n rfl dX0_goBinary_2) <|
  ms_oc1 rfl (s_invSN kw_761 kw_511 kw_76 kw_512 ⟨by decide +kernel, by decide +kernel, by decide +kernel⟩ (by decide) dX0_goBinary_3) <|
  ms_oc1 rfl (s_iconst dX0_goBinary_6 (by decide)) <|
  ms_oc1 rfl (s_isub dX0_goBinary_7) <|
  ms_occ (s_istore_n rfl (by decide) dX0_goBinary_8) <|
  ms_oc1 rfl (s_iload_n rfl dX0_goBinary_9) <|
  ms_oc1 rfl (s_iflt (by decide) dX0_goBinary_10) <|
  ms_oc1 rfl (s_iconst dX0_goBinary_13 (by decide)) <|
  ms_oc1 rfl (s_iload_n rfl dX0_goBinary_14) <|
  ms_oc1 rfl (s_imul dX0_goBinary_15) <|
  ms_oc1 rfl (s_istore_n rfl (by decide) dX0_goBinary_16) <|
  ms_oc1 rfl (s_aload_n rfl dX0_goBinary_17) <|
  ms_oc1 rfl (s_iload_n rfl dX0_goBinary_18) <|
  ms_oc1 rfl (s_invV (r := (RX0, TX0, 2)) rfl rfl kw_753 kw_755 kw_30 kw_86 kw_756 ⟨by decide +kernel, by decide +kernel, by decide +kernel⟩ (by decide) dX0_goBinary_19) <|
  ms_oc1 rfl (s_iload_n rfl dX0_goBinary_22) <|
  ms_oc1 rfl (s_iload_n rfl dX0_goBinary_23) <|
  ms_oc1 rfl (s_ishr dX0_goBinary_24) <|
  ms_oc1 rfl (s_iconst dX0_goBinary_25 (by decide)) <|
  ms_oc1 rfl (s_iand dX0_goBinary_26) <|
  ms_oc1 rfl (s_iconst dX0_goBinary_27 (by decide)) <|
  ms_oc1 rfl (s_icmpne (by decide) dX0_goBinary_28) <|
  ms_oc1 rfl (s_iload_n rfl dX0_goBinary_31) <|
  ms_oc1 rfl (s_iconst dX0_goBinary_32 (by decide)) <|
  ms_oc1 rfl (s_iadd dX0_goBinary_33) <|
  ms_oc1 rfl (s_istore_n rfl (by decide) dX0_goBinary_34) <|
  ms_oc1 rfl (s_aload_n rfl dX0_goBinary_35) <|
  ms_oc1 rfl (s_iload_n rfl dX0_goBinary_36) <|
  ms_occ (s_invV (r := (RX0, TX0, 2)) rfl rfl kw_753 kw_755 kw_30 kw_86 kw_756 ⟨by decide +kernel, by decide +kernel, by decide +kernel⟩ (by decide) dX0_goBinary_37) <|
  ms_oc1 rfl (s_iinc (by decide) dX0_goBinary_40) <|
  ms_oc1 rfl (s_goto (by decide) dX0_goBinary_43) <|
  ms_oc0 (s_vret rfl dX0_goBinary_46)

def tX0_goRight (G : ms_G) (Q : ms_Q) (d : Nat) : List (Nat × ms_T) := [(0, (o_ci 0)), (1, (o_st 2 0)), (2, (o_ci 0)), (3, (o_st 3 0)), (100000, o_go G Q mX0_goRight (d + 1) 4), (4, (o_ld 3 0)), (5, (o_ld 1 0)), (6, (o_invS G d mX11_highestBitOf 1 0 0)), (9, (o_if2 G Q mX0_goRight (d + 1) (fun a b => b < a) 45)), (12, (o_ld 0 2)), (13, (o_ci 1)), (14, (o_ld 3 0)), (15, (o_bin wshl)), (16, (o_invV G d mX0_put 0 1 0 0)), (19, (o_ld 1 0)), (20, (o_ld 3 0)), (21, (o_bin wshr)), (22, (o_ci 1)), (23, (o_bin wand)), (24, (o_ci 1)), (25, (o_if2 G Q mX0_goRight (d + 1) (fun a b => ¬ a = b) 39)), (28, (o_ld 2 0)), (29, (o_ci 1)), (30, (o_ld 3 0)), (31, (o_bin wshl)), (32, (o_bin (fun a b => w32 (a + b)))), (33, (o_st 2 0)), (34, (o_ld 0 2)), (35, (o_ld 2 0)), (36, (o_invV G d mX0_put 0 1 0 0)), (100000, o_go G Q mX0_goRight (d + 1) 39), (39, (o_inc 3 1)), (42, (o_go G Q mX0_goRight (d + 1) 4)), (45, (o_vret Q))]
set_option maxRecDepth 100000 in
set_option maxHeartbeats 4000000 in
theorem kX0_goRight (G : ms_G) (Q : ms_Q) (d : Nat) : ms_Oc G Q mX0_goRight (d + 1) (tX0_goRight G Q d) :=
  ms_oc1 rfl (s_iconst dX0_goRight_0 (by decide)) <|
  ms_oc1 rfl (s_istore_n rfl (by decide) dX0_goRight_1) <|
  ms_oc1 rfl (s_iconst dX0_goRight_2 (by decide)) <|
  ms_occ (s_istore_n rfl (by decide) dX0_goRight_3) <|
  ms_oc1 rfl (s_iload_n rfl dX0_goRight_4) <|
  ms_oc1 rfl (s_iload_n rfl dX0_goRight_5) <|
  ms_oc1 rfl (s_invSN kw_761 kw_511 kw_76 kw_512 ⟨by decide +kernel, by decide +kernel, by decide +kernel⟩ (by decide) dX0_goRight_6) <|
  ms_oc1 rfl (s_icmpgt (by decide) dX0_goRight_9) <|
  ms_oc1 rfl (s_aload_n rfl dX0_goRight_12) <|
  ms_oc1 rfl (s_iconst dX0_goRight_13 (by decide)) <|
  ms_oc1 rfl (s_iload_n rfl dX0_goRight_14) <|
  ms_oc1 rfl (s_ishl dX0_goRight_15) <|
  ms_oc1 rfl (s_invV (r := (RX0, TX0, 2)) rfl rfl kw_753 kw_755 kw_30 kw_86 kw_756 ⟨by decide +kernel, by decide +kernel, by decide +kernel⟩ (by decide) dX0_goRight_16) <|
  ms_oc1 rfl (s_iload_n rfl dX0_goRight_19) <|
  ms_oc1 rfl (s_iload_n rfl dX0_goRight_20) <|
  ms_oc1 rfl (s_ishr dX0_goRight_21) <|
  ms_oc1 rfl (s_iconst dX0_goRight_22 (by decide)) <|
  ms_oc1 rfl (s_iand dX0_goRight_23) <|
  ms_oc1 rfl (s_iconst dX0_goRight_24 (by decide)) <|
  ms_oc1 rfl (s_icmpne (by decide) dX0_goRight_25) <|
  ms_oc1 rfl (s_iload_n rfl dX0_goRight_28) <|
  ms_oc1 rfl (s_iconst dX0_goRight_29 (by decide)) <|
  ms_oc1 rfl (s_iload_n rfl dX0_goRight_30) <|
  ms_oc1 rfl (s_ishl dX0_goRight_31) <|
  ms_oc1 rfl (s_iadd dX0_goRight_32) <|
  ms_oc1 rfl (s_istore_n rfl (by decide) dX0_goRight_33) <|
  ms_oc1 rfl (s_aload_n rfl dX0_goRight_34) <|
  ms_oc1 rfl (s_iload_n rfl dX0_goRight_35) <|
  ms_occ (s_invV (r := (RX0, TX0, 2)) rfl rfl kw_753 kw_755 kw_30 kw_86 kw_756 ⟨by decide +kernel, by decide +kernel, by decide +kernel⟩ (by decide) dX0_goRight_36) <|
  ms_oc1 rfl (s_iinc (by decide) dX0_goRight_39) <|
  ms_oc1 rfl (s_goto (by decide) dX0_goRight_42) <|
  ms_oc0 (s_vret rfl dX0_goRight_45)

def tX0_goFactor (G : ms_G) (Q : ms_Q) (d : Nat) : List (Nat × ms_T) := [(0, (o_ld 1 0)), (1, (o_ci 1)), (2, (o_if2 G Q mX0_goFactor (d + 1) (fun a b => a ≤ b) 11)), (5, (o_ld 3 0)), (6, (o_ci 40)), (8, (o_if2 G Q mX0_goFactor (d + 1) (fun a b => a ≤ b) 12)), (100000, o_go G Q mX0_goFactor (d + 1) 11), (11, (o_vret Q)), (12, (o_ld 1 0)), (13, (o_invS G d mX0_leastPrimeOf 1 0 0)), (16, (o_st 4 0)), (18, (o_ld 4 0)), (20, (o_ld 1 0)), (21, (o_if2 G Q mX0_goFactor (d + 1) (fun a b => ¬ a = b) 45)), (24, (o_ld 0 2)), (25, (o_ld 1 0)), (26, (o_ci 1)), (27, (o_bin (fun a b => w32 (a - b)))), (28, (o_ld 2 0)), (29, (o_ld 3 0)), (30, (o_ci 1)), (31, (o_bin (fun a b => w32 (a + b)))), (32, (o_invS G d mX0_goFactor 4 0 0)), (35, (o_ld 0 2)), (36, (o_ld 2 0)), (37, (o_ld 1 0)), (38, (o_bin (fun a b => w32 (a * b)))), (39, (o_invV G d mX0_put 0 1 0 0)), (42, (o_go G Q mX0_goFactor (d + 1) 70)), (45, (o_ld 0 2)), (46, (o_ld 4 0)), (48, (o_ld 2 0)), (49, (o_ld 3 0)), (50, (o_ci 1)), (51, (o_bin (fun a b => w32 (a + b)))), (52, (o_invS G d mX0_goFactor 4 0 0)), (55, (o_ld 0 2)), (56, (o_ld 1 0)), (57, (o_ld 4 0)), (59, (o_dv wdiv)), (60, (o_ld 2 0)), (61, (o_ld 4 0)), (63, (o_bin (fun a b => w32 (a * b)))), (64, (o_ld 3 0)), (65, (o_ci 1)), (66, (o_bin (fun a b => w32 (a + b)))), (67, (o_invS G d mX0_goFactor 4 0 0)), (100000, o_go G Q mX0_goFactor (d + 1) 70), (70, (o_vret Q))]
set_option maxRecDepth 100000 in
set_option maxHeartbeats 4000000 in
theorem kX0_goFactor (G : ms_G) (Q : ms_Q) (d : Nat) : ms_Oc G Q mX0_goFactor (d + 1) (tX0_goFactor G Q d) :=
  ms_oc1 rfl (s_iload_n rfl dX0_goFactor_0) <|
  ms_oc1 rfl (s_iconst dX0_goFactor_1 (by decide)) <|
  ms_oc1 rfl (s_icmple (by decide) dX0_goFactor_2) <|
  ms_oc1 rfl (s_iload_n rfl dX0_goFactor_5) <|
  ms_oc1 rfl (s_bipush dX0_goFactor_6 (by decide) (by decide)) <|
  ms_occ (s_icmple (by decide) dX0_goFactor_8) <|
  ms_oc1 rfl (s_vret rfl dX0_goFactor_11) <|
  ms_oc1 rfl (s_iload_n rfl dX0_goFactor_12) <|
  ms_oc1 rfl (s_invS kw_769 kw_770 kw_86 kw_771 ⟨by decide +kernel, by decide +kernel, by decide +kernel⟩ (by decide) dX0_goFactor_13) <|
  ms_oc1 rfl (s_istore (by decide) dX0_goFactor_16) <|
  ms_oc1 rfl (s_iload dX0_goFactor_18) <|
  ms_oc1 rfl (s_iload_n rfl dX0_goFactor_20) <|
  ms_oc1 rfl (s_icmpne (by decide) dX0_goFactor_21) <|
  ms_oc1 rfl (s_aload_n rfl dX0_goFactor_24) <|
  ms_oc1 rfl (s_iload_n rfl dX0_goFactor_25) <|
  ms_oc1 rfl (s_iconst dX0_goFactor_26 (by decide)) <|
  ms_oc1 rfl (s_isub dX0_goFactor_27) <|
  ms_oc1 rfl (s_iload_n rfl dX0_goFactor_28) <|
  ms_oc1 rfl (s_iload_n rfl dX0_goFactor_29) <|
  ms_oc1 rfl (s_iconst dX0_goFactor_30 (by decide)) <|
  ms_oc1 rfl (s_iadd dX0_goFactor_31) <|
  ms_oc1 rfl (s_invS kw_766 kw_767 kw_86 kw_768 ⟨by decide +kernel, by decide +kernel, by decide +kernel⟩ (by decide) dX0_goFactor_32) <|
  ms_oc1 rfl (s_aload_n rfl dX0_goFactor_35) <|
  ms_oc1 rfl (s_iload_n rfl dX0_goFactor_36) <|
  ms_oc1 rfl (s_iload_n rfl dX0_goFactor_37) <|
  ms_oc1 rfl (s_imul dX0_goFactor_38) <|
  ms_oc1 rfl (s_invV (r := (RX0, TX0, 2)) rfl rfl kw_753 kw_755 kw_30 kw_86 kw_756 ⟨by decide +kernel, by decide +kernel, by decide +kernel⟩ (by decide) dX0_goFactor_39) <|
  ms_oc1 rfl (s_goto (by decide) dX0_goFactor_42) <|
  ms_oc1 rfl (s_aload_n rfl dX0_goFactor_45) <|
  ms_oc1 rfl (s_iload dX0_goFactor_46) <|
  ms_oc1 rfl (s_iload_n rfl dX0_goFactor_48) <|
  ms_oc1 rfl (s_iload_n rfl dX0_goFactor_49) <|
  ms_oc1 rfl (s_iconst dX0_goFactor_50 (by decide)) <|
  ms_oc1 rfl (s_iadd dX0_goFactor_51) <|
  ms_oc1 rfl (s_invS kw_766 kw_767 kw_86 kw_768 ⟨by decide +kernel, by decide +kernel, by decide +kernel⟩ (by decide) dX0_goFactor_52) <|
  ms_oc1 rfl (s_aload_n rfl dX0_goFactor_55) <|
  ms_oc1 rfl (s_iload_n rfl dX0_goFactor_56) <|
  ms_oc1 rfl (s_iload dX0_goFactor_57) <|
  ms_oc1 rfl (s_idiv dX0_goFactor_59) <|
  ms_oc1 rfl (s_iload_n rfl dX0_goFactor_60) <|
  ms_oc1 rfl (s_iload dX0_goFactor_61) <|
  ms_oc1 rfl (s_imul dX0_goFactor_63) <|
  ms_oc1 rfl (s_iload_n rfl dX0_goFactor_64) <|
  ms_oc1 rfl (s_iconst dX0_goFactor_65 (by decide)) <|
  ms_oc1 rfl (s_iadd dX0_goFactor_66) <|
  ms_occ (s_invS kw_766 kw_767 kw_86 kw_768 ⟨by decide +kernel, by decide +kernel, by decide +kernel⟩ (by decide) dX0_goFactor_67) <|
  ms_oc0 (s_vret rfl dX0_goFactor_70)

def tX0_leastPrimeOf (G : ms_G) (Q : ms_Q) (d : Nat) : List (Nat × ms_T) := [(0, (o_ci 2)), (1, (o_st 1 0)), (100000, o_go G Q mX0_leastPrimeOf (d + 1) 2), (2, (o_ld 1 0)), (3, (o_ld 1 0)), (4, (o_bin (fun a b => w32 (a * b)))), (5, (o_ld 0 0)), (6, (o_if2 G Q mX0_leastPrimeOf (d + 1) (fun a b => b < a) 23)), (9, (o_ld 0 0)), (10, (o_ld 1 0)), (11, (o_dv wrem)), (12, (o_if1 G Q mX0_leastPrimeOf (d + 1) (fun x => ¬ x = 0) 17)), (15, (o_ld 1 0)), (16, (o_ret Q false)), (17, (o_inc 1 1)), (20, (o_go G Q mX0_leastPrimeOf (d + 1) 2)), (23, (o_ld 0 0)), (24, (o_ret Q false))]
set_option maxRecDepth 100000 in
set_option maxHeartbeats 4000000 in
theorem kX0_leastPrimeOf (G : ms_G) (Q : ms_Q) (d : Nat) : ms_Oc G Q mX0_leastPrimeOf (d + 1) (tX0_leastPrimeOf G Q d) :=
  ms_oc1 rfl (s_iconst dX0_leastPrimeOf_0 (by decide)) <|
  ms_occ (s_istore_n rfl (by decide) dX0_leastPrimeOf_1) <|
  ms_oc1 rfl (s_iload_n rfl dX0_leastPrimeOf_2) <|
  ms_oc1 rfl (s_iload_n rfl dX0_leastPrimeOf_3) <|
  ms_oc1 rfl (s_imul dX0_leastPrimeOf_4) <|
  ms_oc1 rfl (s_iload_n rfl dX0_leastPrimeOf_5) <|
  ms_oc1 rfl (s_icmpgt (by decide) dX0_leastPrimeOf_6) <|
  ms_oc1 rfl (s_iload_n rfl dX0_leastPrimeOf_9) <|
  ms_oc1 rfl (s_iload_n rfl dX0_leastPrimeOf_10) <|
  ms_oc1 rfl (s_irem dX0_leastPrimeOf_11) <|
  ms_oc1 rfl (s_ifne (by decide) dX0_leastPrimeOf_12) <|
  ms_oc1 rfl (s_iload_n rfl dX0_leastPrimeOf_15) <|
  ms_oc1 rfl (s_iret (b := false) rfl dX0_leastPrimeOf_16) <|
  ms_oc1 rfl (s_iinc (by decide) dX0_leastPrimeOf_17) <|
  ms_oc1 rfl (s_goto (by decide) dX0_leastPrimeOf_20) <|
  ms_oc1 rfl (s_iload_n rfl dX0_leastPrimeOf_23) <|
  ms_oc0 (s_iret (b := false) rfl dX0_leastPrimeOf_24)

def tX0_goThrees (G : ms_G) (Q : ms_Q) (d : Nat) : List (Nat × ms_T) := [(0, (o_ld 1 0)), (1, (o_ci 4)), (2, (o_if2 G Q mX0_goThrees (d + 1) (fun a b => b ≤ a) 11)), (5, (o_ld 0 2)), (6, (o_ld 1 0)), (7, (o_invV G d mX0_goBinary 0 1 0 0)), (10, (o_vret Q)), (11, (o_ld 0 2)), (12, (o_ci 2)), (13, (o_invV G d mX0_put 0 1 0 0)), (16, (o_ld 0 2)), (17, (o_ci 3)), (18, (o_invV G d mX0_put 0 1 0 0)), (21, (o_ld 1 0)), (22, (o_invS G d mX11_highestBitOf 1 0 0)), (25, (o_ci 2)), (26, (o_dv wdiv)), (27, (o_ci 2)), (28, (o_bin (fun a b => w32 (a * b)))), (29, (o_st 2 0)), (30, (o_ld 1 0)), (31, (o_ld 2 0)), (32, (o_bin wshr)), (33, (o_st 3 0)), (34, (o_inc 2 (-2))), (100000, o_go G Q mX0_goThrees (d + 1) 37), (37, (o_ld 2 0)), (38, (o_if1 G Q mX0_goThrees (d + 1) (fun x => x < 0) 70)), (41, (o_ld 0 2)), (42, (o_ci 2)), (43, (o_ld 3 0)), (44, (o_bin (fun a b => w32 (a * b)))), (45, (o_invV G d mX0_put 0 1 0 0)), (48, (o_ld 0 2)), (49, (o_ci 4)), (50, (o_ld 3 0)), (51, (o_bin (fun a b => w32 (a * b)))), (52, (o_invV G d mX0_put 0 1 0 0)), (55, (o_ld 1 0)), (56, (o_ld 2 0)), (57, (o_bin wshr)), (58, (o_st 3 0)), (59, (o_ld 0 2)), (60, (o_ld 3 0)), (61, (o_invV G d mX0_put 0 1 0 0)), (64, (o_inc 2 (-2))), (67, (o_go G Q mX0_goThrees (d + 1) 37)), (70, (o_vret Q))]
set_option maxRecDepth 100000 in
set_option maxHeartbeats 4000000 in
theorem kX0_goThrees (G : ms_G) (Q : ms_Q) (d : Nat) : ms_Oc G Q mX0_goThrees (d + 1) (tX0_goThrees G Q d) :=
  ms_oc1 rfl (s_iload_n rfl dX0_goThrees_0) <|
  ms_oc1 rfl (s_iconst dX0_goThrees_1 (by decide)) <|
  ms_oc1 rfl (s_icmpge (by decide) dX0_goThrees_2) <|
  ms_oc1 rfl (s_aload_n rfl dX0_goThrees_5) <|
  ms_oc1 rfl (s_iload_n rfl dX0_goThrees_6) <|
  ms_oc1 rfl (s_invV (r := (RX0, TX0, 2)) rfl rfl kw_757 kw_759 kw_31 kw_86 kw_760 ⟨by decide +kernel, by decide +kernel, by decide +kernel⟩ (by decide) dX0_goThrees_7) <|
  ms_oc1 rfl (s_vret rfl dX0_goThrees_10) <|
  ms_oc1 rfl (s_aload_n rfl dX0_goThrees_11) <|
  ms_oc1 rfl (s_iconst dX0_goThrees_12 (by decide)) <|
  ms_oc1 rfl (s_invV (r := (RX0, TX0, 2)) rfl rfl kw_753 kw_755 kw_30 kw_86 kw_756 ⟨by decide +kernel, by decide +kernel, by decide +kernel⟩ (by decide) dX0_goThrees_13) <|
  ms_oc1 rfl (s_aload_n rfl dX0_goThrees_16) <|
  ms_oc1 rfl (s_iconst dX0_goThrees_17 (by decide)) <|
  ms_oc1 rfl (s_invV (r := (RX0, TX0, 2)) rfl rfl kw_753 kw_755 kw_30 kw_86 kw_756 ⟨by decide +kernel, by decide +kernel, by decide +kernel⟩ (by decide) dX0_goThrees_18) <|
  ms_oc1 rfl (s_iload_n rfl dX0_goThrees_21) <|
  ms_oc1 rfl (s_invSN kw_761 kw_511 kw_76 kw_512 ⟨by decide +kernel, by decide +kernel, by decide +kernel⟩ (by decide) dX0_goThrees_22) <|
  ms_oc1 rfl (s_iconst dX0_goThrees_25 (by decide)) <|
  ms_oc1 rfl (s_idiv dX0_goThrees_26) <|
  ms_oc1 rfl (s_iconst dX0_goThrees_27 (by decide)) <|
  ms_oc1 rfl (s_imul dX0_goThrees_28) <|
  ms_oc1 rfl (s_istore_n rfl (by decide) dX0_goThrees_29) <|
  ms_oc1 rfl (s_iload_n rfl dX0_goThrees_30) <|
  ms_oc1 rfl (s_iload_n rfl dX0_goThrees_31) <|
  ms_oc1 rfl (s_ishr dX0_goThrees_32) <|
  ms_oc1 rfl (s_istore_n rfl (by decide) dX0_goThrees_33) <|
  ms_occ (s_iinc (by decide) dX0_goThrees_34) <|
  ms_oc1 rfl (s_iload_n rfl dX0_goThrees_37) <|
  ms_oc1 rfl (s_iflt (by decide) dX0_goThrees_38) <|
  ms_oc1 rfl (s_aload_n rfl dX0_goThrees_41) <|
  ms_oc1 rfl (s_iconst dX0_goThrees_42 (by decide)) <|
  ms_oc1 rfl (s_iload_n rfl dX0_goThrees_43) <|
  ms_oc1 rfl (s_imul dX0_goThrees_44) <|
  ms_oc1 rfl (s_invV (r := (RX0, TX0, 2)) rfl rfl kw_753 kw_755 kw_30 kw_86 kw_756 ⟨by decide +kernel, by decide +kernel, by decide +kernel⟩ (by decide) dX0_goThrees_45) <|
  ms_oc1 rfl (s_aload_n rfl dX0_goThrees_48) <|
  ms_oc1 rfl (s_iconst dX0_goThrees_49 (by decide)) <|
  ms_oc1 rfl (s_iload_n rfl dX0_goThrees_50) <|
  ms_oc1 rfl (s_imul dX0_goThrees_51) <|
  ms_oc1 rfl (s_invV (r := (RX0, TX0, 2)) rfl rfl kw_753 kw_755 kw_30 kw_86 kw_756 ⟨by decide +kernel, by decide +kernel, by decide +kernel⟩ (by decide) dX0_goThrees_52) <|
  ms_oc1 rfl (s_iload_n rfl dX0_goThrees_55) <|
  ms_oc1 rfl (s_iload_n rfl dX0_goThrees_56) <|
  ms_oc1 rfl (s_ishr dX0_goThrees_57) <|
  ms_oc1 rfl (s_istore_n rfl (by decide) dX0_goThrees_58) <|
  ms_oc1 rfl (s_aload_n rfl dX0_goThrees_59) <|
  ms_oc1 rfl (s_iload_n rfl dX0_goThrees_60) <|
  ms_oc1 rfl (s_invV (r := (RX0, TX0, 2)) rfl rfl kw_753 kw_755 kw_30 kw_86 kw_756 ⟨by decide +kernel, by decide +kernel, by decide +kernel⟩ (by decide) dX0_goThrees_61) <|
  ms_oc1 rfl (s_iinc (by decide) dX0_goThrees_64) <|
  ms_oc1 rfl (s_goto (by decide) dX0_goThrees_67) <|
  ms_oc0 (s_vret rfl dX0_goThrees_70)

def tX0_put (G : ms_G) (Q : ms_Q) (d : Nat) : List (Nat × ms_T) := [(0, (o_ld 0 2)), (1, (o_get 0 1 0)), (4, (o_ci 64)), (6, (o_if2 G Q mX0_put (d + 1) (fun a b => b ≤ a) 51)), (9, (o_ld 0 2)), (10, (o_get 0 1 0)), (13, (o_if1 G Q mX0_put (d + 1) (fun x => x = 0) 31)), (16, (o_ld 1 0)), (17, (o_ld 0 2)), (18, (o_get 0 0 2)), (21, (o_ld 0 2)), (22, (o_get 0 1 0)), (25, (o_ci 1)), (26, (o_bin (fun a b => w32 (a - b)))), (27, (o_ald 100 0)), (28, (o_if2 G Q mX0_put (d + 1) (fun a b => a ≤ b) 51)), (100000, o_go G Q mX0_put (d + 1) 31), (31, (o_ld 0 2)), (32, (o_get 0 0 2)), (35, (o_ld 0 2)), (36, (o_get 0 1 0)), (39, (o_ld 1 0)), (40, (o_ast 100 0 (fun x => x))), (41, (o_ld 0 2)), (42, o_dup), (43, (o_get 0 1 0)), (46, (o_ci 1)), (47, (o_bin (fun a b => w32 (a + b)))), (48, (o_put 0 1 0)), (100000, o_go G Q mX0_put (d + 1) 51), (51, (o_vret Q))]
set_option maxRecDepth 100000 in
set_option maxHeartbeats 4000000 in
theorem kX0_put (G : ms_G) (Q : ms_Q) (d : Nat) : ms_Oc G Q mX0_put (d + 1) (tX0_put G Q d) :=
  ms_oc1 rfl (s_aload_n rfl dX0_put_0) <|
  ms_oc1 rfl (s_get (r := (RX0, TX0, 2)) rfl (by decide) rfl rfl kw_303 dX0_put_1) <|
  ms_oc1 rfl (s_bipush dX0_put_4 (by decide) (by decide)) <|
  ms_oc1 rfl (s_icmpge (by decide) dX0_put_6) <|
  ms_oc1 rfl (s_aload_n rfl dX0_put_9) <|
  ms_oc1 rfl (s_get (r := (RX0, TX0, 2)) rfl (by decide) rfl rfl kw_303 dX0_put_10) <|
  ms_oc1 rfl (s_ifeq (by decide) dX0_put_13) <|
  ms_oc1 rfl (s_iload_n rfl dX0_put_16) <|
  ms_oc1 rfl (s_aload_n rfl dX0_put_17) <|
  ms_oc1 rfl (s_get (r := (RX0, TX0, 2)) rfl (by decide) rfl rfl kw_301 dX0_put_18) <|
  ms_oc1 rfl (s_aload_n rfl dX0_put_21) <|
  ms_oc1 rfl (s_get (r := (RX0, TX0, 2)) rfl (by decide) rfl rfl kw_303 dX0_put_22) <|
  ms_oc1 rfl (s_iconst dX0_put_25 (by decide)) <|
  ms_oc1 rfl (s_isub dX0_put_26) <|
  ms_oc1 rfl (s_iaload dX0_put_27) <|
  ms_occ (s_icmple (by decide) dX0_put_28) <|
  ms_oc1 rfl (s_aload_n rfl dX0_put_31) <|
  ms_oc1 rfl (s_get (r := (RX0, TX0, 2)) rfl (by decide) rfl rfl kw_301 dX0_put_32) <|
  ms_oc1 rfl (s_aload_n rfl dX0_put_35) <|
  ms_oc1 rfl (s_get (r := (RX0, TX0, 2)) rfl (by decide) rfl rfl kw_303 dX0_put_36) <|
  ms_oc1 rfl (s_iload_n rfl dX0_put_39) <|
  ms_oc1 rfl (s_iastore dX0_put_40) <|
  ms_oc1 rfl (s_aload_n rfl dX0_put_41) <|
  ms_oc1 rfl (s_dup dX0_put_42) <|
  ms_oc1 rfl (s_get (r := (RX0, TX0, 2)) rfl (by decide) rfl rfl kw_303 dX0_put_43) <|
  ms_oc1 rfl (s_iconst dX0_put_46 (by decide)) <|
  ms_oc1 rfl (s_iadd dX0_put_47) <|
  ms_occ (s_put (r := (RX0, TX0, 2)) rfl (by decide) rfl rfl (ms_nar0 rfl) (Or.inl rfl) kw_303 dX0_put_48) <|
  ms_oc0 (s_vret rfl dX0_put_51)

def tX0_eachIsOfTheOneAhead (G : ms_G) (Q : ms_Q) (d : Nat) : List (Nat × ms_T) := [(0, (o_ci 1)), (1, (o_st 1 0)), (100000, o_go G Q mX0_eachIsOfTheOneAhead (d + 1) 2), (2, (o_ld 1 0)), (3, (o_ld 0 2)), (4, (o_get 0 1 0)), (7, (o_if2 G Q mX0_eachIsOfTheOneAhead (d + 1) (fun a b => b ≤ a) 41)), (10, (o_ld 0 2)), (11, (o_ld 1 0)), (12, (o_ld 0 2)), (13, (o_get 0 0 2)), (16, (o_ld 1 0)), (17, (o_ald 100 0)), (18, (o_ld 0 2)), (19, (o_get 0 0 2)), (22, (o_ld 1 0)), (23, (o_ci 1)), (24, (o_bin (fun a b => w32 (a - b)))), (25, (o_ald 100 0)), (26, (o_bin (fun a b => w32 (a - b)))), (27, (o_invV G d mX0_standsAheadOf 0 2 0 0)), (30, (o_if1 G Q mX0_eachIsOfTheOneAhead (d + 1) (fun x => ¬ x = 0) 35)), (33, (o_ci 0)), (34, (o_ret Q true)), (35, (o_inc 1 1)), (38, (o_go G Q mX0_eachIsOfTheOneAhead (d + 1) 2)), (41, (o_ci 1)), (42, (o_ret Q true))]
set_option maxRecDepth 100000 in
set_option maxHeartbeats 4000000 in
theorem kX0_eachIsOfTheOneAhead (G : ms_G) (Q : ms_Q) (d : Nat) : ms_Oc G Q mX0_eachIsOfTheOneAhead (d + 1) (tX0_eachIsOfTheOneAhead G Q d) :=
  ms_oc1 rfl (s_iconst dX0_eachIsOfTheOneAhead_0 (by decide)) <|
  ms_occ (s_istore_n rfl (by decide) dX0_eachIsOfTheOneAhead_1) <|
  ms_oc1 rfl (s_iload_n rfl dX0_eachIsOfTheOneAhead_2) <|
  ms_oc1 rfl (s_aload_n rfl dX0_eachIsOfTheOneAhead_3) <|
  ms_oc1 rfl (s_get (r := (RX0, TX0, 2)) rfl (by decide) rfl rfl kw_303 dX0_eachIsOfTheOneAhead_4) <|
  ms_oc1 rfl (s_icmpge (by decide) dX0_eachIsOfTheOneAhead_7) <|
  ms_oc1 rfl (s_aload_n rfl dX0_eachIsOfTheOneAhead_10) <|
  ms_oc1 rfl (s_iload_n rfl dX0_eachIsOfTheOneAhead_11) <|
  ms_oc1 rfl (s_aload_n rfl dX0_eachIsOfTheOneAhead_12) <|
  ms_oc1 rfl (s_get (r := (RX0, TX0, 2)) rfl (by decide) rfl rfl kw_301 dX0_eachIsOfTheOneAhead_13) <|
  ms_oc1 rfl (s_iload_n rfl dX0_eachIsOfTheOneAhead_16) <|
  ms_oc1 rfl (s_iaload dX0_eachIsOfTheOneAhead_17) <|
  ms_oc1 rfl (s_aload_n rfl dX0_eachIsOfTheOneAhead_18) <|
  ms_oc1 rfl (s_get (r := (RX0, TX0, 2)) rfl (by decide) rfl rfl kw_301 dX0_eachIsOfTheOneAhead_19) <|
  ms_oc1 rfl (s_iload_n rfl dX0_eachIsOfTheOneAhead_22) <|
  ms_oc1 rfl (s_iconst dX0_eachIsOfTheOneAhead_23 (by decide)) <|
  ms_oc1 rfl (s_isub dX0_eachIsOfTheOneAhead_24) <|
  ms_oc1 rfl (s_iaload dX0_eachIsOfTheOneAhead_25) <|
  ms_oc1 rfl (s_isub dX0_eachIsOfTheOneAhead_26) <|
  ms_oc1 rfl (s_invV (r := (RX0, TX0, 2)) rfl rfl kw_792 kw_794 kw_34 kw_86 kw_795 ⟨by decide +kernel, by decide +kernel, by decide +kernel⟩ (by decide) dX0_eachIsOfTheOneAhead_27) <|
  ms_oc1 rfl (s_ifne (by decide) dX0_eachIsOfTheOneAhead_30) <|
  ms_oc1 rfl (s_iconst dX0_eachIsOfTheOneAhead_33 (by decide)) <|
  ms_oc1 rfl (s_iret (b := true) rfl dX0_eachIsOfTheOneAhead_34) <|
  ms_oc1 rfl (s_iinc (by decide) dX0_eachIsOfTheOneAhead_35) <|
  ms_oc1 rfl (s_goto (by decide) dX0_eachIsOfTheOneAhead_38) <|
  ms_oc1 rfl (s_iconst dX0_eachIsOfTheOneAhead_41 (by decide)) <|
  ms_oc0 (s_iret (b := true) rfl dX0_eachIsOfTheOneAhead_42)

def tX0_standsAheadOf (G : ms_G) (Q : ms_Q) (d : Nat) : List (Nat × ms_T) := [(0, (o_ci 0)), (1, (o_st 3 0)), (100000, o_go G Q mX0_standsAheadOf (d + 1) 2), (2, (o_ld 3 0)), (3, (o_ld 1 0)), (4, (o_if2 G Q mX0_standsAheadOf (d + 1) (fun a b => b ≤ a) 25)), (7, (o_ld 0 2)), (8, (o_get 0 0 2)), (11, (o_ld 3 0)), (12, (o_ald 100 0)), (13, (o_ld 2 0)), (14, (o_if2 G Q mX0_standsAheadOf (d + 1) (fun a b => ¬ a = b) 19)), (17, (o_ci 1)), (18, (o_ret Q true)), (19, (o_inc 3 1)), (22, (o_go G Q mX0_standsAheadOf (d + 1) 2)), (25, (o_ci 0)), (26, (o_ret Q true))]
set_option maxRecDepth 100000 in
set_option maxHeartbeats 4000000 in
theorem kX0_standsAheadOf (G : ms_G) (Q : ms_Q) (d : Nat) : ms_Oc G Q mX0_standsAheadOf (d + 1) (tX0_standsAheadOf G Q d) :=
  ms_oc1 rfl (s_iconst dX0_standsAheadOf_0 (by decide)) <|
  ms_occ (s_istore_n rfl (by decide) dX0_standsAheadOf_1) <|
  ms_oc1 rfl (s_iload_n rfl dX0_standsAheadOf_2) <|
  ms_oc1 rfl (s_iload_n rfl dX0_standsAheadOf_3) <|
  ms_oc1 rfl (s_icmpge (by decide) dX0_standsAheadOf_4) <|
  ms_oc1 rfl (s_aload_n rfl dX0_standsAheadOf_7) <|
  ms_oc1 rfl (s_get (r := (RX0, TX0, 2)) rfl (by decide) rfl rfl kw_301 dX0_standsAheadOf_8) <|
  ms_oc1 rfl (s_iload_n rfl dX0_standsAheadOf_11) <|
  ms_oc1 rfl (s_iaload dX0_standsAheadOf_12) <|
  ms_oc1 rfl (s_iload_n rfl dX0_standsAheadOf_13) <|
  ms_oc1 rfl (s_icmpne (by decide) dX0_standsAheadOf_14) <|
  ms_oc1 rfl (s_iconst dX0_standsAheadOf_17 (by decide)) <|
  ms_oc1 rfl (s_iret (b := true) rfl dX0_standsAheadOf_18) <|
  ms_oc1 rfl (s_iinc (by decide) dX0_standsAheadOf_19) <|
  ms_oc1 rfl (s_goto (by decide) dX0_standsAheadOf_22) <|
  ms_oc1 rfl (s_iconst dX0_standsAheadOf_25 (by decide)) <|
  ms_oc0 (s_iret (b := true) rfl dX0_standsAheadOf_26)

def tX1_init (G : ms_G) (Q : ms_Q) (d : Nat) : List (Nat × ms_T) := [(0, (o_ld 0 2)), (1, o_oi), (4, (o_ld 0 2)), (5, (o_ci 4)), (6, (o_newa 100)), (8, (o_put 1 0 2)), (11, (o_ld 0 2)), (12, (o_ci 61)), (14, (o_newa 100)), (16, (o_put 1 1 2)), (19, (o_ld 0 2)), (20, (o_ci 61)), (22, (o_newa 100)), (24, (o_put 1 2 2)), (27, (o_vret Q))]
set_option maxRecDepth 100000 in
set_option maxHeartbeats 4000000 in
theorem kX1_init (G : ms_G) (Q : ms_Q) (d : Nat) : ms_Oc G Q mX1_init (d + 1) (tX1_init G Q d) :=
  ms_oc1 rfl (s_aload_n rfl dX1_init_0) <|
  ms_oc1 rfl (s_oi kw_281 kw_102 kw_103 dX1_init_1) <|
  ms_oc1 rfl (s_aload_n rfl dX1_init_4) <|
  ms_oc1 rfl (s_iconst dX1_init_5 (by decide)) <|
  ms_oc1 rfl (s_newa (ty := .int) rfl kw_153 dX1_init_6 (Or.inl ⟨rfl, rfl⟩)) <|
  ms_oc1 rfl (s_put (r := (RX1, TX1, 4)) rfl (by decide) rfl rfl (ms_nar2 (fun r => by cases r <;> exact ⟨rfl, rfl⟩)) (Or.inr ⟨rfl, rfl⟩) kw_282 dX1_init_8) <|
  ms_oc1 rfl (s_aload_n rfl dX1_init_11) <|
  ms_oc1 rfl (s_bipush dX1_init_12 (by decide) (by decide)) <|
  ms_oc1 rfl (s_newa (ty := .int) rfl kw_153 dX1_init_14 (Or.inl ⟨rfl, rfl⟩)) <|
  ms_oc1 rfl (s_put (r := (RX1, TX1, 4)) rfl (by decide) rfl rfl (ms_nar2 (fun r => by cases r <;> exact ⟨rfl, rfl⟩)) (Or.inr ⟨rfl, rfl⟩) kw_283 dX1_init_16) <|
  ms_oc1 rfl (s_aload_n rfl dX1_init_19) <|
  ms_oc1 rfl (s_bipush dX1_init_20 (by decide) (by decide)) <|
  ms_oc1 rfl (s_newa (ty := .int) rfl kw_153 dX1_init_22 (Or.inl ⟨rfl, rfl⟩)) <|
  ms_oc1 rfl (s_put (r := (RX1, TX1, 4)) rfl (by decide) rfl rfl (ms_nar2 (fun r => by cases r <;> exact ⟨rfl, rfl⟩)) (Or.inr ⟨rfl, rfl⟩) kw_284 dX1_init_24) <|
  ms_oc0 (s_vret rfl dX1_init_27)

def tX1_tell (G : ms_G) (Q : ms_Q) (d : Nat) : List (Nat × ms_T) := [(0, (o_ld 0 2)), (1, (o_get 1 0 2)), (4, (o_ci 0)), (5, (o_ld 1 0)), (6, (o_ast 100 0 (fun x => x))), (7, (o_ld 0 2)), (8, (o_get 1 0 2)), (11, (o_ci 1)), (12, (o_ld 2 0)), (13, (o_ast 100 0 (fun x => x))), (14, (o_ld 0 2)), (15, (o_get 1 0 2)), (18, (o_ci 2)), (19, (o_ld 3 0)), (20, (o_ast 100 0 (fun x => x))), (21, (o_ld 0 2)), (22, (o_get 1 0 2)), (25, (o_ci 3)), (26, (o_ld 4 0)), (28, (o_ast 100 0 (fun x => x))), (29, (o_vret Q))]
set_option maxRecDepth 100000 in
set_option maxHeartbeats 4000000 in
theorem kX1_tell (G : ms_G) (Q : ms_Q) (d : Nat) : ms_Oc G Q mX1_tell (d + 1) (tX1_tell G Q d) :=
  ms_oc1 rfl (s_aload_n rfl dX1_tell_0) <|
  ms_oc1 rfl (s_get (r := (RX1, TX1, 4)) rfl (by decide) rfl rfl kw_282 dX1_tell_1) <|
  ms_oc1 rfl (s_iconst dX1_tell_4 (by decide)) <|
  ms_oc1 rfl (s_iload_n rfl dX1_tell_5) <|
  ms_oc1 rfl (s_iastore dX1_tell_6) <|
  ms_oc1 rfl (s_aload_n rfl dX1_tell_7) <|
  ms_oc1 rfl (s_get (r := (RX1, TX1, 4)) rfl (by decide) rfl rfl kw_282 dX1_tell_8) <|
  ms_oc1 rfl (s_iconst dX1_tell_11 (by decide)) <|
  ms_oc1 rfl (s_iload_n rfl dX1_tell_12) <|
  ms_oc1 rfl (s_iastore dX1_tell_13) <|
  ms_oc1 rfl (s_aload_n rfl dX1_tell_14) <|
  ms_oc1 rfl (s_get (r := (RX1, TX1, 4)) rfl (by decide) rfl rfl kw_282 dX1_tell_15) <|
  ms_oc1 rfl (s_iconst dX1_tell_18 (by decide)) <|
  ms_oc1 rfl (s_iload_n rfl dX1_tell_19) <|
  ms_oc1 rfl (s_iastore dX1_tell_20) <|
  ms_oc1 rfl (s_aload_n rfl dX1_tell_21) <|
  ms_oc1 rfl (s_get (r := (RX1, TX1, 4)) rfl (by decide) rfl rfl kw_282 dX1_tell_22) <|
  ms_oc1 rfl (s_iconst dX1_tell_25 (by decide)) <|
  ms_oc1 rfl (s_iload dX1_tell_26) <|
  ms_oc1 rfl (s_iastore dX1_tell_28) <|
  ms_oc0 (s_vret rfl dX1_tell_29)

def tX1_build (G : ms_G) (Q : ms_Q) (d : Nat) : List (Nat × ms_T) := [(0, (o_ld 1 0)), (1, (o_ci 1)), (2, (o_if2 G Q mX1_build (d + 1) (fun a b => a < b) 10)), (5, (o_ld 1 0)), (6, (o_ci 4)), (7, (o_if2 G Q mX1_build (d + 1) (fun a b => a ≤ b) 12)), (100000, o_go G Q mX1_build (d + 1) 10), (10, (o_ci 0)), (11, (o_ret Q true)), (12, (o_ld 0 2)), (13, (o_ci 0)), (14, (o_put 1 3 0)), (17, (o_ld 0 2)), (18, (o_ci 1)), (19, (o_invV G d mX1_put 1 1 0 0)), (22, o_pop), (23, (o_ci 0)), (24, (o_st 3 0)), (100000, o_go G Q mX1_build (d + 1) 25), (25, (o_ld 3 0)), (26, (o_ld 1 0)), (27, (o_if2 G Q mX1_build (d + 1) (fun a b => b ≤ a) 71)), (30, (o_ld 0 2)), (31, (o_get 1 0 2)), (34, (o_ld 3 0)), (35, (o_ald 100 0)), (36, (o_ci 1)), (37, (o_if2 G Q mX1_build (d + 1) (fun a b => a < b) 52)), (40, (o_ld 0 2)), (41, (o_get 1 0 2)), (44, (o_ld 3 0)), (45, (o_ald 100 0)), (46, (o_ci 9999)), (49, (o_if2 G Q mX1_build (d + 1) (fun a b => a ≤ b) 54)), (100000, o_go G Q mX1_build (d + 1) 52), (52, (o_ci 0)), (53, (o_ret Q true)), (54, (o_ld 0 2)), (55, (o_ld 0 2)), (56, (o_get 1 0 2)), (59, (o_ld 3 0)), (60, (o_ald 100 0)), (61, (o_invV G d mX1_put 1 1 0 0)), (64, o_pop), (65, (o_inc 3 1)), (68, (o_go G Q mX1_build (d + 1) 25)), (71, (o_ld 0 2)), (72, (o_invV G d mX1_descend 1 0 0 0)), (75, (o_if1 G Q mX1_build (d + 1) (fun x => ¬ x = 0) 80)), (78, (o_ci 0)), (79, (o_ret Q true)), (80, (o_ld 0 2)), (81, (o_ld 1 0)), (82, (o_ld 2 2)), (83, (o_invV G d mX1_write 1 2 0 0)), (86, (o_ci 1)), (87, (o_ret Q true))]
set_option maxRecDepth 100000 in
set_option maxHeartbeats 4000000 in
theorem kX1_build (G : ms_G) (Q : ms_Q) (d : Nat) : ms_Oc G Q mX1_build (d + 1) (tX1_build G Q d) :=
  ms_oc1 rfl (s_iload_n rfl dX1_build_0) <|
  ms_oc1 rfl (s_iconst dX1_build_1 (by decide)) <|
  ms_oc1 rfl (s_icmplt (by decide) dX1_build_2) <|
  ms_oc1 rfl (s_iload_n rfl dX1_build_5) <|
  ms_oc1 rfl (s_iconst dX1_build_6 (by decide)) <|
  ms_occ (s_icmple (by decide) dX1_build_7) <|
  ms_oc1 rfl (s_iconst dX1_build_10 (by decide)) <|
  ms_oc1 rfl (s_iret (b := true) rfl dX1_build_11) <|
  ms_oc1 rfl (s_aload_n rfl dX1_build_12) <|
  ms_oc1 rfl (s_iconst dX1_build_13 (by decide)) <|
  ms_oc1 rfl (s_put (r := (RX1, TX1, 4)) rfl (by decide) rfl rfl (ms_nar0 rfl) (Or.inl rfl) kw_285 dX1_build_14) <|
  ms_oc1 rfl (s_aload_n rfl dX1_build_17) <|
  ms_oc1 rfl (s_iconst dX1_build_18 (by decide)) <|
  ms_oc1 rfl (s_invV (r := (RX1, TX1, 4)) rfl rfl kw_692 kw_694 kw_24 kw_85 kw_695 ⟨by decide +kernel, by decide +kernel, by decide +kernel⟩ (by decide) dX1_build_19) <|
  ms_oc1 rfl (s_pop dX1_build_22) <|
  ms_oc1 rfl (s_iconst dX1_build_23 (by decide)) <|
  ms_occ (s_istore_n rfl (by decide) dX1_build_24) <|
  ms_oc1 rfl (s_iload_n rfl dX1_build_25) <|
  ms_oc1 rfl (s_iload_n rfl dX1_build_26) <|
  ms_oc1 rfl (s_icmpge (by decide) dX1_build_27) <|
  ms_oc1 rfl (s_aload_n rfl dX1_build_30) <|
  ms_oc1 rfl (s_get (r := (RX1, TX1, 4)) rfl (by decide) rfl rfl kw_282 dX1_build_31) <|
  ms_oc1 rfl (s_iload_n rfl dX1_build_34) <|
  ms_oc1 rfl (s_iaload dX1_build_35) <|
  ms_oc1 rfl (s_iconst dX1_build_36 (by decide)) <|
  ms_oc1 rfl (s_icmplt (by decide) dX1_build_37) <|
  ms_oc1 rfl (s_aload_n rfl dX1_build_40) <|
  ms_oc1 rfl (s_get (r := (RX1, TX1, 4)) rfl (by decide) rfl rfl kw_282 dX1_build_41) <|
  ms_oc1 rfl (s_iload_n rfl dX1_build_44) <|
  ms_oc1 rfl (s_iaload dX1_build_45) <|
  ms_oc1 rfl (s_sipush dX1_build_46 (by decide) (by decide)) <|
  ms_occ (s_icmple (by decide) dX1_build_49) <|
  ms_oc1 rfl (s_iconst dX1_build_52 (by decide)) <|
  ms_oc1 rfl (s_iret (b := true) rfl dX1_build_53) <|
  ms_oc1 rfl (s_aload_n rfl dX1_build_54) <|
  ms_oc1 rfl (s_aload_n rfl dX1_build_55) <|
  ms_oc1 rfl (s_get (r := (RX1, TX1, 4)) rfl (by decide) rfl rfl kw_282 dX1_build_56) <|
  ms_oc1 rfl (s_iload_n rfl dX1_build_59) <|
  ms_oc1 rfl (s_iaload dX1_build_60) <|
  ms_oc1 rfl (s_invV (r := (RX1, TX1, 4)) rfl rfl kw_692 kw_694 kw_24 kw_85 kw_695 ⟨by decide +kernel, by decide +kernel, by decide +kernel⟩ (by decide) dX1_build_61) <|
  ms_oc1 rfl (s_pop dX1_build_64) <|
  ms_oc1 rfl (s_iinc (by decide) dX1_build_65) <|
  ms_oc1 rfl (s_goto (by decide) dX1_build_68) <|
  ms_oc1 rfl (s_aload_n rfl dX1_build_71) <|
  ms_oc1 rfl (s_invV (r := (RX1, TX1, 4)) rfl rfl kw_700 kw_702 kw_26 kw_85 kw_703 ⟨by decide +kernel, by decide +kernel, by decide +kernel⟩ (by decide) dX1_build_72) <|
  ms_oc1 rfl (s_ifne (by decide) dX1_build_75) <|
  ms_oc1 rfl (s_iconst dX1_build_78 (by decide)) <|
  ms_oc1 rfl (s_iret (b := true) rfl dX1_build_79) <|
  ms_oc1 rfl (s_aload_n rfl dX1_build_80) <|
  ms_oc1 rfl (s_iload_n rfl dX1_build_81) <|
  ms_oc1 rfl (s_aload_n rfl dX1_build_82) <|
  ms_oc1 rfl (s_invV (r := (RX1, TX1, 4)) rfl rfl kw_707 kw_709 kw_27 kw_85 kw_710 ⟨by decide +kernel, by decide +kernel, by decide +kernel⟩ (by decide) dX1_build_83) <|
  ms_oc1 rfl (s_iconst dX1_build_86 (by decide)) <|
  ms_oc0 (s_iret (b := true) rfl dX1_build_87)

def tX1_descend (G : ms_G) (Q : ms_Q) (d : Nat) : List (Nat × ms_T) := [(0, (o_ld 0 2)), (1, (o_get 1 3 0)), (4, (o_ci 1)), (5, (o_bin (fun a b => w32 (a - b)))), (6, (o_st 1 0)), (7, (o_ci 0)), (8, (o_st 2 0)), (100000, o_go G Q mX1_descend (d + 1) 9), (9, (o_ld 2 0)), (10, (o_ci 60)), (12, (o_if2 G Q mX1_descend (d + 1) (fun a b => b ≤ a) 102)), (15, (o_ld 1 0)), (16, (o_if1 G Q mX1_descend (d + 1) (fun x => x ≤ 0) 102)), (19, (o_ld 0 2)), (20, (o_get 1 1 2)), (23, (o_ld 1 0)), (24, (o_ald 100 0)), (25, (o_st 3 0)), (26, (o_ld 0 2)), (27, (o_get 1 2 2)), (30, (o_ld 1 0)), (31, (o_ld 3 0)), (32, (o_ld 0 2)), (33, (o_get 1 1 2)), (36, (o_ld 1 0)), (37, (o_ci 1)), (38, (o_bin (fun a b => w32 (a - b)))), (39, (o_ald 100 0)), (40, (o_invS G d mX1_greaterPart 2 0 0)), (43, (o_ast 100 0 (fun x => x))), (44, (o_ld 3 0)), (45, (o_ld 0 2)), (46, (o_get 1 2 2)), (49, (o_ld 1 0)), (50, (o_ald 100 0)), (51, (o_bin (fun a b => w32 (a - b)))), (52, (o_st 4 0)), (54, (o_ld 0 2)), (55, (o_get 1 3 0)), (58, (o_st 5 0)), (60, (o_ld 0 2)), (61, (o_ld 0 2)), (62, (o_get 1 2 2)), (65, (o_ld 1 0)), (66, (o_ald 100 0)), (67, (o_invV G d mX1_put 1 1 0 0)), (70, (o_if1 G Q mX1_descend (d + 1) (fun x => x = 0) 82)), (73, (o_ld 0 2)), (74, (o_ld 4 0)), (76, (o_invV G d mX1_put 1 1 0 0)), (79, (o_if1 G Q mX1_descend (d + 1) (fun x => ¬ x = 0) 84)), (100000, o_go G Q mX1_descend (d + 1) 82), (82, (o_ci 0)), (83, (o_ret Q true)), (84, (o_ld 1 0)), (85, (o_ld 0 2)), (86, (o_get 1 3 0)), (89, (o_ld 5 0)), (91, (o_bin (fun a b => w32 (a - b)))), (92, (o_ci 1)), (93, (o_bin (fun a b => w32 (a - b)))), (94, (o_bin (fun a b => w32 (a + b)))), (95, (o_st 1 0)), (96, (o_inc 2 1)), (99, (o_go G Q mX1_descend (d + 1) 9)), (102, (o_ld 1 0)), (103, (o_if1 G Q mX1_descend (d + 1) (fun x => ¬ x = 0) 110)), (106, (o_ci 1)), (107, (o_go G Q mX1_descend (d + 1) 111)), (110, (o_ci 0)), (100000, o_go G Q mX1_descend (d + 1) 111), (111, (o_ret Q true))]
set_option maxRecDepth 100000 in
set_option maxHeartbeats 4000000 in
theorem kX1_descend (G : ms_G) (Q : ms_Q) (d : Nat) : ms_Oc G Q mX1_descend (d + 1) (tX1_descend G Q d) :=
  ms_oc1 rfl (s_aload_n rfl dX1_descend_0) <|
  ms_oc1 rfl (s_get (r := (RX1, TX1, 4)) rfl (by decide) rfl rfl kw_285 dX1_descend_1) <|
  ms_oc1 rfl (s_iconst dX1_descend_4 (by decide)) <|
  ms_oc1 rfl (s_isub dX1_descend_5) <|
  ms_oc1 rfl (s_istore_n rfl (by decide) dX1_descend_6) <|
  ms_oc1 rfl (s_iconst dX1_descend_7 (by decide)) <|
  ms_occ (s_istore_n rfl (by decide) dX1_descend_8) <|
  ms_oc1 rfl (s_iload_n rfl dX1_descend_9) <|
  ms_oc1 rfl (s_bipush dX1_descend_10 (by decide) (by decide)) <|
  ms_oc1 rfl (s_icmpge (by decide) dX1_descend_12) <|
  ms_oc1 rfl (s_iload_n rfl dX1_descend_15) <|
  ms_oc1 rfl (s_ifle (by decide) dX1_descend_16) <|
  ms_oc1 rfl (s_aload_n rfl dX1_descend_19) <|
  ms_oc1 rfl (s_get (r := (RX1, TX1, 4)) rfl (by decide) rfl rfl kw_283 dX1_descend_20) <|
  ms_oc1 rfl (s_iload_n rfl dX1_descend_23) <|
  ms_oc1 rfl (s_iaload dX1_descend_24) <|
  ms_oc1 rfl (s_istore_n rfl (by decide) dX1_descend_25) <|
  ms_oc1 rfl (s_aload_n rfl dX1_descend_26) <|
  ms_oc1 rfl (s_get (r := (RX1, TX1, 4)) rfl (by decide) rfl rfl kw_284 dX1_descend_27) <|
  ms_oc1 rfl (s_iload_n rfl dX1_descend_30) <|
  ms_oc1 rfl (s_iload_n rfl dX1_descend_31) <|
  ms_oc1 rfl (s_aload_n rfl dX1_descend_32) <|
  ms_oc1 rfl (s_get (r := (RX1, TX1, 4)) rfl (by decide) rfl rfl kw_283 dX1_descend_33) <|
  ms_oc1 rfl (s_iload_n rfl dX1_descend_36) <|
  ms_oc1 rfl (s_iconst dX1_descend_37 (by decide)) <|
  ms_oc1 rfl (s_isub dX1_descend_38) <|
  ms_oc1 rfl (s_iaload dX1_descend_39) <|
  ms_oc1 rfl (s_invS kw_704 kw_705 kw_85 kw_706 ⟨by decide +kernel, by decide +kernel, by decide +kernel⟩ (by decide) dX1_descend_40) <|
  ms_oc1 rfl (s_iastore dX1_descend_43) <|
  ms_oc1 rfl (s_iload_n rfl dX1_descend_44) <|
  ms_oc1 rfl (s_aload_n rfl dX1_descend_45) <|
  ms_oc1 rfl (s_get (r := (RX1, TX1, 4)) rfl (by decide) rfl rfl kw_284 dX1_descend_46) <|
  ms_oc1 rfl (s_iload_n rfl dX1_descend_49) <|
  ms_oc1 rfl (s_iaload dX1_descend_50) <|
  ms_oc1 rfl (s_isub dX1_descend_51) <|
  ms_oc1 rfl (s_istore (by decide) dX1_descend_52) <|
  ms_oc1 rfl (s_aload_n rfl dX1_descend_54) <|
  ms_oc1 rfl (s_get (r := (RX1, TX1, 4)) rfl (by decide) rfl rfl kw_285 dX1_descend_55) <|
  ms_oc1 rfl (s_istore (by decide) dX1_descend_58) <|
  ms_oc1 rfl (s_aload_n rfl dX1_descend_60) <|
  ms_oc1 rfl (s_aload_n rfl dX1_descend_61) <|
  ms_oc1 rfl (s_get (r := (RX1, TX1, 4)) rfl (by decide) rfl rfl kw_284 dX1_descend_62) <|
  ms_oc1 rfl (s_iload_n rfl dX1_descend_65) <|
  ms_oc1 rfl (s_iaload dX1_descend_66) <|
  ms_oc1 rfl (s_invV (r := (RX1, TX1, 4)) rfl rfl kw_692 kw_694 kw_24 kw_85 kw_695 ⟨by decide +kernel, by decide +kernel, by decide +kernel⟩ (by decide) dX1_descend_67) <|
  ms_oc1 rfl (s_ifeq (by decide) dX1_descend_70) <|
  ms_oc1 rfl (s_aload_n rfl dX1_descend_73) <|
  ms_oc1 rfl (s_iload dX1_descend_74) <|
  ms_oc1 rfl (s_invV (r := (RX1, TX1, 4)) rfl rfl kw_692 kw_694 kw_24 kw_85 kw_695 ⟨by decide +kernel, by decide +kernel, by decide +kernel⟩ (by decide) dX1_descend_76) <|
  ms_occ (s_ifne (by decide) dX1_descend_79) <|
  ms_oc1 rfl (s_iconst dX1_descend_82 (by decide)) <|
  ms_oc1 rfl (s_iret (b := true) rfl dX1_descend_83) <|
  ms_oc1 rfl (s_iload_n rfl dX1_descend_84) <|
  ms_oc1 rfl (s_aload_n rfl dX1_descend_85) <|
  ms_oc1 rfl (s_get (r := (RX1, TX1, 4)) rfl (by decide) rfl rfl kw_285 dX1_descend_86) <|
  ms_oc1 rfl (s_iload dX1_descend_89) <|
  ms_oc1 rfl (s_isub dX1_descend_91) <|
  ms_oc1 rfl (s_iconst dX1_descend_92 (by decide)) <|
  ms_oc1 rfl (s_isub dX1_descend_93) <|
  ms_oc1 rfl (s_iadd dX1_descend_94) <|
  ms_oc1 rfl (s_istore_n rfl (by decide) dX1_descend_95) <|
  ms_oc1 rfl (s_iinc (by decide) dX1_descend_96) <|
  ms_oc1 rfl (s_goto (by decide) dX1_descend_99) <|
  ms_oc1 rfl (s_iload_n rfl dX1_descend_102) <|
  ms_oc1 rfl (s_ifne (by decide) dX1_descend_103) <|
  ms_oc1 rfl (s_iconst dX1_descend_106 (by decide)) <|
  ms_oc1 rfl (s_goto (by decide) dX1_descend_107) <|
  ms_occ (s_iconst dX1_descend_110 (by decide)) <|
  ms_oc0 (s_iret (b := true) rfl dX1_descend_111)

def tX1_greaterPart (G : ms_G) (Q : ms_Q) (d : Nat) : List (Nat × ms_T) := [(0, (o_ld 0 0)), (1, (o_ci 2)), (2, (o_ld 1 0)), (3, (o_bin (fun a b => w32 (a * b)))), (4, (o_if2 G Q mX1_greaterPart (d + 1) (fun a b => b < a) 9)), (7, (o_ld 1 0)), (8, (o_ret Q false)), (9, (o_ld 0 0)), (10, (o_ci 2)), (11, (o_dv wrem)), (12, (o_if1 G Q mX1_greaterPart (d + 1) (fun x => ¬ x = 0) 21)), (15, (o_ld 0 0)), (16, (o_ci 2)), (17, (o_dv wdiv)), (18, (o_go G Q mX1_greaterPart (d + 1) 24)), (21, (o_ld 0 0)), (22, (o_ci 1)), (23, (o_bin (fun a b => w32 (a - b)))), (100000, o_go G Q mX1_greaterPart (d + 1) 24), (24, (o_ret Q false))]
set_option maxRecDepth 100000 in
set_option maxHeartbeats 4000000 in
theorem kX1_greaterPart (G : ms_G) (Q : ms_Q) (d : Nat) : ms_Oc G Q mX1_greaterPart (d + 1) (tX1_greaterPart G Q d) :=
  ms_oc1 rfl (s_iload_n rfl dX1_greaterPart_0) <|
  ms_oc1 rfl (s_iconst dX1_greaterPart_1 (by decide)) <|
  ms_oc1 rfl (s_iload_n rfl dX1_greaterPart_2) <|
  ms_oc1 rfl (s_imul dX1_greaterPart_3) <|
  ms_oc1 rfl (s_icmpgt (by decide) dX1_greaterPart_4) <|
  ms_oc1 rfl (s_iload_n rfl dX1_greaterPart_7) <|
  ms_oc1 rfl (s_iret (b := false) rfl dX1_greaterPart_8) <|
  ms_oc1 rfl (s_iload_n rfl dX1_greaterPart_9) <|
  ms_oc1 rfl (s_iconst dX1_greaterPart_10 (by decide)) <|
  ms_oc1 rfl (s_irem dX1_greaterPart_11) <|
  ms_oc1 rfl (s_ifne (by decide) dX1_greaterPart_12) <|
  ms_oc1 rfl (s_iload_n rfl dX1_greaterPart_15) <|
  ms_oc1 rfl (s_iconst dX1_greaterPart_16 (by decide)) <|
  ms_oc1 rfl (s_idiv dX1_greaterPart_17) <|
  ms_oc1 rfl (s_goto (by decide) dX1_greaterPart_18) <|
  ms_oc1 rfl (s_iload_n rfl dX1_greaterPart_21) <|
  ms_oc1 rfl (s_iconst dX1_greaterPart_22 (by decide)) <|
  ms_occ (s_isub dX1_greaterPart_23) <|
  ms_oc0 (s_iret (b := false) rfl dX1_greaterPart_24)

def tX1_put (G : ms_G) (Q : ms_Q) (d : Nat) : List (Nat × ms_T) := [(0, (o_ld 0 2)), (1, (o_ld 1 0)), (2, (o_invV G d mX1_placeOf 1 1 0 0)), (5, (o_st 2 0)), (6, (o_ld 2 0)), (7, (o_ld 0 2)), (8, (o_get 1 3 0)), (11, (o_if2 G Q mX1_put (d + 1) (fun a b => b ≤ a) 26)), (14, (o_ld 0 2)), (15, (o_get 1 1 2)), (18, (o_ld 2 0)), (19, (o_ald 100 0)), (20, (o_ld 1 0)), (21, (o_if2 G Q mX1_put (d + 1) (fun a b => ¬ a = b) 26)), (24, (o_ci 1)), (25, (o_ret Q true)), (26, (o_ld 0 2)), (27, (o_get 1 3 0)), (30, (o_ci 60)), (32, (o_if2 G Q mX1_put (d + 1) (fun a b => a ≤ b) 37)), (35, (o_ci 0)), (36, (o_ret Q true)), (37, (o_ld 0 2)), (38, (o_get 1 3 0)), (41, (o_st 3 0)), (100000, o_go G Q mX1_put (d + 1) 42), (42, (o_ld 3 0)), (43, (o_ld 2 0)), (44, (o_if2 G Q mX1_put (d + 1) (fun a b => a ≤ b) 81)), (47, (o_ld 0 2)), (48, (o_get 1 1 2)), (51, (o_ld 3 0)), (52, (o_ld 0 2)), (53, (o_get 1 1 2)), (56, (o_ld 3 0)), (57, (o_ci 1)), (58, (o_bin (fun a b => w32 (a - b)))), (59, (o_ald 100 0)), (60, (o_ast 100 0 (fun x => x))), (61, (o_ld 0 2)), (62, (o_get 1 2 2)), (65, (o_ld 3 0)), (66, (o_ld 0 2)), (67, (o_get 1 2 2)), (70, (o_ld 3 0)), (71, (o_ci 1)), (72, (o_bin (fun a b => w32 (a - b)))), (73, (o_ald 100 0)), (74, (o_ast 100 0 (fun x => x))), (75, (o_inc 3 (-1))), (78, (o_go G Q mX1_put (d + 1) 42)), (81, (o_ld 0 2)), (82, (o_get 1 1 2)), (85, (o_ld 2 0)), (86, (o_ld 1 0)), (87, (o_ast 100 0 (fun x => x))), (88, (o_ld 0 2)), (89, o_dup), (90, (o_get 1 3 0)), (93, (o_ci 1)), (94, (o_bin (fun a b => w32 (a + b)))), (95, (o_put 1 3 0)), (98, (o_ci 1)), (99, (o_ret Q true))]
set_option maxRecDepth 100000 in
set_option maxHeartbeats 4000000 in
theorem kX1_put (G : ms_G) (Q : ms_Q) (d : Nat) : ms_Oc G Q mX1_put (d + 1) (tX1_put G Q d) :=
  ms_oc1 rfl (s_aload_n rfl dX1_put_0) <|
  ms_oc1 rfl (s_iload_n rfl dX1_put_1) <|
  ms_oc1 rfl (s_invV (r := (RX1, TX1, 4)) rfl rfl kw_696 kw_698 kw_25 kw_85 kw_699 ⟨by decide +kernel, by decide +kernel, by decide +kernel⟩ (by decide) dX1_put_2) <|
  ms_oc1 rfl (s_istore_n rfl (by decide) dX1_put_5) <|
  ms_oc1 rfl (s_iload_n rfl dX1_put_6) <|
  ms_oc1 rfl (s_aload_n rfl dX1_put_7) <|
  ms_oc1 rfl (s_get (r := (RX1, TX1, 4)) rfl (by decide) rfl rfl kw_285 dX1_put_8) <|
  ms_oc1 rfl (s_icmpge (by decide) dX1_put_11) <|
  ms_oc1 rfl (s_aload_n rfl dX1_put_14) <|
  ms_oc1 rfl (s_get (r := (RX1, TX1, 4)) rfl (by decide) rfl rfl kw_283 dX1_put_15) <|
  ms_oc1 rfl (s_iload_n rfl dX1_put_18) <|
  ms_oc1 rfl (s_iaload dX1_put_19) <|
  ms_oc1 rfl (s_iload_n rfl dX1_put_20) <|
  ms_oc1 rfl (s_icmpne (by decide) dX1_put_21) <|
  ms_oc1 rfl (s_iconst dX1_put_24 (by decide)) <|
  ms_oc1 rfl (s_iret (b := true) rfl dX1_put_25) <|
  ms_oc1 rfl (s_aload_n rfl dX1_put_26) <|
  ms_oc1 rfl (s_get (r := (RX1, TX1, 4)) rfl (by decide) rfl rfl kw_285 dX1_put_27) <|
  ms_oc1 rfl (s_bipush dX1_put_30 (by decide) (by decide)) <|
  ms_oc1 rfl (s_icmple (by decide) dX1_put_32) <|
  ms_oc1 rfl (s_iconst dX1_put_35 (by decide)) <|
  ms_oc1 rfl (s_iret (b := true) rfl dX1_put_36) <|
  ms_oc1 rfl (s_aload_n rfl dX1_put_37) <|
  ms_oc1 rfl (s_get (r := (RX1, TX1, 4)) rfl (by decide) rfl rfl kw_285 dX1_put_38) <|
  ms_occ (s_istore_n rfl (by decide) dX1_put_41) <|
  ms_oc1 rfl (s_iload_n rfl dX1_put_42) <|
  ms_oc1 rfl (s_iload_n rfl dX1_put_43) <|
  ms_oc1 rfl (s_icmple (by decide) dX1_put_44) <|
  ms_oc1 rfl (s_aload_n rfl dX1_put_47) <|
  ms_oc1 rfl (s_get (r := (RX1, TX1, 4)) rfl (by decide) rfl rfl kw_283 dX1_put_48) <|
  ms_oc1 rfl (s_iload_n rfl dX1_put_51) <|
  ms_oc1 rfl (s_aload_n rfl dX1_put_52) <|
  ms_oc1 rfl (s_get (r := (RX1, TX1, 4)) rfl (by decide) rfl rfl kw_283 dX1_put_53) <|
  ms_oc1 rfl (s_iload_n rfl dX1_put_56) <|
  ms_oc1 rfl (s_iconst dX1_put_57 (by decide)) <|
  ms_oc1 rfl (s_isub dX1_put_58) <|
  ms_oc1 rfl (s_iaload dX1_put_59) <|
  ms_oc1 rfl (s_iastore dX1_put_60) <|
  ms_oc1 rfl (s_aload_n rfl dX1_put_61) <|
  ms_oc1 rfl (s_get (r := (RX1, TX1, 4)) rfl (by decide) rfl rfl kw_284 dX1_put_62) <|
  ms_oc1 rfl (s_iload_n rfl dX1_put_65) <|
  ms_oc1 rfl (s_aload_n rfl dX1_put_66) <|
  ms_oc1 rfl (s_get (r := (RX1, TX1, 4)) rfl (by decide) rfl rfl kw_284 dX1_put_67) <|
  ms_oc1 rfl (s_iload_n rfl dX1_put_70) <|
  ms_oc1 rfl (s_iconst dX1_put_71 (by decide)) <|
  ms_oc1 rfl (s_isub dX1_put_72) <|
  ms_oc1 rfl (s_iaload dX1_put_73) <|
  ms_oc1 rfl (s_iastore dX1_put_74) <|
  ms_oc1 rfl (s_iinc (by decide) dX1_put_75) <|
  ms_oc1 rfl (s_goto (by decide) dX1_put_78) <|
  ms_oc1 rfl (s_aload_n rfl dX1_put_81) <|
  ms_oc1 rfl (s_get (r := (RX1, TX1, 4)) rfl (by decide) rfl rfl kw_283 dX1_put_82) <|
  ms_oc1 rfl (s_iload_n rfl dX1_put_85) <|
  ms_oc1 rfl (s_iload_n rfl dX1_put_86) <|
  ms_oc1 rfl (s_iastore dX1_put_87) <|
  ms_oc1 rfl (s_aload_n rfl dX1_put_88) <|
  ms_oc1 rfl (s_dup dX1_put_89) <|
  ms_oc1 rfl (s_get (r := (RX1, TX1, 4)) rfl (by decide) rfl rfl kw_285 dX1_put_90) <|
  ms_oc1 rfl (s_iconst dX1_put_93 (by decide)) <|
  ms_oc1 rfl (s_iadd dX1_put_94) <|
  ms_oc1 rfl (s_put (r := (RX1, TX1, 4)) rfl (by decide) rfl rfl (ms_nar0 rfl) (Or.inl rfl) kw_285 dX1_put_95) <|
  ms_oc1 rfl (s_iconst dX1_put_98 (by decide)) <|
  ms_oc0 (s_iret (b := true) rfl dX1_put_99)

def tX1_placeOf (G : ms_G) (Q : ms_Q) (d : Nat) : List (Nat × ms_T) := [(0, (o_ci 0)), (1, (o_st 2 0)), (100000, o_go G Q mX1_placeOf (d + 1) 2), (2, (o_ld 2 0)), (3, (o_ld 0 2)), (4, (o_get 1 3 0)), (7, (o_if2 G Q mX1_placeOf (d + 1) (fun a b => b ≤ a) 26)), (10, (o_ld 0 2)), (11, (o_get 1 1 2)), (14, (o_ld 2 0)), (15, (o_ald 100 0)), (16, (o_ld 1 0)), (17, (o_if2 G Q mX1_placeOf (d + 1) (fun a b => b ≤ a) 26)), (20, (o_inc 2 1)), (23, (o_go G Q mX1_placeOf (d + 1) 2)), (26, (o_ld 2 0)), (27, (o_ret Q false))]
set_option maxRecDepth 100000 in
set_option maxHeartbeats 4000000 in
theorem kX1_placeOf (G : ms_G) (Q : ms_Q) (d : Nat) : ms_Oc G Q mX1_placeOf (d + 1) (tX1_placeOf G Q d) :=
  ms_oc1 rfl (s_iconst dX1_placeOf_0 (by decide)) <|
  ms_occ (s_istore_n rfl (by decide) dX1_placeOf_1) <|
  ms_oc1 rfl (s_iload_n rfl dX1_placeOf_2) <|
  ms_oc1 rfl (s_aload_n rfl dX1_placeOf_3) <|
  ms_oc1 rfl (s_get (r := (RX1, TX1, 4)) rfl (by decide) rfl rfl kw_285 dX1_placeOf_4) <|
  ms_oc1 rfl (s_icmpge (by decide) dX1_placeOf_7) <|
  ms_oc1 rfl (s_aload_n rfl dX1_placeOf_10) <|
  ms_oc1 rfl (s_get (r := (RX1, TX1, 4)) rfl (by decide) rfl rfl kw_283 dX1_placeOf_11) <|
  ms_oc1 rfl (s_iload_n rfl dX1_placeOf_14) <|
  ms_oc1 rfl (s_iaload dX1_placeOf_15) <|
  ms_oc1 rfl (s_iload_n rfl dX1_placeOf_16) <|
  ms_oc1 rfl (s_icmpge (by decide) dX1_placeOf_17) <|
  ms_oc1 rfl (s_iinc (by decide) dX1_placeOf_20) <|
  ms_oc1 rfl (s_goto (by decide) dX1_placeOf_23) <|
  ms_oc1 rfl (s_iload_n rfl dX1_placeOf_26) <|
  ms_oc0 (s_iret (b := false) rfl dX1_placeOf_27)

def tX1_write (G : ms_G) (Q : ms_Q) (d : Nat) : List (Nat × ms_T) := [(0, (o_ld 2 2)), (1, (o_ci 1)), (2, (o_invV G d mX4_begin 4 1 0 0)), (5, (o_ci 1)), (6, (o_st 3 0)), (100000, o_go G Q mX1_write (d + 1) 7), (7, (o_ld 3 0)), (8, (o_ld 0 2)), (9, (o_get 1 3 0)), (12, (o_if2 G Q mX1_write (d + 1) (fun a b => b ≤ a) 53)), (15, (o_ld 2 2)), (16, (o_ld 0 2)), (17, (o_ld 0 2)), (18, (o_get 1 2 2)), (21, (o_ld 3 0)), (22, (o_ald 100 0)), (23, (o_invV G d mX1_placeOf 1 1 0 0)), (26, (o_ld 0 2)), (27, (o_ld 0 2)), (28, (o_get 1 1 2)), (31, (o_ld 3 0)), (32, (o_ald 100 0)), (33, (o_ld 0 2)), (34, (o_get 1 2 2)), (37, (o_ld 3 0)), (38, (o_ald 100 0)), (39, (o_bin (fun a b => w32 (a - b)))), (40, (o_invV G d mX1_placeOf 1 1 0 0)), (43, (o_invV G d mX4_append 4 2 0 0)), (46, o_pop), (47, (o_inc 3 1)), (50, (o_go G Q mX1_write (d + 1) 7)), (53, (o_ci 0)), (54, (o_st 3 0)), (100000, o_go G Q mX1_write (d + 1) 55), (55, (o_ld 3 0)), (56, (o_ld 1 0)), (57, (o_if2 G Q mX1_write (d + 1) (fun a b => b ≤ a) 82)), (60, (o_ld 2 2)), (61, (o_get 4 2 2)), (64, (o_ld 3 0)), (65, (o_ld 0 2)), (66, (o_ld 0 2)), (67, (o_get 1 0 2)), (70, (o_ld 3 0)), (71, (o_ald 100 0)), (72, (o_invV G d mX1_placeOf 1 1 0 0)), (75, (o_ast 100 0 (fun x => x))), (76, (o_inc 3 1)), (79, (o_go G Q mX1_write (d + 1) 55)), (82, (o_ld 2 2)), (83, (o_ld 1 0)), (84, (o_put 4 5 0)), (87, (o_vret Q))]
set_option maxRecDepth 100000 in
set_option maxHeartbeats 4000000 in
theorem kX1_write (G : ms_G) (Q : ms_Q) (d : Nat) : ms_Oc G Q mX1_write (d + 1) (tX1_write G Q d) :=
  ms_oc1 rfl (s_aload_n rfl dX1_write_0) <|
  ms_oc1 rfl (s_iconst dX1_write_1 (by decide)) <|
  ms_oc1 rfl (s_invV (r := (RX4, TX4, 6)) rfl rfl kw_711 kw_407 kw_408 kw_77 kw_409 ⟨by decide +kernel, by decide +kernel, by decide +kernel⟩ (by decide) dX1_write_2) <|
  ms_oc1 rfl (s_iconst dX1_write_5 (by decide)) <|
  ms_occ (s_istore_n rfl (by decide) dX1_write_6) <|
  ms_oc1 rfl (s_iload_n rfl dX1_write_7) <|
  ms_oc1 rfl (s_aload_n rfl dX1_write_8) <|
  ms_oc1 rfl (s_get (r := (RX1, TX1, 4)) rfl (by decide) rfl rfl kw_285 dX1_write_9) <|
  ms_oc1 rfl (s_icmpge (by decide) dX1_write_12) <|
  ms_oc1 rfl (s_aload_n rfl dX1_write_15) <|
  ms_oc1 rfl (s_aload_n rfl dX1_write_16) <|
  ms_oc1 rfl (s_aload_n rfl dX1_write_17) <|
  ms_oc1 rfl (s_get (r := (RX1, TX1, 4)) rfl (by decide) rfl rfl kw_284 dX1_write_18) <|
  ms_oc1 rfl (s_iload_n rfl dX1_write_21) <|
  ms_oc1 rfl (s_iaload dX1_write_22) <|
  ms_oc1 rfl (s_invV (r := (RX1, TX1, 4)) rfl rfl kw_696 kw_698 kw_25 kw_85 kw_699 ⟨by decide +kernel, by decide +kernel, by decide +kernel⟩ (by decide) dX1_write_23) <|
  ms_oc1 rfl (s_aload_n rfl dX1_write_26) <|
  ms_oc1 rfl (s_aload_n rfl dX1_write_27) <|
  ms_oc1 rfl (s_get (r := (RX1, TX1, 4)) rfl (by decide) rfl rfl kw_283 dX1_write_28) <|
  ms_oc1 rfl (s_iload_n rfl dX1_write_31) <|
  ms_oc1 rfl (s_iaload dX1_write_32) <|
  ms_oc1 rfl (s_aload_n rfl dX1_write_33) <|
  ms_oc1 rfl (s_get (r := (RX1, TX1, 4)) rfl (by decide) rfl rfl kw_284 dX1_write_34) <|
  ms_oc1 rfl (s_iload_n rfl dX1_write_37) <|
  ms_oc1 rfl (s_iaload dX1_write_38) <|
  ms_oc1 rfl (s_isub dX1_write_39) <|
  ms_oc1 rfl (s_invV (r := (RX1, TX1, 4)) rfl rfl kw_696 kw_698 kw_25 kw_85 kw_699 ⟨by decide +kernel, by decide +kernel, by decide +kernel⟩ (by decide) dX1_write_40) <|
  ms_oc1 rfl (s_invV (r := (RX4, TX4, 6)) rfl rfl kw_712 kw_494 kw_495 kw_77 kw_496 ⟨by decide +kernel, by decide +kernel, by decide +kernel⟩ (by decide) dX1_write_43) <|
  ms_oc1 rfl (s_pop dX1_write_46) <|
  ms_oc1 rfl (s_iinc (by decide) dX1_write_47) <|
  ms_oc1 rfl (s_goto (by decide) dX1_write_50) <|
  ms_oc1 rfl (s_iconst dX1_write_53 (by decide)) <|
  ms_occ (s_istore_n rfl (by decide) dX1_write_54) <|
  ms_oc1 rfl (s_iload_n rfl dX1_write_55) <|
  ms_oc1 rfl (s_iload_n rfl dX1_write_56) <|
  ms_oc1 rfl (s_icmpge (by decide) dX1_write_57) <|
  ms_oc1 rfl (s_aload_n rfl dX1_write_60) <|
  ms_oc1 rfl (s_get (r := (RX4, TX4, 6)) rfl (by decide) rfl rfl kw_125 dX1_write_61) <|
  ms_oc1 rfl (s_iload_n rfl dX1_write_64) <|
  ms_oc1 rfl (s_aload_n rfl dX1_write_65) <|
  ms_oc1 rfl (s_aload_n rfl dX1_write_66) <|
  ms_oc1 rfl (s_get (r := (RX1, TX1, 4)) rfl (by decide) rfl rfl kw_282 dX1_write_67) <|
  ms_oc1 rfl (s_iload_n rfl dX1_write_70) <|
  ms_oc1 rfl (s_iaload dX1_write_71) <|
  ms_oc1 rfl (s_invV (r := (RX1, TX1, 4)) rfl rfl kw_696 kw_698 kw_25 kw_85 kw_699 ⟨by decide +kernel, by decide +kernel, by decide +kernel⟩ (by decide) dX1_write_72) <|
  ms_oc1 rfl (s_iastore dX1_write_75) <|
  ms_oc1 rfl (s_iinc (by decide) dX1_write_76) <|
  ms_oc1 rfl (s_goto (by decide) dX1_write_79) <|
  ms_oc1 rfl (s_aload_n rfl dX1_write_82) <|
  ms_oc1 rfl (s_iload_n rfl dX1_write_83) <|
  ms_oc1 rfl (s_put (r := (RX4, TX4, 6)) rfl (by decide) rfl rfl (ms_nar0 rfl) (Or.inl rfl) kw_139 dX1_write_84) <|
  ms_oc0 (s_vret rfl dX1_write_87)

def tX2_init (G : ms_G) (Q : ms_Q) (d : Nat) : List (Nat × ms_T) := [(0, (o_ld 0 2)), (1, o_oi), (4, (o_ld 0 2)), (5, (o_ci 256)), (8, (o_newa 101)), (10, (o_put 2 0 2)), (13, (o_vret Q))]
set_option maxRecDepth 100000 in
set_option maxHeartbeats 4000000 in
theorem kX2_init (G : ms_G) (Q : ms_Q) (d : Nat) : ms_Oc G Q mX2_init (d + 1) (tX2_init G Q d) :=
  ms_oc1 rfl (s_aload_n rfl dX2_init_0) <|
  ms_oc1 rfl (s_oi kw_195 kw_102 kw_103 dX2_init_1) <|
  ms_oc1 rfl (s_aload_n rfl dX2_init_4) <|
  ms_oc1 rfl (s_sipush dX2_init_5 (by decide) (by decide)) <|
  ms_oc1 rfl (s_newa (ty := .long) rfl kw_200 dX2_init_8 (Or.inr (Or.inl ⟨rfl, rfl⟩))) <|
  ms_oc1 rfl (s_put (r := (RX2, TX2, 1)) rfl (by decide) rfl rfl (ms_nar2 (fun r => by cases r <;> exact ⟨rfl, rfl⟩)) (Or.inr ⟨rfl, rfl⟩) kw_196 dX2_init_10) <|
  ms_oc0 (s_vret rfl dX2_init_13)

def tX2_measure (G : ms_G) (Q : ms_Q) (d : Nat) : List (Nat × ms_T) := [(0, (o_ci 0)), (1, (o_st 2 0)), (100000, o_go G Q mX2_measure (d + 1) 2), (2, (o_ld 2 0)), (3, (o_ld 1 2)), (4, (o_invV G d mX4_size 4 0 0 0)), (7, (o_if2 G Q mX2_measure (d + 1) (fun a b => b ≤ a) 49)), (10, (o_ld 1 2)), (11, (o_ld 2 0)), (12, (o_invV G d mX4_isBase 4 1 0 0)), (15, (o_if1 G Q mX2_measure (d + 1) (fun x => x = 0) 26)), (18, (o_ld 0 2)), (19, (o_ld 2 0)), (20, (o_invV G d mX2_measureBase 2 1 0 0)), (23, (o_go G Q mX2_measure (d + 1) 43)), (26, (o_ld 0 2)), (27, (o_ld 2 0)), (28, (o_ld 1 2)), (29, (o_get 4 0 2)), (32, (o_ld 2 0)), (33, (o_ald 100 0)), (34, (o_ld 1 2)), (35, (o_get 4 1 2)), (38, (o_ld 2 0)), (39, (o_ald 100 0)), (40, (o_invV G d mX2_measureStep 2 3 0 0)), (100000, o_go G Q mX2_measure (d + 1) 43), (43, (o_inc 2 1)), (46, (o_go G Q mX2_measure (d + 1) 2)), (49, (o_vret Q))]
set_option maxRecDepth 100000 in
set_option maxHeartbeats 4000000 in
theorem kX2_measure (G : ms_G) (Q : ms_Q) (d : Nat) : ms_Oc G Q mX2_measure (d + 1) (tX2_measure G Q d) :=
  ms_oc1 rfl (s_iconst dX2_measure_0 (by decide)) <|
  ms_occ (s_istore_n rfl (by decide) dX2_measure_1) <|
  ms_oc1 rfl (s_iload_n rfl dX2_measure_2) <|
  ms_oc1 rfl (s_aload_n rfl dX2_measure_3) <|
  ms_oc1 rfl (s_invV (r := (RX4, TX4, 6)) rfl rfl kw_593 kw_449 kw_450 kw_77 kw_451 ⟨by decide +kernel, by decide +kernel, by decide +kernel⟩ (by decide) dX2_measure_4) <|
  ms_oc1 rfl (s_icmpge (by decide) dX2_measure_7) <|
  ms_oc1 rfl (s_aload_n rfl dX2_measure_10) <|
  ms_oc1 rfl (s_iload_n rfl dX2_measure_11) <|
  ms_oc1 rfl (s_invV (r := (RX4, TX4, 6)) rfl rfl kw_594 kw_552 kw_553 kw_77 kw_554 ⟨by decide +kernel, by decide +kernel, by decide +kernel⟩ (by decide) dX2_measure_12) <|
  ms_oc1 rfl (s_ifeq (by decide) dX2_measure_15) <|
  ms_oc1 rfl (s_aload_n rfl dX2_measure_18) <|
  ms_oc1 rfl (s_iload_n rfl dX2_measure_19) <|
  ms_oc1 rfl (s_invV (r := (RX2, TX2, 1)) rfl rfl kw_595 kw_453 kw_454 kw_80 kw_455 ⟨by decide +kernel, by decide +kernel, by decide +kernel⟩ (by decide) dX2_measure_20) <|
  ms_oc1 rfl (s_goto (by decide) dX2_measure_23) <|
  ms_oc1 rfl (s_aload_n rfl dX2_measure_26) <|
  ms_oc1 rfl (s_iload_n rfl dX2_measure_27) <|
  ms_oc1 rfl (s_aload_n rfl dX2_measure_28) <|
  ms_oc1 rfl (s_get (r := (RX4, TX4, 6)) rfl (by decide) rfl rfl kw_111 dX2_measure_29) <|
  ms_oc1 rfl (s_iload_n rfl dX2_measure_32) <|
  ms_oc1 rfl (s_iaload dX2_measure_33) <|
  ms_oc1 rfl (s_aload_n rfl dX2_measure_34) <|
  ms_oc1 rfl (s_get (r := (RX4, TX4, 6)) rfl (by decide) rfl rfl kw_116 dX2_measure_35) <|
  ms_oc1 rfl (s_iload_n rfl dX2_measure_38) <|
  ms_oc1 rfl (s_iaload dX2_measure_39) <|
  ms_occ (s_invV (r := (RX2, TX2, 1)) rfl rfl kw_596 kw_499 kw_500 kw_80 kw_501 ⟨by decide +kernel, by decide +kernel, by decide +kernel⟩ (by decide) dX2_measure_40) <|
  ms_oc1 rfl (s_iinc (by decide) dX2_measure_43) <|
  ms_oc1 rfl (s_goto (by decide) dX2_measure_46) <|
  ms_oc0 (s_vret rfl dX2_measure_49)

def tX2_measureBase (G : ms_G) (Q : ms_Q) (d : Nat) : List (Nat × ms_T) := [(0, (o_ci 0)), (1, (o_st 2 0)), (100000, o_go G Q mX2_measureBase (d + 1) 2), (2, (o_ld 2 0)), (3, (o_ci 4)), (4, (o_if2 G Q mX2_measureBase (d + 1) (fun a b => b ≤ a) 33)), (7, (o_ld 0 2)), (8, (o_get 2 0 2)), (11, (o_ld 1 0)), (12, (o_ci 4)), (13, (o_bin (fun a b => w32 (a * b)))), (14, (o_ld 2 0)), (15, (o_bin (fun a b => w32 (a + b)))), (16, (o_ld 2 0)), (17, (o_ld 1 0)), (18, (o_if2 G Q mX2_measureBase (d + 1) (fun a b => ¬ a = b) 25)), (21, (o_cl 1)), (22, (o_go G Q mX2_measureBase (d + 1) 26)), (25, (o_cl 0)), (100000, o_go G Q mX2_measureBase (d + 1) 26), (26, (o_ast 101 1 (fun x => x))), (27, (o_inc 2 1)), (30, (o_go G Q mX2_measureBase (d + 1) 2)), (33, (o_vret Q))]
set_option maxRecDepth 100000 in
set_option maxHeartbeats 4000000 in
theorem kX2_measureBase (G : ms_G) (Q : ms_Q) (d : Nat) : ms_Oc G Q mX2_measureBase (d + 1) (tX2_measureBase G Q d) :=
  ms_oc1 rfl (s_iconst dX2_measureBase_0 (by decide)) <|
  ms_occ (s_istore_n rfl (by decide) dX2_measureBase_1) <|
  ms_oc1 rfl (s_iload_n rfl dX2_measureBase_2) <|
  ms_oc1 rfl (s_iconst dX2_measureBase_3 (by decide)) <|
  ms_oc1 rfl (s_icmpge (by decide) dX2_measureBase_4) <|
  ms_oc1 rfl (s_aload_n rfl dX2_measureBase_7) <|
  ms_oc1 rfl (s_get (r := (RX2, TX2, 1)) rfl (by decide) rfl rfl kw_196 dX2_measureBase_8) <|
  ms_oc1 rfl (s_iload_n rfl dX2_measureBase_11) <|
  ms_oc1 rfl (s_iconst dX2_measureBase_12 (by decide)) <|
  ms_oc1 rfl (s_imul dX2_measureBase_13) <|
  ms_oc1 rfl (s_iload_n rfl dX2_measureBase_14) <|
  ms_oc1 rfl (s_iadd dX2_measureBase_15) <|
  ms_oc1 rfl (s_iload_n rfl dX2_measureBase_16) <|
  ms_oc1 rfl (s_iload_n rfl dX2_measureBase_17) <|
  ms_oc1 rfl (s_icmpne (by decide) dX2_measureBase_18) <|
  ms_oc1 rfl (s_lconst dX2_measureBase_21 (by decide) (by decide)) <|
  ms_oc1 rfl (s_goto (by decide) dX2_measureBase_22) <|
  ms_occ (s_lconst dX2_measureBase_25 (by decide) (by decide)) <|
  ms_oc1 rfl (s_lastore dX2_measureBase_26) <|
  ms_oc1 rfl (s_iinc (by decide) dX2_measureBase_27) <|
  ms_oc1 rfl (s_goto (by decide) dX2_measureBase_30) <|
  ms_oc0 (s_vret rfl dX2_measureBase_33)

def tX2_measureStep (G : ms_G) (Q : ms_Q) (d : Nat) : List (Nat × ms_T) := [(0, (o_ci 0)), (1, (o_st 4 0)), (100000, o_go G Q mX2_measureStep (d + 1) 3), (3, (o_ld 4 0)), (5, (o_ci 4)), (6, (o_if2 G Q mX2_measureStep (d + 1) (fun a b => b ≤ a) 41)), (9, (o_ld 0 2)), (10, (o_get 2 0 2)), (13, (o_ld 1 0)), (14, (o_ci 4)), (15, (o_bin (fun a b => w32 (a * b)))), (16, (o_ld 4 0)), (18, (o_bin (fun a b => w32 (a + b)))), (19, (o_ld 0 2)), (20, (o_ld 2 0)), (21, (o_ld 4 0)), (23, (o_invV G d mX2_of 2 2 0 0)), (26, (o_ld 0 2)), (27, (o_ld 3 0)), (28, (o_ld 4 0)), (30, (o_invV G d mX2_of 2 2 0 0)), (33, (o_lbin (fun a b => w64 (a + b)))), (34, (o_ast 101 1 (fun x => x))), (35, (o_inc 4 1)), (38, (o_go G Q mX2_measureStep (d + 1) 3)), (41, (o_vret Q))]
set_option maxRecDepth 100000 in
set_option maxHeartbeats 4000000 in
theorem kX2_measureStep (G : ms_G) (Q : ms_Q) (d : Nat) : ms_Oc G Q mX2_measureStep (d + 1) (tX2_measureStep G Q d) :=
  ms_oc1 rfl (s_iconst dX2_measureStep_0 (by decide)) <|
  ms_occ (s_istore (by decide) dX2_measureStep_1) <|
  ms_oc1 rfl (s_iload dX2_measureStep_3) <|
  ms_oc1 rfl (s_iconst dX2_measureStep_5 (by decide)) <|
  ms_oc1 rfl (s_icmpge (by decide) dX2_measureStep_6) <|
  ms_oc1 rfl (s_aload_n rfl dX2_measureStep_9) <|
  ms_oc1 rfl (s_get (r := (RX2, TX2, 1)) rfl (by decide) rfl rfl kw_196 dX2_measureStep_10) <|
  ms_oc1 rfl (s_iload_n rfl dX2_measureStep_13) <|
  ms_oc1 rfl (s_iconst dX2_measureStep_14 (by decide)) <|
  ms_oc1 rfl (s_imul dX2_measureStep_15) <|
  ms_oc1 rfl (s_iload dX2_measureStep_16) <|
  ms_oc1 rfl (s_iadd dX2_measureStep_18) <|
  ms_oc1 rfl (s_aload_n rfl dX2_measureStep_19) <|
  ms_oc1 rfl (s_iload_n rfl dX2_measureStep_20) <|
  ms_oc1 rfl (s_iload dX2_measureStep_21) <|
  ms_oc1 rfl (s_invV (r := (RX2, TX2, 1)) rfl rfl kw_488 kw_489 kw_490 kw_80 kw_491 ⟨by decide +kernel, by decide +kernel, by decide +kernel⟩ (by decide) dX2_measureStep_23) <|
  ms_oc1 rfl (s_aload_n rfl dX2_measureStep_26) <|
  ms_oc1 rfl (s_iload_n rfl dX2_measureStep_27) <|
  ms_oc1 rfl (s_iload dX2_measureStep_28) <|
  ms_oc1 rfl (s_invV (r := (RX2, TX2, 1)) rfl rfl kw_488 kw_489 kw_490 kw_80 kw_491 ⟨by decide +kernel, by decide +kernel, by decide +kernel⟩ (by decide) dX2_measureStep_30) <|
  ms_oc1 rfl (s_ladd dX2_measureStep_33) <|
  ms_oc1 rfl (s_lastore dX2_measureStep_34) <|
  ms_oc1 rfl (s_iinc (by decide) dX2_measureStep_35) <|
  ms_oc1 rfl (s_goto (by decide) dX2_measureStep_38) <|
  ms_oc0 (s_vret rfl dX2_measureStep_41)

def tX2_of (G : ms_G) (Q : ms_Q) (d : Nat) : List (Nat × ms_T) := [(0, (o_ld 0 2)), (1, (o_get 2 0 2)), (4, (o_ld 1 0)), (5, (o_ci 4)), (6, (o_bin (fun a b => w32 (a * b)))), (7, (o_ld 2 0)), (8, (o_bin (fun a b => w32 (a + b)))), (9, (o_ald 101 1)), (10, (o_lret Q))]
set_option maxRecDepth 100000 in
set_option maxHeartbeats 4000000 in
theorem kX2_of (G : ms_G) (Q : ms_Q) (d : Nat) : ms_Oc G Q mX2_of (d + 1) (tX2_of G Q d) :=
  ms_oc1 rfl (s_aload_n rfl dX2_of_0) <|
  ms_oc1 rfl (s_get (r := (RX2, TX2, 1)) rfl (by decide) rfl rfl kw_196 dX2_of_1) <|
  ms_oc1 rfl (s_iload_n rfl dX2_of_4) <|
  ms_oc1 rfl (s_iconst dX2_of_5 (by decide)) <|
  ms_oc1 rfl (s_imul dX2_of_6) <|
  ms_oc1 rfl (s_iload_n rfl dX2_of_7) <|
  ms_oc1 rfl (s_iadd dX2_of_8) <|
  ms_oc1 rfl (s_laload dX2_of_9) <|
  ms_oc0 (s_lret rfl dX2_of_10)

def tX2_fit (G : ms_G) (Q : ms_Q) (d : Nat) : List (Nat × ms_T) := [(0, (o_ci 0)), (1, (o_st 3 0)), (100000, o_go G Q mX2_fit (d + 1) 2), (2, (o_ld 3 0)), (3, (o_ci 4)), (4, (o_if2 G Q mX2_fit (d + 1) (fun a b => b ≤ a) 35)), (7, (o_ld 0 2)), (8, (o_ld 1 0)), (9, (o_ld 3 0)), (10, (o_invV G d mX2_of 2 2 0 0)), (13, (o_ld 0 2)), (14, (o_ld 2 0)), (15, (o_ld 3 0)), (16, (o_invV G d mX2_of 2 2 0 0)), (19, (o_lbin (fun a b => w64 (a + b)))), (20, (o_cl (1000000000000000))), (23, o_lcmp), (24, (o_if1 G Q mX2_fit (d + 1) (fun x => x ≤ 0) 29)), (27, (o_ci 0)), (28, (o_ret Q true)), (29, (o_inc 3 1)), (32, (o_go G Q mX2_fit (d + 1) 2)), (35, (o_ci 1)), (36, (o_ret Q true))]
set_option maxRecDepth 100000 in
set_option maxHeartbeats 4000000 in
theorem kX2_fit (G : ms_G) (Q : ms_Q) (d : Nat) : ms_Oc G Q mX2_fit (d + 1) (tX2_fit G Q d) :=
  ms_oc1 rfl (s_iconst dX2_fit_0 (by decide)) <|
  ms_occ (s_istore_n rfl (by decide) dX2_fit_1) <|
  ms_oc1 rfl (s_iload_n rfl dX2_fit_2) <|
  ms_oc1 rfl (s_iconst dX2_fit_3 (by decide)) <|
  ms_oc1 rfl (s_icmpge (by decide) dX2_fit_4) <|
  ms_oc1 rfl (s_aload_n rfl dX2_fit_7) <|
  ms_oc1 rfl (s_iload_n rfl dX2_fit_8) <|
  ms_oc1 rfl (s_iload_n rfl dX2_fit_9) <|
  ms_oc1 rfl (s_invV (r := (RX2, TX2, 1)) rfl rfl kw_488 kw_489 kw_490 kw_80 kw_491 ⟨by decide +kernel, by decide +kernel, by decide +kernel⟩ (by decide) dX2_fit_10) <|
  ms_oc1 rfl (s_aload_n rfl dX2_fit_13) <|
  ms_oc1 rfl (s_iload_n rfl dX2_fit_14) <|
  ms_oc1 rfl (s_iload_n rfl dX2_fit_15) <|
  ms_oc1 rfl (s_invV (r := (RX2, TX2, 1)) rfl rfl kw_488 kw_489 kw_490 kw_80 kw_491 ⟨by decide +kernel, by decide +kernel, by decide +kernel⟩ (by decide) dX2_fit_16) <|
  ms_oc1 rfl (s_ladd dX2_fit_19) <|
  ms_oc1 rfl (s_ldc2 dX2_fit_20 kw_492 (by decide) (by decide)) <|
  ms_oc1 rfl (s_lcmp dX2_fit_23) <|
  ms_oc1 rfl (s_ifle (by decide) dX2_fit_24) <|
  ms_oc1 rfl (s_iconst dX2_fit_27 (by decide)) <|
  ms_oc1 rfl (s_iret (b := true) rfl dX2_fit_28) <|
  ms_oc1 rfl (s_iinc (by decide) dX2_fit_29) <|
  ms_oc1 rfl (s_goto (by decide) dX2_fit_32) <|
  ms_oc1 rfl (s_iconst dX2_fit_35 (by decide)) <|
  ms_oc0 (s_iret (b := true) rfl dX2_fit_36)

def tX2_firstAlike (G : ms_G) (Q : ms_Q) (d : Nat) : List (Nat × ms_T) := [(0, (o_ci 0)), (1, (o_st 2 0)), (100000, o_go G Q mX2_firstAlike (d + 1) 2), (2, (o_ld 2 0)), (3, (o_ld 1 0)), (4, (o_if2 G Q mX2_firstAlike (d + 1) (fun a b => b ≤ a) 24)), (7, (o_ld 0 2)), (8, (o_ld 2 0)), (9, (o_ld 1 0)), (10, (o_invV G d mX2_alike 2 2 0 0)), (13, (o_if1 G Q mX2_firstAlike (d + 1) (fun x => x = 0) 18)), (16, (o_ld 2 0)), (17, (o_ret Q false)), (18, (o_inc 2 1)), (21, (o_go G Q mX2_firstAlike (d + 1) 2)), (24, (o_ld 1 0)), (25, (o_ret Q false))]
set_option maxRecDepth 100000 in
set_option maxHeartbeats 4000000 in
theorem kX2_firstAlike (G : ms_G) (Q : ms_Q) (d : Nat) : ms_Oc G Q mX2_firstAlike (d + 1) (tX2_firstAlike G Q d) :=
  ms_oc1 rfl (s_iconst dX2_firstAlike_0 (by decide)) <|
  ms_occ (s_istore_n rfl (by decide) dX2_firstAlike_1) <|
  ms_oc1 rfl (s_iload_n rfl dX2_firstAlike_2) <|
  ms_oc1 rfl (s_iload_n rfl dX2_firstAlike_3) <|
  ms_oc1 rfl (s_icmpge (by decide) dX2_firstAlike_4) <|
  ms_oc1 rfl (s_aload_n rfl dX2_firstAlike_7) <|
  ms_oc1 rfl (s_iload_n rfl dX2_firstAlike_8) <|
  ms_oc1 rfl (s_iload_n rfl dX2_firstAlike_9) <|
  ms_oc1 rfl (s_invV (r := (RX2, TX2, 1)) rfl rfl kw_644 kw_646 kw_19 kw_80 kw_647 ⟨by decide +kernel, by decide +kernel, by decide +kernel⟩ (by decide) dX2_firstAlike_10) <|
  ms_oc1 rfl (s_ifeq (by decide) dX2_firstAlike_13) <|
  ms_oc1 rfl (s_iload_n rfl dX2_firstAlike_16) <|
  ms_oc1 rfl (s_iret (b := false) rfl dX2_firstAlike_17) <|
  ms_oc1 rfl (s_iinc (by decide) dX2_firstAlike_18) <|
  ms_oc1 rfl (s_goto (by decide) dX2_firstAlike_21) <|
  ms_oc1 rfl (s_iload_n rfl dX2_firstAlike_24) <|
  ms_oc0 (s_iret (b := false) rfl dX2_firstAlike_25)

def tX2_alike (G : ms_G) (Q : ms_Q) (d : Nat) : List (Nat × ms_T) := [(0, (o_ci 0)), (1, (o_st 3 0)), (100000, o_go G Q mX2_alike (d + 1) 2), (2, (o_ld 3 0)), (3, (o_ci 4)), (4, (o_if2 G Q mX2_alike (d + 1) (fun a b => b ≤ a) 31)), (7, (o_ld 0 2)), (8, (o_ld 1 0)), (9, (o_ld 3 0)), (10, (o_invV G d mX2_of 2 2 0 0)), (13, (o_ld 0 2)), (14, (o_ld 2 0)), (15, (o_ld 3 0)), (16, (o_invV G d mX2_of 2 2 0 0)), (19, o_lcmp), (20, (o_if1 G Q mX2_alike (d + 1) (fun x => x = 0) 25)), (23, (o_ci 0)), (24, (o_ret Q true)), (25, (o_inc 3 1)), (28, (o_go G Q mX2_alike (d + 1) 2)), (31, (o_ci 1)), (32, (o_ret Q true))]
set_option maxRecDepth 100000 in
set_option maxHeartbeats 4000000 in
theorem kX2_alike (G : ms_G) (Q : ms_Q) (d : Nat) : ms_Oc G Q mX2_alike (d + 1) (tX2_alike G Q d) :=
  ms_oc1 rfl (s_iconst dX2_alike_0 (by decide)) <|
  ms_occ (s_istore_n rfl (by decide) dX2_alike_1) <|
  ms_oc1 rfl (s_iload_n rfl dX2_alike_2) <|
  ms_oc1 rfl (s_iconst dX2_alike_3 (by decide)) <|
  ms_oc1 rfl (s_icmpge (by decide) dX2_alike_4) <|
  ms_oc1 rfl (s_aload_n rfl dX2_alike_7) <|
  ms_oc1 rfl (s_iload_n rfl dX2_alike_8) <|
  ms_oc1 rfl (s_iload_n rfl dX2_alike_9) <|
  ms_oc1 rfl (s_invV (r := (RX2, TX2, 1)) rfl rfl kw_488 kw_489 kw_490 kw_80 kw_491 ⟨by decide +kernel, by decide +kernel, by decide +kernel⟩ (by decide) dX2_alike_10) <|
  ms_oc1 rfl (s_aload_n rfl dX2_alike_13) <|
  ms_oc1 rfl (s_iload_n rfl dX2_alike_14) <|
  ms_oc1 rfl (s_iload_n rfl dX2_alike_15) <|
  ms_oc1 rfl (s_invV (r := (RX2, TX2, 1)) rfl rfl kw_488 kw_489 kw_490 kw_80 kw_491 ⟨by decide +kernel, by decide +kernel, by decide +kernel⟩ (by decide) dX2_alike_16) <|
  ms_oc1 rfl (s_lcmp dX2_alike_19) <|
  ms_oc1 rfl (s_ifeq (by decide) dX2_alike_20) <|
  ms_oc1 rfl (s_iconst dX2_alike_23 (by decide)) <|
  ms_oc1 rfl (s_iret (b := true) rfl dX2_alike_24) <|
  ms_oc1 rfl (s_iinc (by decide) dX2_alike_25) <|
  ms_oc1 rfl (s_goto (by decide) dX2_alike_28) <|
  ms_oc1 rfl (s_iconst dX2_alike_31 (by decide)) <|
  ms_oc0 (s_iret (b := true) rfl dX2_alike_32)

def tX3_init (G : ms_G) (Q : ms_Q) (d : Nat) : List (Nat × ms_T) := [(0, (o_ld 0 2)), (1, o_oi), (4, (o_ld 0 2)), (5, (o_ci 12)), (7, o_anew), (10, (o_put 3 0 2)), (13, (o_ci 0)), (14, (o_st 1 0)), (100000, o_go G Q mX3_init (d + 1) 15), (15, (o_ld 1 0)), (16, (o_ci 12)), (18, (o_if2 G Q mX3_init (d + 1) (fun a b => b ≤ a) 40)), (21, (o_ld 0 2)), (22, (o_get 3 0 2)), (25, (o_ld 1 0)), (26, (o_new 4 6)), (29, o_dup), (30, (o_invV G d mX4_init 4 0 3 132)), (33, o_aast), (34, (o_inc 1 1)), (37, (o_go G Q mX3_init (d + 1) 15)), (40, (o_vret Q))]
set_option maxRecDepth 100000 in
set_option maxHeartbeats 4000000 in
theorem kX3_init (G : ms_G) (Q : ms_Q) (d : Nat) : ms_Oc G Q mX3_init (d + 1) (tX3_init G Q d) :=
  ms_oc1 rfl (s_aload_n rfl dX3_init_0) <|
  ms_oc1 rfl (s_oi kw_160 kw_102 kw_103 dX3_init_1) <|
  ms_oc1 rfl (s_aload_n rfl dX3_init_4) <|
  ms_oc1 rfl (s_bipush dX3_init_5 (by decide) (by decide)) <|
  ms_oc1 rfl (s_anew kw_161 dX3_init_7) <|
  ms_oc1 rfl (s_put (r := (RX3, TX3, 3)) rfl (by decide) rfl rfl (ms_nar2 (fun r => by cases r <;> exact ⟨rfl, rfl⟩)) (Or.inr ⟨rfl, rfl⟩) kw_163 dX3_init_10) <|
  ms_oc1 rfl (s_iconst dX3_init_13 (by decide)) <|
  ms_occ (s_istore_n rfl (by decide) dX3_init_14) <|
  ms_oc1 rfl (s_iload_n rfl dX3_init_15) <|
  ms_oc1 rfl (s_bipush dX3_init_16 (by decide) (by decide)) <|
  ms_oc1 rfl (s_icmpge (by decide) dX3_init_18) <|
  ms_oc1 rfl (s_aload_n rfl dX3_init_21) <|
  ms_oc1 rfl (s_get (r := (RX3, TX3, 3)) rfl (by decide) rfl rfl kw_163 dX3_init_22) <|
  ms_oc1 rfl (s_iload_n rfl dX3_init_25) <|
  ms_oc1 rfl (s_new (r := (RX4, TX4, 6)) rfl rfl (by decide) kw_161 kw_105 kw_77 dX3_init_26) <|
  ms_oc1 rfl (s_dup dX3_init_29) <|
  ms_oc1 rfl (s_invIN (by decide) rfl rfl kw_162 kw_107 kw_77 kw_108 ⟨by decide +kernel, by decide +kernel, by decide +kernel⟩ (by decide) dX3_init_30) <|
  ms_oc1 rfl (s_aastore dX3_init_33) <|
  ms_oc1 rfl (s_iinc (by decide) dX3_init_34) <|
  ms_oc1 rfl (s_goto (by decide) dX3_init_37) <|
  ms_oc0 (s_vret rfl dX3_init_40)

def tX3_remember (G : ms_G) (Q : ms_Q) (d : Nat) : List (Nat × ms_T) := [(0, (o_ld 0 2)), (1, (o_get 3 2 0)), (4, (o_ci 12)), (6, (o_if2 G Q mX3_remember (d + 1) (fun a b => ¬ a = b) 32)), (9, (o_ld 0 2)), (10, (o_ld 0 2)), (11, (o_get 3 1 0)), (14, (o_ci 1)), (15, (o_bin (fun a b => w32 (a + b)))), (16, (o_ci 12)), (18, (o_dv wrem)), (19, (o_put 3 1 0)), (22, (o_ld 0 2)), (23, o_dup), (24, (o_get 3 2 0)), (27, (o_ci 1)), (28, (o_bin (fun a b => w32 (a - b)))), (29, (o_put 3 2 0)), (100000, o_go G Q mX3_remember (d + 1) 32), (32, (o_ld 0 2)), (33, (o_get 3 0 2)), (36, (o_ld 0 2)), (37, (o_get 3 1 0)), (40, (o_ld 0 2)), (41, (o_get 3 2 0)), (44, (o_bin (fun a b => w32 (a + b)))), (45, (o_ci 12)), (47, (o_dv wrem)), (48, (o_ald 104 2)), (49, (o_ld 1 2)), (50, (o_invV G d mX4_copyFrom 4 1 0 0)), (53, (o_ld 0 2)), (54, o_dup), (55, (o_get 3 2 0)), (58, (o_ci 1)), (59, (o_bin (fun a b => w32 (a + b)))), (60, (o_put 3 2 0)), (63, (o_vret Q))]
set_option maxRecDepth 100000 in
set_option maxHeartbeats 4000000 in
theorem kX3_remember (G : ms_G) (Q : ms_Q) (d : Nat) : ms_Oc G Q mX3_remember (d + 1) (tX3_remember G Q d) :=
  ms_oc1 rfl (s_aload_n rfl dX3_remember_0) <|
  ms_oc1 rfl (s_get (r := (RX3, TX3, 3)) rfl (by decide) rfl rfl kw_165 dX3_remember_1) <|
  ms_oc1 rfl (s_bipush dX3_remember_4 (by decide) (by decide)) <|
  ms_oc1 rfl (s_icmpne (by decide) dX3_remember_6) <|
  ms_oc1 rfl (s_aload_n rfl dX3_remember_9) <|
  ms_oc1 rfl (s_aload_n rfl dX3_remember_10) <|
  ms_oc1 rfl (s_get (r := (RX3, TX3, 3)) rfl (by decide) rfl rfl kw_164 dX3_remember_11) <|
  ms_oc1 rfl (s_iconst dX3_remember_14 (by decide)) <|
  ms_oc1 rfl (s_iadd dX3_remember_15) <|
  ms_oc1 rfl (s_bipush dX3_remember_16 (by decide) (by decide)) <|
  ms_oc1 rfl (s_irem dX3_remember_18) <|
  ms_oc1 rfl (s_put (r := (RX3, TX3, 3)) rfl (by decide) rfl rfl (ms_nar0 rfl) (Or.inl rfl) kw_164 dX3_remember_19) <|
  ms_oc1 rfl (s_aload_n rfl dX3_remember_22) <|
  ms_oc1 rfl (s_dup dX3_remember_23) <|
  ms_oc1 rfl (s_get (r := (RX3, TX3, 3)) rfl (by decide) rfl rfl kw_165 dX3_remember_24) <|
  ms_oc1 rfl (s_iconst dX3_remember_27 (by decide)) <|
  ms_oc1 rfl (s_isub dX3_remember_28) <|
  ms_occ (s_put (r := (RX3, TX3, 3)) rfl (by decide) rfl rfl (ms_nar0 rfl) (Or.inl rfl) kw_165 dX3_remember_29) <|
  ms_oc1 rfl (s_aload_n rfl dX3_remember_32) <|
  ms_oc1 rfl (s_get (r := (RX3, TX3, 3)) rfl (by decide) rfl rfl kw_163 dX3_remember_33) <|
  ms_oc1 rfl (s_aload_n rfl dX3_remember_36) <|
  ms_oc1 rfl (s_get (r := (RX3, TX3, 3)) rfl (by decide) rfl rfl kw_164 dX3_remember_37) <|
  ms_oc1 rfl (s_aload_n rfl dX3_remember_40) <|
  ms_oc1 rfl (s_get (r := (RX3, TX3, 3)) rfl (by decide) rfl rfl kw_165 dX3_remember_41) <|
  ms_oc1 rfl (s_iadd dX3_remember_44) <|
  ms_oc1 rfl (s_bipush dX3_remember_45 (by decide) (by decide)) <|
  ms_oc1 rfl (s_irem dX3_remember_47) <|
  ms_oc1 rfl (s_aaload dX3_remember_48) <|
  ms_oc1 rfl (s_aload_n rfl dX3_remember_49) <|
  ms_oc1 rfl (s_invV (r := (RX4, TX4, 6)) rfl rfl kw_531 kw_532 kw_533 kw_77 kw_534 ⟨by decide +kernel, by decide +kernel, by decide +kernel⟩ (by decide) dX3_remember_50) <|
  ms_oc1 rfl (s_aload_n rfl dX3_remember_53) <|
  ms_oc1 rfl (s_dup dX3_remember_54) <|
  ms_oc1 rfl (s_get (r := (RX3, TX3, 3)) rfl (by decide) rfl rfl kw_165 dX3_remember_55) <|
  ms_oc1 rfl (s_iconst dX3_remember_58 (by decide)) <|
  ms_oc1 rfl (s_iadd dX3_remember_59) <|
  ms_oc1 rfl (s_put (r := (RX3, TX3, 3)) rfl (by decide) rfl rfl (ms_nar0 rfl) (Or.inl rfl) kw_165 dX3_remember_60) <|
  ms_oc0 (s_vret rfl dX3_remember_63)

def tX3_takeBack (G : ms_G) (Q : ms_Q) (d : Nat) : List (Nat × ms_T) := [(0, (o_ld 0 2)), (1, (o_get 3 2 0)), (4, (o_if1 G Q mX3_takeBack (d + 1) (fun x => ¬ x = 0) 9)), (7, (o_ci (-1))), (8, (o_ret Q false)), (9, (o_ld 0 2)), (10, o_dup), (11, (o_get 3 2 0)), (14, (o_ci 1)), (15, (o_bin (fun a b => w32 (a - b)))), (16, (o_put 3 2 0)), (19, (o_ld 1 2)), (20, (o_ld 0 2)), (21, (o_get 3 0 2)), (24, (o_ld 0 2)), (25, (o_get 3 1 0)), (28, (o_ld 0 2)), (29, (o_get 3 2 0)), (32, (o_bin (fun a b => w32 (a + b)))), (33, (o_ci 12)), (35, (o_dv wrem)), (36, (o_ald 104 2)), (37, (o_invV G d mX4_copyFrom 4 1 0 0)), (40, (o_ld 0 2)), (41, (o_get 3 2 0)), (44, (o_ret Q false))]
set_option maxRecDepth 100000 in
set_option maxHeartbeats 4000000 in
theorem kX3_takeBack (G : ms_G) (Q : ms_Q) (d : Nat) : ms_Oc G Q mX3_takeBack (d + 1) (tX3_takeBack G Q d) :=
  ms_oc1 rfl (s_aload_n rfl dX3_takeBack_0) <|
  ms_oc1 rfl (s_get (r := (RX3, TX3, 3)) rfl (by decide) rfl rfl kw_165 dX3_takeBack_1) <|
  ms_oc1 rfl (s_ifne (by decide) dX3_takeBack_4) <|
  ms_oc1 rfl (s_iconst dX3_takeBack_7 (by decide)) <|
  ms_oc1 rfl (s_iret (b := false) rfl dX3_takeBack_8) <|
  ms_oc1 rfl (s_aload_n rfl dX3_takeBack_9) <|
  ms_oc1 rfl (s_dup dX3_takeBack_10) <|
  ms_oc1 rfl (s_get (r := (RX3, TX3, 3)) rfl (by decide) rfl rfl kw_165 dX3_takeBack_11) <|
  ms_oc1 rfl (s_iconst dX3_takeBack_14 (by decide)) <|
  ms_oc1 rfl (s_isub dX3_takeBack_15) <|
  ms_oc1 rfl (s_put (r := (RX3, TX3, 3)) rfl (by decide) rfl rfl (ms_nar0 rfl) (Or.inl rfl) kw_165 dX3_takeBack_16) <|
  ms_oc1 rfl (s_aload_n rfl dX3_takeBack_19) <|
  ms_oc1 rfl (s_aload_n rfl dX3_takeBack_20) <|
  ms_oc1 rfl (s_get (r := (RX3, TX3, 3)) rfl (by decide) rfl rfl kw_163 dX3_takeBack_21) <|
  ms_oc1 rfl (s_aload_n rfl dX3_takeBack_24) <|
  ms_oc1 rfl (s_get (r := (RX3, TX3, 3)) rfl (by decide) rfl rfl kw_164 dX3_takeBack_25) <|
  ms_oc1 rfl (s_aload_n rfl dX3_takeBack_28) <|
  ms_oc1 rfl (s_get (r := (RX3, TX3, 3)) rfl (by decide) rfl rfl kw_165 dX3_takeBack_29) <|
  ms_oc1 rfl (s_iadd dX3_takeBack_32) <|
  ms_oc1 rfl (s_bipush dX3_takeBack_33 (by decide) (by decide)) <|
  ms_oc1 rfl (s_irem dX3_takeBack_35) <|
  ms_oc1 rfl (s_aaload dX3_takeBack_36) <|
  ms_oc1 rfl (s_invV (r := (RX4, TX4, 6)) rfl rfl kw_531 kw_532 kw_533 kw_77 kw_534 ⟨by decide +kernel, by decide +kernel, by decide +kernel⟩ (by decide) dX3_takeBack_37) <|
  ms_oc1 rfl (s_aload_n rfl dX3_takeBack_40) <|
  ms_oc1 rfl (s_get (r := (RX3, TX3, 3)) rfl (by decide) rfl rfl kw_165 dX3_takeBack_41) <|
  ms_oc0 (s_iret (b := false) rfl dX3_takeBack_44)

def tX4_init (G : ms_G) (Q : ms_Q) (d : Nat) : List (Nat × ms_T) := [(0, (o_ld 0 2)), (1, o_oi), (4, (o_ld 0 2)), (5, (o_ci 64)), (7, (o_newa 100)), (9, (o_put 4 0 2)), (12, (o_ld 0 2)), (13, (o_ci 64)), (15, (o_newa 100)), (17, (o_put 4 1 2)), (20, (o_ld 0 2)), (21, (o_ci 4)), (22, (o_newa 100)), (24, (o_put 4 2 2)), (27, (o_vret Q))]
set_option maxRecDepth 100000 in
set_option maxHeartbeats 4000000 in
theorem kX4_init (G : ms_G) (Q : ms_Q) (d : Nat) : ms_Oc G Q mX4_init (d + 1) (tX4_init G Q d) :=
  ms_oc1 rfl (s_aload_n rfl dX4_init_0) <|
  ms_oc1 rfl (s_oi kw_109 kw_102 kw_103 dX4_init_1) <|
  ms_oc1 rfl (s_aload_n rfl dX4_init_4) <|
  ms_oc1 rfl (s_bipush dX4_init_5 (by decide) (by decide)) <|
  ms_oc1 rfl (s_newa (ty := .int) rfl kw_153 dX4_init_7 (Or.inl ⟨rfl, rfl⟩)) <|
  ms_oc1 rfl (s_put (r := (RX4, TX4, 6)) rfl (by decide) rfl rfl (ms_nar2 (fun r => by cases r <;> exact ⟨rfl, rfl⟩)) (Or.inr ⟨rfl, rfl⟩) kw_110 dX4_init_9) <|
  ms_oc1 rfl (s_aload_n rfl dX4_init_12) <|
  ms_oc1 rfl (s_bipush dX4_init_13 (by decide) (by decide)) <|
  ms_oc1 rfl (s_newa (ty := .int) rfl kw_153 dX4_init_15 (Or.inl ⟨rfl, rfl⟩)) <|
  ms_oc1 rfl (s_put (r := (RX4, TX4, 6)) rfl (by decide) rfl rfl (ms_nar2 (fun r => by cases r <;> exact ⟨rfl, rfl⟩)) (Or.inr ⟨rfl, rfl⟩) kw_115 dX4_init_17) <|
  ms_oc1 rfl (s_aload_n rfl dX4_init_20) <|
  ms_oc1 rfl (s_iconst dX4_init_21 (by decide)) <|
  ms_oc1 rfl (s_newa (ty := .int) rfl kw_153 dX4_init_22 (Or.inl ⟨rfl, rfl⟩)) <|
  ms_oc1 rfl (s_put (r := (RX4, TX4, 6)) rfl (by decide) rfl rfl (ms_nar2 (fun r => by cases r <;> exact ⟨rfl, rfl⟩)) (Or.inr ⟨rfl, rfl⟩) kw_120 dX4_init_24) <|
  ms_oc0 (s_vret rfl dX4_init_27)

def tX4_size (G : ms_G) (Q : ms_Q) (d : Nat) : List (Nat × ms_T) := [(0, (o_ld 0 2)), (1, (o_get 4 3 0)), (4, (o_ld 0 2)), (5, (o_get 4 4 0)), (8, (o_bin (fun a b => w32 (a + b)))), (9, (o_ret Q false))]
set_option maxRecDepth 100000 in
set_option maxHeartbeats 4000000 in
theorem kX4_size (G : ms_G) (Q : ms_Q) (d : Nat) : ms_Oc G Q mX4_size (d + 1) (tX4_size G Q d) :=
  ms_oc1 rfl (s_aload_n rfl dX4_size_0) <|
  ms_oc1 rfl (s_get (r := (RX4, TX4, 6)) rfl (by decide) rfl rfl kw_126 dX4_size_1) <|
  ms_oc1 rfl (s_aload_n rfl dX4_size_4) <|
  ms_oc1 rfl (s_get (r := (RX4, TX4, 6)) rfl (by decide) rfl rfl kw_131 dX4_size_5) <|
  ms_oc1 rfl (s_iadd dX4_size_8) <|
  ms_oc0 (s_iret (b := false) rfl dX4_size_9)

def tX4_has (G : ms_G) (Q : ms_Q) (d : Nat) : List (Nat × ms_T) := [(0, (o_ld 1 0)), (1, (o_if1 G Q mX4_has (d + 1) (fun x => x < 0) 16)), (4, (o_ld 1 0)), (5, (o_ld 0 2)), (6, (o_invV G d mX4_size 4 0 0 0)), (9, (o_if2 G Q mX4_has (d + 1) (fun a b => b ≤ a) 16)), (12, (o_ci 1)), (13, (o_go G Q mX4_has (d + 1) 17)), (16, (o_ci 0)), (100000, o_go G Q mX4_has (d + 1) 17), (17, (o_ret Q true))]
set_option maxRecDepth 100000 in
set_option maxHeartbeats 4000000 in
theorem kX4_has (G : ms_G) (Q : ms_Q) (d : Nat) : ms_Oc G Q mX4_has (d + 1) (tX4_has G Q d) :=
  ms_oc1 rfl (s_iload_n rfl dX4_has_0) <|
  ms_oc1 rfl (s_iflt (by decide) dX4_has_1) <|
  ms_oc1 rfl (s_iload_n rfl dX4_has_4) <|
  ms_oc1 rfl (s_aload_n rfl dX4_has_5) <|
  ms_oc1 rfl (s_invV (r := (RX4, TX4, 6)) rfl rfl kw_497 kw_449 kw_450 kw_77 kw_451 ⟨by decide +kernel, by decide +kernel, by decide +kernel⟩ (by decide) dX4_has_6) <|
  ms_oc1 rfl (s_icmpge (by decide) dX4_has_9) <|
  ms_oc1 rfl (s_iconst dX4_has_12 (by decide)) <|
  ms_oc1 rfl (s_goto (by decide) dX4_has_13) <|
  ms_occ (s_iconst dX4_has_16 (by decide)) <|
  ms_oc0 (s_iret (b := true) rfl dX4_has_17)

def tX4_isBase (G : ms_G) (Q : ms_Q) (d : Nat) : List (Nat × ms_T) := [(0, (o_ld 1 0)), (1, (o_ld 0 2)), (2, (o_get 4 3 0)), (5, (o_if2 G Q mX4_isBase (d + 1) (fun a b => b ≤ a) 12)), (8, (o_ci 1)), (9, (o_go G Q mX4_isBase (d + 1) 13)), (12, (o_ci 0)), (100000, o_go G Q mX4_isBase (d + 1) 13), (13, (o_ret Q true))]
set_option maxRecDepth 100000 in
set_option maxHeartbeats 4000000 in
theorem kX4_isBase (G : ms_G) (Q : ms_Q) (d : Nat) : ms_Oc G Q mX4_isBase (d + 1) (tX4_isBase G Q d) :=
  ms_oc1 rfl (s_iload_n rfl dX4_isBase_0) <|
  ms_oc1 rfl (s_aload_n rfl dX4_isBase_1) <|
  ms_oc1 rfl (s_get (r := (RX4, TX4, 6)) rfl (by decide) rfl rfl kw_126 dX4_isBase_2) <|
  ms_oc1 rfl (s_icmpge (by decide) dX4_isBase_5) <|
  ms_oc1 rfl (s_iconst dX4_isBase_8 (by decide)) <|
  ms_oc1 rfl (s_goto (by decide) dX4_isBase_9) <|
  ms_occ (s_iconst dX4_isBase_12 (by decide)) <|
  ms_oc0 (s_iret (b := true) rfl dX4_isBase_13)

def tX4_begin (G : ms_G) (Q : ms_Q) (d : Nat) : List (Nat × ms_T) := [(0, (o_ld 0 2)), (1, (o_ld 1 0)), (2, (o_put 4 3 0)), (5, (o_ld 0 2)), (6, (o_ci 0)), (7, (o_put 4 4 0)), (10, (o_ld 0 2)), (11, (o_ci 0)), (12, (o_put 4 5 0)), (15, (o_vret Q))]
set_option maxRecDepth 100000 in
set_option maxHeartbeats 4000000 in
theorem kX4_begin (G : ms_G) (Q : ms_Q) (d : Nat) : ms_Oc G Q mX4_begin (d + 1) (tX4_begin G Q d) :=
  ms_oc1 rfl (s_aload_n rfl dX4_begin_0) <|
  ms_oc1 rfl (s_iload_n rfl dX4_begin_1) <|
  ms_oc1 rfl (s_put (r := (RX4, TX4, 6)) rfl (by decide) rfl rfl (ms_nar0 rfl) (Or.inl rfl) kw_126 dX4_begin_2) <|
  ms_oc1 rfl (s_aload_n rfl dX4_begin_5) <|
  ms_oc1 rfl (s_iconst dX4_begin_6 (by decide)) <|
  ms_oc1 rfl (s_put (r := (RX4, TX4, 6)) rfl (by decide) rfl rfl (ms_nar0 rfl) (Or.inl rfl) kw_131 dX4_begin_7) <|
  ms_oc1 rfl (s_aload_n rfl dX4_begin_10) <|
  ms_oc1 rfl (s_iconst dX4_begin_11 (by decide)) <|
  ms_oc1 rfl (s_put (r := (RX4, TX4, 6)) rfl (by decide) rfl rfl (ms_nar0 rfl) (Or.inl rfl) kw_138 dX4_begin_12) <|
  ms_oc0 (s_vret rfl dX4_begin_15)

def tX4_append (G : ms_G) (Q : ms_Q) (d : Nat) : List (Nat × ms_T) := [(0, (o_ld 0 2)), (1, (o_get 4 4 0)), (4, (o_ci 60)), (6, (o_if2 G Q mX4_append (d + 1) (fun a b => a < b) 11)), (9, (o_ci (-1))), (10, (o_ret Q false)), (11, (o_ld 0 2)), (12, (o_invV G d mX4_size 4 0 0 0)), (15, (o_st 3 0)), (16, (o_ld 0 2)), (17, (o_get 4 0 2)), (20, (o_ld 3 0)), (21, (o_ld 1 0)), (22, (o_ast 100 0 (fun x => x))), (23, (o_ld 0 2)), (24, (o_get 4 1 2)), (27, (o_ld 3 0)), (28, (o_ld 2 0)), (29, (o_ast 100 0 (fun x => x))), (30, (o_ld 0 2)), (31, o_dup), (32, (o_get 4 4 0)), (35, (o_ci 1)), (36, (o_bin (fun a b => w32 (a + b)))), (37, (o_put 4 4 0)), (40, (o_ld 3 0)), (41, (o_ret Q false))]
set_option maxRecDepth 100000 in
set_option maxHeartbeats 4000000 in
theorem kX4_append (G : ms_G) (Q : ms_Q) (d : Nat) : ms_Oc G Q mX4_append (d + 1) (tX4_append G Q d) :=
  ms_oc1 rfl (s_aload_n rfl dX4_append_0) <|
  ms_oc1 rfl (s_get (r := (RX4, TX4, 6)) rfl (by decide) rfl rfl kw_131 dX4_append_1) <|
  ms_oc1 rfl (s_bipush dX4_append_4 (by decide) (by decide)) <|
  ms_oc1 rfl (s_icmplt (by decide) dX4_append_6) <|
  ms_oc1 rfl (s_iconst dX4_append_9 (by decide)) <|
  ms_oc1 rfl (s_iret (b := false) rfl dX4_append_10) <|
  ms_oc1 rfl (s_aload_n rfl dX4_append_11) <|
  ms_oc1 rfl (s_invV (r := (RX4, TX4, 6)) rfl rfl kw_497 kw_449 kw_450 kw_77 kw_451 ⟨by decide +kernel, by decide +kernel, by decide +kernel⟩ (by decide) dX4_append_12) <|
  ms_oc1 rfl (s_istore_n rfl (by decide) dX4_append_15) <|
  ms_oc1 rfl (s_aload_n rfl dX4_append_16) <|
  ms_oc1 rfl (s_get (r := (RX4, TX4, 6)) rfl (by decide) rfl rfl kw_110 dX4_append_17) <|
  ms_oc1 rfl (s_iload_n rfl dX4_append_20) <|
  ms_oc1 rfl (s_iload_n rfl dX4_append_21) <|
  ms_oc1 rfl (s_iastore dX4_append_22) <|
  ms_oc1 rfl (s_aload_n rfl dX4_append_23) <|
  ms_oc1 rfl (s_get (r := (RX4, TX4, 6)) rfl (by decide) rfl rfl kw_115 dX4_append_24) <|
  ms_oc1 rfl (s_iload_n rfl dX4_append_27) <|
  ms_oc1 rfl (s_iload_n rfl dX4_append_28) <|
  ms_oc1 rfl (s_iastore dX4_append_29) <|
  ms_oc1 rfl (s_aload_n rfl dX4_append_30) <|
  ms_oc1 rfl (s_dup dX4_append_31) <|
  ms_oc1 rfl (s_get (r := (RX4, TX4, 6)) rfl (by decide) rfl rfl kw_131 dX4_append_32) <|
  ms_oc1 rfl (s_iconst dX4_append_35 (by decide)) <|
  ms_oc1 rfl (s_iadd dX4_append_36) <|
  ms_oc1 rfl (s_put (r := (RX4, TX4, 6)) rfl (by decide) rfl rfl (ms_nar0 rfl) (Or.inl rfl) kw_131 dX4_append_37) <|
  ms_oc1 rfl (s_iload_n rfl dX4_append_40) <|
  ms_oc0 (s_iret (b := false) rfl dX4_append_41)

def tX4_copyFrom (G : ms_G) (Q : ms_Q) (d : Nat) : List (Nat × ms_T) := [(0, (o_ld 0 2)), (1, (o_ld 1 2)), (2, (o_get 4 3 0)), (5, (o_put 4 3 0)), (8, (o_ld 0 2)), (9, (o_ld 1 2)), (10, (o_get 4 4 0)), (13, (o_put 4 4 0)), (16, (o_ld 0 2)), (17, (o_ld 1 2)), (18, (o_get 4 5 0)), (21, (o_put 4 5 0)), (24, (o_ld 1 2)), (25, (o_get 4 0 2)), (28, (o_ci 0)), (29, (o_ld 0 2)), (30, (o_get 4 0 2)), (33, (o_ci 0)), (34, (o_ld 1 2)), (35, (o_invV G d mX4_size 4 0 0 0)), (38, o_acp), (41, (o_ld 1 2)), (42, (o_get 4 1 2)), (45, (o_ci 0)), (46, (o_ld 0 2)), (47, (o_get 4 1 2)), (50, (o_ci 0)), (51, (o_ld 1 2)), (52, (o_invV G d mX4_size 4 0 0 0)), (55, o_acp), (58, (o_ld 1 2)), (59, (o_get 4 2 2)), (62, (o_ci 0)), (63, (o_ld 0 2)), (64, (o_get 4 2 2)), (67, (o_ci 0)), (68, (o_ld 1 2)), (69, (o_get 4 5 0)), (72, o_acp), (75, (o_vret Q))]
set_option maxRecDepth 100000 in
set_option maxHeartbeats 4000000 in
theorem kX4_copyFrom (G : ms_G) (Q : ms_Q) (d : Nat) : ms_Oc G Q mX4_copyFrom (d + 1) (tX4_copyFrom G Q d) :=
  ms_oc1 rfl (s_aload_n rfl dX4_copyFrom_0) <|
  ms_oc1 rfl (s_aload_n rfl dX4_copyFrom_1) <|
  ms_oc1 rfl (s_get (r := (RX4, TX4, 6)) rfl (by decide) rfl rfl kw_126 dX4_copyFrom_2) <|
  ms_oc1 rfl (s_put (r := (RX4, TX4, 6)) rfl (by decide) rfl rfl (ms_nar0 rfl) (Or.inl rfl) kw_126 dX4_copyFrom_5) <|
  ms_oc1 rfl (s_aload_n rfl dX4_copyFrom_8) <|
  ms_oc1 rfl (s_aload_n rfl dX4_copyFrom_9) <|
  ms_oc1 rfl (s_get (r := (RX4, TX4, 6)) rfl (by decide) rfl rfl kw_131 dX4_copyFrom_10) <|
  ms_oc1 rfl (s_put (r := (RX4, TX4, 6)) rfl (by decide) rfl rfl (ms_nar0 rfl) (Or.inl rfl) kw_131 dX4_copyFrom_13) <|
  ms_oc1 rfl (s_aload_n rfl dX4_copyFrom_16) <|
  ms_oc1 rfl (s_aload_n rfl dX4_copyFrom_17) <|
  ms_oc1 rfl (s_get (r := (RX4, TX4, 6)) rfl (by decide) rfl rfl kw_138 dX4_copyFrom_18) <|
  ms_oc1 rfl (s_put (r := (RX4, TX4, 6)) rfl (by decide) rfl rfl (ms_nar0 rfl) (Or.inl rfl) kw_138 dX4_copyFrom_21) <|
  ms_oc1 rfl (s_aload_n rfl dX4_copyFrom_24) <|
  ms_oc1 rfl (s_get (r := (RX4, TX4, 6)) rfl (by decide) rfl rfl kw_110 dX4_copyFrom_25) <|
  ms_oc1 rfl (s_iconst dX4_copyFrom_28 (by decide)) <|
  ms_oc1 rfl (s_aload_n rfl dX4_copyFrom_29) <|
  ms_oc1 rfl (s_get (r := (RX4, TX4, 6)) rfl (by decide) rfl rfl kw_110 dX4_copyFrom_30) <|
  ms_oc1 rfl (s_iconst dX4_copyFrom_33 (by decide)) <|
  ms_oc1 rfl (s_aload_n rfl dX4_copyFrom_34) <|
  ms_oc1 rfl (s_invV (r := (RX4, TX4, 6)) rfl rfl kw_497 kw_449 kw_450 kw_77 kw_451 ⟨by decide +kernel, by decide +kernel, by decide +kernel⟩ (by decide) dX4_copyFrom_35) <|
  ms_oc1 rfl (s_acp kw_535 kw_537 kw_536 kw_90 (by decide +kernel) dX4_copyFrom_38) <|
  ms_oc1 rfl (s_aload_n rfl dX4_copyFrom_41) <|
  ms_oc1 rfl (s_get (r := (RX4, TX4, 6)) rfl (by decide) rfl rfl kw_115 dX4_copyFrom_42) <|
  ms_oc1 rfl (s_iconst dX4_copyFrom_45 (by decide)) <|
  ms_oc1 rfl (s_aload_n rfl dX4_copyFrom_46) <|
  ms_oc1 rfl (s_get (r := (RX4, TX4, 6)) rfl (by decide) rfl rfl kw_115 dX4_copyFrom_47) <|
  ms_oc1 rfl (s_iconst dX4_copyFrom_50 (by decide)) <|
  ms_oc1 rfl (s_aload_n rfl dX4_copyFrom_51) <|
  ms_oc1 rfl (s_invV (r := (RX4, TX4, 6)) rfl rfl kw_497 kw_449 kw_450 kw_77 kw_451 ⟨by decide +kernel, by decide +kernel, by decide +kernel⟩ (by decide) dX4_copyFrom_52) <|
  ms_oc1 rfl (s_acp kw_535 kw_537 kw_536 kw_90 (by decide +kernel) dX4_copyFrom_55) <|
  ms_oc1 rfl (s_aload_n rfl dX4_copyFrom_58) <|
  ms_oc1 rfl (s_get (r := (RX4, TX4, 6)) rfl (by decide) rfl rfl kw_120 dX4_copyFrom_59) <|
  ms_oc1 rfl (s_iconst dX4_copyFrom_62 (by decide)) <|
  ms_oc1 rfl (s_aload_n rfl dX4_copyFrom_63) <|
  ms_oc1 rfl (s_get (r := (RX4, TX4, 6)) rfl (by decide) rfl rfl kw_120 dX4_copyFrom_64) <|
  ms_oc1 rfl (s_iconst dX4_copyFrom_67 (by decide)) <|
  ms_oc1 rfl (s_aload_n rfl dX4_copyFrom_68) <|
  ms_oc1 rfl (s_get (r := (RX4, TX4, 6)) rfl (by decide) rfl rfl kw_138 dX4_copyFrom_69) <|
  ms_oc1 rfl (s_acp kw_535 kw_537 kw_536 kw_90 (by decide +kernel) dX4_copyFrom_72) <|
  ms_oc0 (s_vret rfl dX4_copyFrom_75)

def tX4_kind (G : ms_G) (Q : ms_Q) (d : Nat) : List (Nat × ms_T) := [(0, (o_ld 0 2)), (1, (o_ld 1 0)), (2, (o_invV G d mX4_isBase 4 1 0 0)), (5, (o_if1 G Q mX4_kind (d + 1) (fun x => x = 0) 10)), (8, (o_ci 3)), (9, (o_ret Q false)), (10, (o_ld 0 2)), (11, (o_get 4 0 2)), (14, (o_ld 1 0)), (15, (o_ald 100 0)), (16, (o_ld 0 2)), (17, (o_get 4 1 2)), (20, (o_ld 1 0)), (21, (o_ald 100 0)), (22, (o_if2 G Q mX4_kind (d + 1) (fun a b => ¬ a = b) 27)), (25, (o_ci 0)), (26, (o_ret Q false)), (27, (o_ld 0 2)), (28, (o_get 4 0 2)), (31, (o_ld 1 0)), (32, (o_ald 100 0)), (33, (o_ld 1 0)), (34, (o_ci 1)), (35, (o_bin (fun a b => w32 (a - b)))), (36, (o_if2 G Q mX4_kind (d + 1) (fun a b => a = b) 51)), (39, (o_ld 0 2)), (40, (o_get 4 1 2)), (43, (o_ld 1 0)), (44, (o_ald 100 0)), (45, (o_ld 1 0)), (46, (o_ci 1)), (47, (o_bin (fun a b => w32 (a - b)))), (48, (o_if2 G Q mX4_kind (d + 1) (fun a b => ¬ a = b) 55)), (100000, o_go G Q mX4_kind (d + 1) 51), (51, (o_ci 1)), (52, (o_go G Q mX4_kind (d + 1) 56)), (55, (o_ci 2)), (100000, o_go G Q mX4_kind (d + 1) 56), (56, (o_ret Q false))]
set_option maxRecDepth 100000 in
set_option maxHeartbeats 4000000 in
theorem kX4_kind (G : ms_G) (Q : ms_Q) (d : Nat) : ms_Oc G Q mX4_kind (d + 1) (tX4_kind G Q d) :=
  ms_oc1 rfl (s_aload_n rfl dX4_kind_0) <|
  ms_oc1 rfl (s_iload_n rfl dX4_kind_1) <|
  ms_oc1 rfl (s_invV (r := (RX4, TX4, 6)) rfl rfl kw_551 kw_552 kw_553 kw_77 kw_554 ⟨by decide +kernel, by decide +kernel, by decide +kernel⟩ (by decide) dX4_kind_2) <|
  ms_oc1 rfl (s_ifeq (by decide) dX4_kind_5) <|
  ms_oc1 rfl (s_iconst dX4_kind_8 (by decide)) <|
  ms_oc1 rfl (s_iret (b := false) rfl dX4_kind_9) <|
  ms_oc1 rfl (s_aload_n rfl dX4_kind_10) <|
  ms_oc1 rfl (s_get (r := (RX4, TX4, 6)) rfl (by decide) rfl rfl kw_110 dX4_kind_11) <|
  ms_oc1 rfl (s_iload_n rfl dX4_kind_14) <|
  ms_oc1 rfl (s_iaload dX4_kind_15) <|
  ms_oc1 rfl (s_aload_n rfl dX4_kind_16) <|
  ms_oc1 rfl (s_get (r := (RX4, TX4, 6)) rfl (by decide) rfl rfl kw_115 dX4_kind_17) <|
  ms_oc1 rfl (s_iload_n rfl dX4_kind_20) <|
  ms_oc1 rfl (s_iaload dX4_kind_21) <|
  ms_oc1 rfl (s_icmpne (by decide) dX4_kind_22) <|
  ms_oc1 rfl (s_iconst dX4_kind_25 (by decide)) <|
  ms_oc1 rfl (s_iret (b := false) rfl dX4_kind_26) <|
  ms_oc1 rfl (s_aload_n rfl dX4_kind_27) <|
  ms_oc1 rfl (s_get (r := (RX4, TX4, 6)) rfl (by decide) rfl rfl kw_110 dX4_kind_28) <|
  ms_oc1 rfl (s_iload_n rfl dX4_kind_31) <|
  ms_oc1 rfl (s_iaload dX4_kind_32) <|
  ms_oc1 rfl (s_iload_n rfl dX4_kind_33) <|
  ms_oc1 rfl (s_iconst dX4_kind_34 (by decide)) <|
  ms_oc1 rfl (s_isub dX4_kind_35) <|
  ms_oc1 rfl (s_icmpeq (by decide) dX4_kind_36) <|
  ms_oc1 rfl (s_aload_n rfl dX4_kind_39) <|
  ms_oc1 rfl (s_get (r := (RX4, TX4, 6)) rfl (by decide) rfl rfl kw_115 dX4_kind_40) <|
  ms_oc1 rfl (s_iload_n rfl dX4_kind_43) <|
  ms_oc1 rfl (s_iaload dX4_kind_44) <|
  ms_oc1 rfl (s_iload_n rfl dX4_kind_45) <|
  ms_oc1 rfl (s_iconst dX4_kind_46 (by decide)) <|
  ms_oc1 rfl (s_isub dX4_kind_47) <|
  ms_occ (s_icmpne (by decide) dX4_kind_48) <|
  ms_oc1 rfl (s_iconst dX4_kind_51 (by decide)) <|
  ms_oc1 rfl (s_goto (by decide) dX4_kind_52) <|
  ms_occ (s_iconst dX4_kind_55 (by decide)) <|
  ms_oc0 (s_iret (b := false) rfl dX4_kind_56)

def tX4_stepsOfKind (G : ms_G) (Q : ms_Q) (d : Nat) : List (Nat × ms_T) := [(0, (o_ci 0)), (1, (o_st 2 0)), (2, (o_ld 0 2)), (3, (o_get 4 3 0)), (6, (o_st 3 0)), (100000, o_go G Q mX4_stepsOfKind (d + 1) 7), (7, (o_ld 3 0)), (8, (o_ld 0 2)), (9, (o_invV G d mX4_size 4 0 0 0)), (12, (o_if2 G Q mX4_stepsOfKind (d + 1) (fun a b => b ≤ a) 33)), (15, (o_ld 0 2)), (16, (o_ld 3 0)), (17, (o_invV G d mX4_kind 4 1 0 0)), (20, (o_ld 1 0)), (21, (o_if2 G Q mX4_stepsOfKind (d + 1) (fun a b => ¬ a = b) 27)), (24, (o_inc 2 1)), (100000, o_go G Q mX4_stepsOfKind (d + 1) 27), (27, (o_inc 3 1)), (30, (o_go G Q mX4_stepsOfKind (d + 1) 7)), (33, (o_ld 2 0)), (34, (o_ret Q false))]
set_option maxRecDepth 100000 in
set_option maxHeartbeats 4000000 in
theorem kX4_stepsOfKind (G : ms_G) (Q : ms_Q) (d : Nat) : ms_Oc G Q mX4_stepsOfKind (d + 1) (tX4_stepsOfKind G Q d) :=
  ms_oc1 rfl (s_iconst dX4_stepsOfKind_0 (by decide)) <|
  ms_oc1 rfl (s_istore_n rfl (by decide) dX4_stepsOfKind_1) <|
  ms_oc1 rfl (s_aload_n rfl dX4_stepsOfKind_2) <|
  ms_oc1 rfl (s_get (r := (RX4, TX4, 6)) rfl (by decide) rfl rfl kw_126 dX4_stepsOfKind_3) <|
  ms_occ (s_istore_n rfl (by decide) dX4_stepsOfKind_6) <|
  ms_oc1 rfl (s_iload_n rfl dX4_stepsOfKind_7) <|
  ms_oc1 rfl (s_aload_n rfl dX4_stepsOfKind_8) <|
  ms_oc1 rfl (s_invV (r := (RX4, TX4, 6)) rfl rfl kw_497 kw_449 kw_450 kw_77 kw_451 ⟨by decide +kernel, by decide +kernel, by decide +kernel⟩ (by decide) dX4_stepsOfKind_9) <|
  ms_oc1 rfl (s_icmpge (by decide) dX4_stepsOfKind_12) <|
  ms_oc1 rfl (s_aload_n rfl dX4_stepsOfKind_15) <|
  ms_oc1 rfl (s_iload_n rfl dX4_stepsOfKind_16) <|
  ms_oc1 rfl (s_invV (r := (RX4, TX4, 6)) rfl rfl kw_547 kw_548 kw_549 kw_77 kw_550 ⟨by decide +kernel, by decide +kernel, by decide +kernel⟩ (by decide) dX4_stepsOfKind_17) <|
  ms_oc1 rfl (s_iload_n rfl dX4_stepsOfKind_20) <|
  ms_oc1 rfl (s_icmpne (by decide) dX4_stepsOfKind_21) <|
  ms_occ (s_iinc (by decide) dX4_stepsOfKind_24) <|
  ms_oc1 rfl (s_iinc (by decide) dX4_stepsOfKind_27) <|
  ms_oc1 rfl (s_goto (by decide) dX4_stepsOfKind_30) <|
  ms_oc1 rfl (s_iload_n rfl dX4_stepsOfKind_33) <|
  ms_oc0 (s_iret (b := false) rfl dX4_stepsOfKind_34)

def tX4_uses (G : ms_G) (Q : ms_Q) (d : Nat) : List (Nat × ms_T) := [(0, (o_ci 0)), (1, (o_st 2 0)), (2, (o_ld 0 2)), (3, (o_get 4 3 0)), (6, (o_st 3 0)), (100000, o_go G Q mX4_uses (d + 1) 7), (7, (o_ld 3 0)), (8, (o_ld 0 2)), (9, (o_invV G d mX4_size 4 0 0 0)), (12, (o_if2 G Q mX4_uses (d + 1) (fun a b => b ≤ a) 55)), (15, (o_ld 2 0)), (16, (o_ld 0 2)), (17, (o_get 4 0 2)), (20, (o_ld 3 0)), (21, (o_ald 100 0)), (22, (o_ld 1 0)), (23, (o_if2 G Q mX4_uses (d + 1) (fun a b => ¬ a = b) 30)), (26, (o_ci 1)), (27, (o_go G Q mX4_uses (d + 1) 31)), (30, (o_ci 0)), (100000, o_go G Q mX4_uses (d + 1) 31), (31, (o_ld 0 2)), (32, (o_get 4 1 2)), (35, (o_ld 3 0)), (36, (o_ald 100 0)), (37, (o_ld 1 0)), (38, (o_if2 G Q mX4_uses (d + 1) (fun a b => ¬ a = b) 45)), (41, (o_ci 1)), (42, (o_go G Q mX4_uses (d + 1) 46)), (45, (o_ci 0)), (100000, o_go G Q mX4_uses (d + 1) 46), (46, (o_bin (fun a b => w32 (a + b)))), (47, (o_bin (fun a b => w32 (a + b)))), (48, (o_st 2 0)), (49, (o_inc 3 1)), (52, (o_go G Q mX4_uses (d + 1) 7)), (55, (o_ld 2 0)), (56, (o_ret Q false))]
set_option maxRecDepth 100000 in
set_option maxHeartbeats 4000000 in
theorem kX4_uses (G : ms_G) (Q : ms_Q) (d : Nat) : ms_Oc G Q mX4_uses (d + 1) (tX4_uses G Q d) :=
  ms_oc1 rfl (s_iconst dX4_uses_0 (by decide)) <|
  ms_oc1 rfl (s_istore_n rfl (by decide) dX4_uses_1) <|
  ms_oc1 rfl (s_aload_n rfl dX4_uses_2) <|
  ms_oc1 rfl (s_get (r := (RX4, TX4, 6)) rfl (by decide) rfl rfl kw_126 dX4_uses_3) <|
  ms_occ (s_istore_n rfl (by decide) dX4_uses_6) <|
  ms_oc1 rfl (s_iload_n rfl dX4_uses_7) <|
  ms_oc1 rfl (s_aload_n rfl dX4_uses_8) <|
  ms_oc1 rfl (s_invV (r := (RX4, TX4, 6)) rfl rfl kw_497 kw_449 kw_450 kw_77 kw_451 ⟨by decide +kernel, by decide +kernel, by decide +kernel⟩ (by decide) dX4_uses_9) <|
  ms_oc1 rfl (s_icmpge (by decide) dX4_uses_12) <|
  ms_oc1 rfl (s_iload_n rfl dX4_uses_15) <|
  ms_oc1 rfl (s_aload_n rfl dX4_uses_16) <|
  ms_oc1 rfl (s_get (r := (RX4, TX4, 6)) rfl (by decide) rfl rfl kw_110 dX4_uses_17) <|
  ms_oc1 rfl (s_iload_n rfl dX4_uses_20) <|
  ms_oc1 rfl (s_iaload dX4_uses_21) <|
  ms_oc1 rfl (s_iload_n rfl dX4_uses_22) <|
  ms_oc1 rfl (s_icmpne (by decide) dX4_uses_23) <|
  ms_oc1 rfl (s_iconst dX4_uses_26 (by decide)) <|
  ms_oc1 rfl (s_goto (by decide) dX4_uses_27) <|
  ms_occ (s_iconst dX4_uses_30 (by decide)) <|
  ms_oc1 rfl (s_aload_n rfl dX4_uses_31) <|
  ms_oc1 rfl (s_get (r := (RX4, TX4, 6)) rfl (by decide) rfl rfl kw_115 dX4_uses_32) <|
  ms_oc1 rfl (s_iload_n rfl dX4_uses_35) <|
  ms_oc1 rfl (s_iaload dX4_uses_36) <|
  ms_oc1 rfl (s_iload_n rfl dX4_uses_37) <|
  ms_oc1 rfl (s_icmpne (by decide) dX4_uses_38) <|
  ms_oc1 rfl (s_iconst dX4_uses_41 (by decide)) <|
  ms_oc1 rfl (s_goto (by decide) dX4_uses_42) <|
  ms_occ (s_iconst dX4_uses_45 (by decide)) <|
  ms_oc1 rfl (s_iadd dX4_uses_46) <|
  ms_oc1 rfl (s_iadd dX4_uses_47) <|
  ms_oc1 rfl (s_istore_n rfl (by decide) dX4_uses_48) <|
  ms_oc1 rfl (s_iinc (by decide) dX4_uses_49) <|
  ms_oc1 rfl (s_goto (by decide) dX4_uses_52) <|
  ms_oc1 rfl (s_iload_n rfl dX4_uses_55) <|
  ms_oc0 (s_iret (b := false) rfl dX4_uses_56)

def tX4_compact (G : ms_G) (Q : ms_Q) (d : Nat) : List (Nat × ms_T) := [(0, (o_ld 0 2)), (1, (o_invV G d mX4_size 4 0 0 0)), (4, (o_st 2 0)), (5, (o_ld 0 2)), (6, (o_get 4 3 0)), (9, (o_st 3 0)), (10, (o_ld 0 2)), (11, (o_get 4 3 0)), (14, (o_st 4 0)), (100000, o_go G Q mX4_compact (d + 1) 16), (16, (o_ld 4 0)), (18, (o_ld 2 0)), (19, (o_if2 G Q mX4_compact (d + 1) (fun a b => b ≤ a) 96)), (22, (o_ld 1 2)), (23, (o_ld 4 0)), (25, (o_ald 100 0)), (26, (o_st 5 0)), (28, (o_ld 5 0)), (30, (o_ld 4 0)), (32, (o_if2 G Q mX4_compact (d + 1) (fun a b => ¬ a = b) 76)), (35, (o_ld 0 2)), (36, (o_get 4 0 2)), (39, (o_ld 3 0)), (40, (o_ld 1 2)), (41, (o_ld 0 2)), (42, (o_get 4 0 2)), (45, (o_ld 4 0)), (47, (o_ald 100 0)), (48, (o_ald 100 0)), (49, (o_ast 100 0 (fun x => x))), (50, (o_ld 0 2)), (51, (o_get 4 1 2)), (54, (o_ld 3 0)), (55, (o_ld 1 2)), (56, (o_ld 0 2)), (57, (o_get 4 1 2)), (60, (o_ld 4 0)), (62, (o_ald 100 0)), (63, (o_ald 100 0)), (64, (o_ast 100 0 (fun x => x))), (65, (o_ld 1 2)), (66, (o_ld 4 0)), (68, (o_ld 3 0)), (69, (o_ast 100 0 (fun x => x))), (70, (o_inc 3 1)), (73, (o_go G Q mX4_compact (d + 1) 90)), (76, (o_ld 5 0)), (78, (o_ci (-1))), (79, (o_if2 G Q mX4_compact (d + 1) (fun a b => a = b) 90)), (82, (o_ld 1 2)), (83, (o_ld 4 0)), (85, (o_ld 1 2)), (86, (o_ld 5 0)), (88, (o_ald 100 0)), (89, (o_ast 100 0 (fun x => x))), (100000, o_go G Q mX4_compact (d + 1) 90), (90, (o_inc 4 1)), (93, (o_go G Q mX4_compact (d + 1) 16)), (96, (o_ci 0)), (97, (o_st 4 0)), (100000, o_go G Q mX4_compact (d + 1) 99), (99, (o_ld 4 0)), (101, (o_ld 0 2)), (102, (o_get 4 5 0)), (105, (o_if2 G Q mX4_compact (d + 1) (fun a b => b ≤ a) 130)), (108, (o_ld 0 2)), (109, (o_get 4 2 2)), (112, (o_ld 4 0)), (114, (o_ld 1 2)), (115, (o_ld 0 2)), (116, (o_get 4 2 2)), (119, (o_ld 4 0)), (121, (o_ald 100 0)), (122, (o_ald 100 0)), (123, (o_ast 100 0 (fun x => x))), (124, (o_inc 4 1)), (127, (o_go G Q mX4_compact (d + 1) 99)), (130, (o_ld 0 2)), (131, (o_ld 3 0)), (132, (o_ld 0 2)), (133, (o_get 4 3 0)), (136, (o_bin (fun a b => w32 (a - b)))), (137, (o_put 4 4 0)), (140, (o_ld 2 0)), (141, (o_ld 3 0)), (142, (o_bin (fun a b => w32 (a - b)))), (143, (o_ret Q false))]
set_option maxRecDepth 100000 in
set_option maxHeartbeats 4000000 in
theorem kX4_compact (G : ms_G) (Q : ms_Q) (d : Nat) : ms_Oc G Q mX4_compact (d + 1) (tX4_compact G Q d) :=
  ms_oc1 rfl (s_aload_n rfl dX4_compact_0) <|
  ms_oc1 rfl (s_invV (r := (RX4, TX4, 6)) rfl rfl kw_497 kw_449 kw_450 kw_77 kw_451 ⟨by decide +kernel, by decide +kernel, by decide +kernel⟩ (by decide) dX4_compact_1) <|
  ms_oc1 rfl (s_istore_n rfl (by decide) dX4_compact_4) <|
  ms_oc1 rfl (s_aload_n rfl dX4_compact_5) <|
  ms_oc1 rfl (s_get (r := (RX4, TX4, 6)) rfl (by decide) rfl rfl kw_126 dX4_compact_6) <|
  ms_oc1 rfl (s_istore_n rfl (by decide) dX4_compact_9) <|
  ms_oc1 rfl (s_aload_n rfl dX4_compact_10) <|
  ms_oc1 rfl (s_get (r := (RX4, TX4, 6)) rfl (by decide) rfl rfl kw_126 dX4_compact_11) <|
  ms_occ (s_istore (by decide) dX4_compact_14) <|
  ms_oc1 rfl (s_iload dX4_compact_16) <|
  ms_oc1 rfl (s_iload_n rfl dX4_compact_18) <|
  ms_oc1 rfl (s_icmpge (by decide) dX4_compact_19) <|
  ms_oc1 rfl (s_aload_n rfl dX4_compact_22) <|
  ms_oc1 rfl (s_iload dX4_compact_23) <|
  ms_oc1 rfl (s_iaload dX4_compact_25) <|
  ms_oc1 rfl (s_istore (by decide) dX4_compact_26) <|
  ms_oc1 rfl (s_iload dX4_compact_28) <|
  ms_oc1 rfl (s_iload dX4_compact_30) <|
  ms_oc1 rfl (s_icmpne (by decide) dX4_compact_32) <|
  ms_oc1 rfl (s_aload_n rfl dX4_compact_35) <|
  ms_oc1 rfl (s_get (r := (RX4, TX4, 6)) rfl (by decide) rfl rfl kw_110 dX4_compact_36) <|
  ms_oc1 rfl (s_iload_n rfl dX4_compact_39) <|
  ms_oc1 rfl (s_aload_n rfl dX4_compact_40) <|
  ms_oc1 rfl (s_aload_n rfl dX4_compact_41) <|
  ms_oc1 rfl (s_get (r := (RX4, TX4, 6)) rfl (by decide) rfl rfl kw_110 dX4_compact_42) <|
  ms_oc1 rfl (s_iload dX4_compact_45) <|
  ms_oc1 rfl (s_iaload dX4_compact_47) <|
  ms_oc1 rfl (s_iaload dX4_compact_48) <|
  ms_oc1 rfl (s_iastore dX4_compact_49) <|
  ms_oc1 rfl (s_aload_n rfl dX4_compact_50) <|
  ms_oc1 rfl (s_get (r := (RX4, TX4, 6)) rfl (by decide) rfl rfl kw_115 dX4_compact_51) <|
  ms_oc1 rfl (s_iload_n rfl dX4_compact_54) <|
  ms_oc1 rfl (s_aload_n rfl dX4_compact_55) <|
  ms_oc1 rfl (s_aload_n rfl dX4_compact_56) <|
  ms_oc1 rfl (s_get (r := (RX4, TX4, 6)) rfl (by decide) rfl rfl kw_115 dX4_compact_57) <|
  ms_oc1 rfl (s_iload dX4_compact_60) <|
  ms_oc1 rfl (s_iaload dX4_compact_62) <|
  ms_oc1 rfl (s_iaload dX4_compact_63) <|
  ms_oc1 rfl (s_iastore dX4_compact_64) <|
  ms_oc1 rfl (s_aload_n rfl dX4_compact_65) <|
  ms_oc1 rfl (s_iload dX4_compact_66) <|
  ms_oc1 rfl (s_iload_n rfl dX4_compact_68) <|
  ms_oc1 rfl (s_iastore dX4_compact_69) <|
  ms_oc1 rfl (s_iinc (by decide) dX4_compact_70) <|
  ms_oc1 rfl (s_goto (by decide) dX4_compact_73) <|
  ms_oc1 rfl (s_iload dX4_compact_76) <|
  ms_oc1 rfl (s_iconst dX4_compact_78 (by decide)) <|
  ms_oc1 rfl (s_icmpeq (by decide) dX4_compact_79) <|
  ms_oc1 rfl (s_aload_n rfl dX4_compact_82) <|
  ms_oc1 rfl (s_iload dX4_compact_83) <|
  ms_oc1 rfl (s_aload_n rfl dX4_compact_85) <|
  ms_oc1 rfl (s_iload dX4_compact_86) <|
  ms_oc1 rfl (s_iaload dX4_compact_88) <|
  ms_occ (s_iastore dX4_compact_89) <|
  ms_oc1 rfl (s_iinc (by decide) dX4_compact_90) <|
  ms_oc1 rfl (s_goto (by decide) dX4_compact_93) <|
  ms_oc1 rfl (s_iconst dX4_compact_96 (by decide)) <|
  ms_occ (s_istore (by decide) dX4_compact_97) <|
  ms_oc1 rfl (s_iload dX4_compact_99) <|
  ms_oc1 rfl (s_aload_n rfl dX4_compact_101) <|
  ms_oc1 rfl (s_get (r := (RX4, TX4, 6)) rfl (by decide) rfl rfl kw_138 dX4_compact_102) <|
  ms_oc1 rfl (s_icmpge (by decide) dX4_compact_105) <|
  ms_oc1 rfl (s_aload_n rfl dX4_compact_108) <|
  ms_oc1 rfl (s_get (r := (RX4, TX4, 6)) rfl (by decide) rfl rfl kw_120 dX4_compact_109) <|
  ms_oc1 rfl (s_iload dX4_compact_112) <|
  ms_oc1 rfl (s_aload_n rfl dX4_compact_114) <|
  ms_oc1 rfl (s_aload_n rfl dX4_compact_115) <|
  ms_oc1 rfl (s_get (r := (RX4, TX4, 6)) rfl (by decide) rfl rfl kw_120 dX4_compact_116) <|
  ms_oc1 rfl (s_iload dX4_compact_119) <|
  ms_oc1 rfl (s_iaload dX4_compact_121) <|
  ms_oc1 rfl (s_iaload dX4_compact_122) <|
  ms_oc1 rfl (s_iastore dX4_compact_123) <|
  ms_oc1 rfl (s_iinc (by decide) dX4_compact_124) <|
  ms_oc1 rfl (s_goto (by decide) dX4_compact_127) <|
  ms_oc1 rfl (s_aload_n rfl dX4_compact_130) <|
  ms_oc1 rfl (s_iload_n rfl dX4_compact_131) <|
  ms_oc1 rfl (s_aload_n rfl dX4_compact_132) <|
  ms_oc1 rfl (s_get (r := (RX4, TX4, 6)) rfl (by decide) rfl rfl kw_126 dX4_compact_133) <|
  ms_oc1 rfl (s_isub dX4_compact_136) <|
  ms_oc1 rfl (s_put (r := (RX4, TX4, 6)) rfl (by decide) rfl rfl (ms_nar0 rfl) (Or.inl rfl) kw_131 dX4_compact_137) <|
  ms_oc1 rfl (s_iload_n rfl dX4_compact_140) <|
  ms_oc1 rfl (s_iload_n rfl dX4_compact_141) <|
  ms_oc1 rfl (s_isub dX4_compact_142) <|
  ms_oc0 (s_iret (b := false) rfl dX4_compact_143)

def tX5_init (G : ms_G) (Q : ms_Q) (d : Nat) : List (Nat × ms_T) := [(0, (o_ld 0 2)), (1, o_oi), (4, (o_ld 0 2)), (5, (o_ci 21)), (7, (o_newa 100)), (9, (o_put 5 0 2)), (12, (o_ld 0 2)), (13, (o_ci (-1))), (14, (o_put 5 2 0)), (17, (o_vret Q))]
set_option maxRecDepth 100000 in
set_option maxHeartbeats 4000000 in
theorem kX5_init (G : ms_G) (Q : ms_Q) (d : Nat) : ms_Oc G Q mX5_init (d + 1) (tX5_init G Q d) :=
  ms_oc1 rfl (s_aload_n rfl dX5_init_0) <|
  ms_oc1 rfl (s_oi kw_315 kw_102 kw_103 dX5_init_1) <|
  ms_oc1 rfl (s_aload_n rfl dX5_init_4) <|
  ms_oc1 rfl (s_bipush dX5_init_5 (by decide) (by decide)) <|
  ms_oc1 rfl (s_newa (ty := .int) rfl kw_153 dX5_init_7 (Or.inl ⟨rfl, rfl⟩)) <|
  ms_oc1 rfl (s_put (r := (RX5, TX5, 6)) rfl (by decide) rfl rfl (ms_nar2 (fun r => by cases r <;> exact ⟨rfl, rfl⟩)) (Or.inr ⟨rfl, rfl⟩) kw_316 dX5_init_9) <|
  ms_oc1 rfl (s_aload_n rfl dX5_init_12) <|
  ms_oc1 rfl (s_iconst dX5_init_13 (by decide)) <|
  ms_oc1 rfl (s_put (r := (RX5, TX5, 6)) rfl (by decide) rfl rfl (ms_nar0 rfl) (Or.inl rfl) kw_320 dX5_init_14) <|
  ms_oc0 (s_vret rfl dX5_init_17)

def tX5_seek (G : ms_G) (Q : ms_Q) (d : Nat) : List (Nat × ms_T) := [(0, (o_ld 0 2)), (1, (o_ld 1 0)), (2, (o_put 5 3 0)), (5, (o_ld 0 2)), (6, (o_ld 2 0)), (7, (o_put 5 4 0)), (10, (o_ld 0 2)), (11, (o_ci 0)), (12, (o_put 5 1 0)), (15, (o_ld 0 2)), (16, (o_ci (-1))), (17, (o_put 5 2 0)), (20, (o_ld 0 2)), (21, (o_get 5 0 2)), (24, (o_ci 0)), (25, (o_ci 1)), (26, (o_ast 100 0 (fun x => x))), (27, (o_ci 0)), (28, (o_st 3 0)), (29, (o_ld 1 0)), (30, (o_ci 1)), (31, (o_invS G d mX11_bound 2 0 0)), (34, (o_st 4 0)), (100000, o_go G Q mX5_seek (d + 1) 36), (36, (o_ld 4 0)), (38, (o_ci 20)), (40, (o_if2 G Q mX5_seek (d + 1) (fun a b => b < a) 65)), (43, (o_ld 3 0)), (44, (o_if1 G Q mX5_seek (d + 1) (fun x => ¬ x = 0) 65)), (47, (o_ld 0 2)), (48, (o_ld 4 0)), (50, (o_put 5 5 0)), (53, (o_ld 0 2)), (54, (o_ci 0)), (55, (o_invS G d mX5_visit 2 0 0)), (58, (o_st 3 0)), (59, (o_inc 4 1)), (62, (o_go G Q mX5_seek (d + 1) 36)), (65, (o_ld 3 0)), (66, (o_ci 1)), (67, (o_if2 G Q mX5_seek (d + 1) (fun a b => ¬ a = b) 74)), (70, (o_ci 1)), (71, (o_go G Q mX5_seek (d + 1) 75)), (74, (o_ci 0)), (100000, o_go G Q mX5_seek (d + 1) 75), (75, (o_ret Q true))]
set_option maxRecDepth 100000 in
set_option maxHeartbeats 4000000 in
theorem kX5_seek (G : ms_G) (Q : ms_Q) (d : Nat) : ms_Oc G Q mX5_seek (d + 1) (tX5_seek G Q d) :=
  ms_oc1 rfl (s_aload_n rfl dX5_seek_0) <|
  ms_oc1 rfl (s_iload_n rfl dX5_seek_1) <|
  ms_oc1 rfl (s_put (r := (RX5, TX5, 6)) rfl (by decide) rfl rfl (ms_nar0 rfl) (Or.inl rfl) kw_322 dX5_seek_2) <|
  ms_oc1 rfl (s_aload_n rfl dX5_seek_5) <|
  ms_oc1 rfl (s_iload_n rfl dX5_seek_6) <|
  ms_oc1 rfl (s_put (r := (RX5, TX5, 6)) rfl (by decide) rfl rfl (ms_nar0 rfl) (Or.inl rfl) kw_323 dX5_seek_7) <|
  ms_oc1 rfl (s_aload_n rfl dX5_seek_10) <|
  ms_oc1 rfl (s_iconst dX5_seek_11 (by decide)) <|
  ms_oc1 rfl (s_put (r := (RX5, TX5, 6)) rfl (by decide) rfl rfl (ms_nar0 rfl) (Or.inl rfl) kw_318 dX5_seek_12) <|
  ms_oc1 rfl (s_aload_n rfl dX5_seek_15) <|
  ms_oc1 rfl (s_iconst dX5_seek_16 (by decide)) <|
  ms_oc1 rfl (s_put (r := (RX5, TX5, 6)) rfl (by decide) rfl rfl (ms_nar0 rfl) (Or.inl rfl) kw_320 dX5_seek_17) <|
  ms_oc1 rfl (s_aload_n rfl dX5_seek_20) <|
  ms_oc1 rfl (s_get (r := (RX5, TX5, 6)) rfl (by decide) rfl rfl kw_316 dX5_seek_21) <|
  ms_oc1 rfl (s_iconst dX5_seek_24 (by decide)) <|
  ms_oc1 rfl (s_iconst dX5_seek_25 (by decide)) <|
  ms_oc1 rfl (s_iastore dX5_seek_26) <|
  ms_oc1 rfl (s_iconst dX5_seek_27 (by decide)) <|
  ms_oc1 rfl (s_istore_n rfl (by decide) dX5_seek_28) <|
  ms_oc1 rfl (s_iload_n rfl dX5_seek_29) <|
  ms_oc1 rfl (s_iconst dX5_seek_30 (by decide)) <|
  ms_oc1 rfl (s_invSN kw_814 kw_801 kw_76 kw_802 ⟨by decide +kernel, by decide +kernel, by decide +kernel⟩ (by decide) dX5_seek_31) <|
  ms_occ (s_istore (by decide) dX5_seek_34) <|
  ms_oc1 rfl (s_iload dX5_seek_36) <|
  ms_oc1 rfl (s_bipush dX5_seek_38 (by decide) (by decide)) <|
  ms_oc1 rfl (s_icmpgt (by decide) dX5_seek_40) <|
  ms_oc1 rfl (s_iload_n rfl dX5_seek_43) <|
  ms_oc1 rfl (s_ifne (by decide) dX5_seek_44) <|
  ms_oc1 rfl (s_aload_n rfl dX5_seek_47) <|
  ms_oc1 rfl (s_iload dX5_seek_48) <|
  ms_oc1 rfl (s_put (r := (RX5, TX5, 6)) rfl (by decide) rfl rfl (ms_nar0 rfl) (Or.inl rfl) kw_324 dX5_seek_50) <|
  ms_oc1 rfl (s_aload_n rfl dX5_seek_53) <|
  ms_oc1 rfl (s_iconst dX5_seek_54 (by decide)) <|
  ms_oc1 rfl (s_invS kw_815 kw_816 kw_87 kw_817 ⟨by decide +kernel, by decide +kernel, by decide +kernel⟩ (by decide) dX5_seek_55) <|
  ms_oc1 rfl (s_istore_n rfl (by decide) dX5_seek_58) <|
  ms_oc1 rfl (s_iinc (by decide) dX5_seek_59) <|
  ms_oc1 rfl (s_goto (by decide) dX5_seek_62) <|
  ms_oc1 rfl (s_iload_n rfl dX5_seek_65) <|
  ms_oc1 rfl (s_iconst dX5_seek_66 (by decide)) <|
  ms_oc1 rfl (s_icmpne (by decide) dX5_seek_67) <|
  ms_oc1 rfl (s_iconst dX5_seek_70 (by decide)) <|
  ms_oc1 rfl (s_goto (by decide) dX5_seek_71) <|
  ms_occ (s_iconst dX5_seek_74 (by decide)) <|
  ms_oc0 (s_iret (b := true) rfl dX5_seek_75)

def tX5_visit (G : ms_G) (Q : ms_Q) (d : Nat) : List (Nat × ms_T) := [(0, (o_ld 0 2)), (1, (o_get 5 1 0)), (4, (o_ld 0 2)), (5, (o_get 5 4 0)), (8, (o_if2 G Q mX5_visit (d + 1) (fun a b => a < b) 13)), (11, (o_ci 2)), (12, (o_ret Q false)), (13, (o_ld 0 2)), (14, o_dup), (15, (o_get 5 1 0)), (18, (o_ci 1)), (19, (o_bin (fun a b => w32 (a + b)))), (20, (o_put 5 1 0)), (23, (o_ld 0 2)), (24, (o_get 5 0 2)), (27, (o_st 2 2)), (28, (o_ld 2 2)), (29, (o_ld 1 0)), (30, (o_ald 100 0)), (31, (o_st 3 0)), (32, (o_ld 3 0)), (33, (o_ld 0 2)), (34, (o_get 5 3 0)), (37, (o_if2 G Q mX5_visit (d + 1) (fun a b => ¬ a = b) 47)), (40, (o_ld 0 2)), (41, (o_ld 1 0)), (42, (o_put 5 2 0)), (45, (o_ci 1)), (46, (o_ret Q false)), (47, (o_ld 1 0)), (48, (o_ld 0 2)), (49, (o_get 5 5 0)), (52, (o_if2 G Q mX5_visit (d + 1) (fun a b => b ≤ a) 73)), (55, (o_ld 3 0)), (56, (o_un 0 1 (fun a => a))), (57, (o_ld 0 2)), (58, (o_get 5 5 0)), (61, (o_ld 1 0)), (62, (o_bin (fun a b => w32 (a - b)))), (63, o_lshl), (64, (o_ld 0 2)), (65, (o_get 5 3 0)), (68, (o_un 0 1 (fun a => a))), (69, o_lcmp), (70, (o_if1 G Q mX5_visit (d + 1) (fun x => 0 ≤ x) 75)), (100000, o_go G Q mX5_visit (d + 1) 73), (73, (o_ci 0)), (74, (o_ret Q false)), (75, (o_ci 0)), (76, (o_st 4 0)), (78, (o_ld 1 0)), (79, (o_st 5 0)), (100000, o_go G Q mX5_visit (d + 1) 81), (81, (o_ld 5 0)), (83, (o_if1 G Q mX5_visit (d + 1) (fun x => x < 0) 130)), (86, (o_ld 4 0)), (88, (o_if1 G Q mX5_visit (d + 1) (fun x => ¬ x = 0) 130)), (91, (o_ld 3 0)), (92, (o_ld 2 2)), (93, (o_ld 5 0)), (95, (o_ald 100 0)), (96, (o_bin (fun a b => w32 (a + b)))), (97, (o_ld 0 2)), (98, (o_get 5 3 0)), (101, (o_if2 G Q mX5_visit (d + 1) (fun a b => b < a) 124)), (104, (o_ld 2 2)), (105, (o_ld 1 0)), (106, (o_ci 1)), (107, (o_bin (fun a b => w32 (a + b)))), (108, (o_ld 3 0)), (109, (o_ld 2 2)), (110, (o_ld 5 0)), (112, (o_ald 100 0)), (113, (o_bin (fun a b => w32 (a + b)))), (114, (o_ast 100 0 (fun x => x))), (115, (o_ld 0 2)), (116, (o_ld 1 0)), (117, (o_ci 1)), (118, (o_bin (fun a b => w32 (a + b)))), (119, (o_invS G d mX5_visit 2 0 0)), (122, (o_st 4 0)), (100000, o_go G Q mX5_visit (d + 1) 124), (124, (o_inc 5 (-1))), (127, (o_go G Q mX5_visit (d + 1) 81)), (130, (o_ld 4 0)), (132, (o_ret Q false))]
set_option maxRecDepth 100000 in
set_option maxHeartbeats 4000000 in
theorem kX5_visit (G : ms_G) (Q : ms_Q) (d : Nat) : ms_Oc G Q mX5_visit (d + 1) (tX5_visit G Q d) :=
  ms_oc1 rfl (s_aload_n rfl dX5_visit_0) <|
  ms_oc1 rfl (s_get (r := (RX5, TX5, 6)) rfl (by decide) rfl rfl kw_318 dX5_visit_1) <|
  ms_oc1 rfl (s_aload_n rfl dX5_visit_4) <|
  ms_oc1 rfl (s_get (r := (RX5, TX5, 6)) rfl (by decide) rfl rfl kw_323 dX5_visit_5) <|
  ms_oc1 rfl (s_icmplt (by decide) dX5_visit_8) <|
  ms_oc1 rfl (s_iconst dX5_visit_11 (by decide)) <|
  ms_oc1 rfl (s_iret (b := false) rfl dX5_visit_12) <|
  ms_oc1 rfl (s_aload_n rfl dX5_visit_13) <|
  ms_oc1 rfl (s_dup dX5_visit_14) <|
  ms_oc1 rfl (s_get (r := (RX5, TX5, 6)) rfl (by decide) rfl rfl kw_318 dX5_visit_15) <|
  ms_oc1 rfl (s_iconst dX5_visit_18 (by decide)) <|
  ms_oc1 rfl (s_iadd dX5_visit_19) <|
  ms_oc1 rfl (s_put (r := (RX5, TX5, 6)) rfl (by decide) rfl rfl (ms_nar0 rfl) (Or.inl rfl) kw_318 dX5_visit_20) <|
  ms_oc1 rfl (s_aload_n rfl dX5_visit_23) <|
  ms_oc1 rfl (s_get (r := (RX5, TX5, 6)) rfl (by decide) rfl rfl kw_316 dX5_visit_24) <|
  ms_oc1 rfl (s_astore_n rfl (by decide) dX5_visit_27) <|
  ms_oc1 rfl (s_aload_n rfl dX5_visit_28) <|
  ms_oc1 rfl (s_iload_n rfl dX5_visit_29) <|
  ms_oc1 rfl (s_iaload dX5_visit_30) <|
  ms_oc1 rfl (s_istore_n rfl (by decide) dX5_visit_31) <|
  ms_oc1 rfl (s_iload_n rfl dX5_visit_32) <|
  ms_oc1 rfl (s_aload_n rfl dX5_visit_33) <|
  ms_oc1 rfl (s_get (r := (RX5, TX5, 6)) rfl (by decide) rfl rfl kw_322 dX5_visit_34) <|
  ms_oc1 rfl (s_icmpne (by decide) dX5_visit_37) <|
  ms_oc1 rfl (s_aload_n rfl dX5_visit_40) <|
  ms_oc1 rfl (s_iload_n rfl dX5_visit_41) <|
  ms_oc1 rfl (s_put (r := (RX5, TX5, 6)) rfl (by decide) rfl rfl (ms_nar0 rfl) (Or.inl rfl) kw_320 dX5_visit_42) <|
  ms_oc1 rfl (s_iconst dX5_visit_45 (by decide)) <|
  ms_oc1 rfl (s_iret (b := false) rfl dX5_visit_46) <|
  ms_oc1 rfl (s_iload_n rfl dX5_visit_47) <|
  ms_oc1 rfl (s_aload_n rfl dX5_visit_48) <|
  ms_oc1 rfl (s_get (r := (RX5, TX5, 6)) rfl (by decide) rfl rfl kw_324 dX5_visit_49) <|
  ms_oc1 rfl (s_icmpge (by decide) dX5_visit_52) <|
  ms_oc1 rfl (s_iload_n rfl dX5_visit_55) <|
  ms_oc1 rfl (s_i2l dX5_visit_56) <|
  ms_oc1 rfl (s_aload_n rfl dX5_visit_57) <|
  ms_oc1 rfl (s_get (r := (RX5, TX5, 6)) rfl (by decide) rfl rfl kw_324 dX5_visit_58) <|
  ms_oc1 rfl (s_iload_n rfl dX5_visit_61) <|
  ms_oc1 rfl (s_isub dX5_visit_62) <|
  ms_oc1 rfl (s_lshl dX5_visit_63) <|
  ms_oc1 rfl (s_aload_n rfl dX5_visit_64) <|
  ms_oc1 rfl (s_get (r := (RX5, TX5, 6)) rfl (by decide) rfl rfl kw_322 dX5_visit_65) <|
  ms_oc1 rfl (s_i2l dX5_visit_68) <|
  ms_oc1 rfl (s_lcmp dX5_visit_69) <|
  ms_occ (s_ifge (by decide) dX5_visit_70) <|
  ms_oc1 rfl (s_iconst dX5_visit_73 (by decide)) <|
  ms_oc1 rfl (s_iret (b := false) rfl dX5_visit_74) <|
  ms_oc1 rfl (s_iconst dX5_visit_75 (by decide)) <|
  ms_oc1 rfl (s_istore (by decide) dX5_visit_76) <|
  ms_oc1 rfl (s_iload_n rfl dX5_visit_78) <|
  ms_occ (s_istore (by decide) dX5_visit_79) <|
  ms_oc1 rfl (s_iload dX5_visit_81) <|
  ms_oc1 rfl (s_iflt (by decide) dX5_visit_83) <|
  ms_oc1 rfl (s_iload dX5_visit_86) <|
  ms_oc1 rfl (s_ifne (by decide) dX5_visit_88) <|
  ms_oc1 rfl (s_iload_n rfl dX5_visit_91) <|
  ms_oc1 rfl (s_aload_n rfl dX5_visit_92) <|
  ms_oc1 rfl (s_iload dX5_visit_93) <|
  ms_oc1 rfl (s_iaload dX5_visit_95) <|
  ms_oc1 rfl (s_iadd dX5_visit_96) <|
  ms_oc1 rfl (s_aload_n rfl dX5_visit_97) <|
  ms_oc1 rfl (s_get (r := (RX5, TX5, 6)) rfl (by decide) rfl rfl kw_322 dX5_visit_98) <|
  ms_oc1 rfl (s_icmpgt (by decide) dX5_visit_101) <|
  ms_oc1 rfl (s_aload_n rfl dX5_visit_104) <|
  ms_oc1 rfl (s_iload_n rfl dX5_visit_105) <|
  ms_oc1 rfl (s_iconst dX5_visit_106 (by decide)) <|
  ms_oc1 rfl (s_iadd dX5_visit_107) <|
  ms_oc1 rfl (s_iload_n rfl dX5_visit_108) <|
  ms_oc1 rfl (s_aload_n rfl dX5_visit_109) <|
  ms_oc1 rfl (s_iload dX5_visit_110) <|
  ms_oc1 rfl (s_iaload dX5_visit_112) <|
  ms_oc1 rfl (s_iadd dX5_visit_113) <|
  ms_oc1 rfl (s_iastore dX5_visit_114) <|
  ms_oc1 rfl (s_aload_n rfl dX5_visit_115) <|
  ms_oc1 rfl (s_iload_n rfl dX5_visit_116) <|
  ms_oc1 rfl (s_iconst dX5_visit_117 (by decide)) <|
  ms_oc1 rfl (s_iadd dX5_visit_118) <|
  ms_oc1 rfl (s_invS kw_815 kw_816 kw_87 kw_817 ⟨by decide +kernel, by decide +kernel, by decide +kernel⟩ (by decide) dX5_visit_119) <|
  ms_occ (s_istore (by decide) dX5_visit_122) <|
  ms_oc1 rfl (s_iinc (by decide) dX5_visit_124) <|
  ms_oc1 rfl (s_goto (by decide) dX5_visit_127) <|
  ms_oc1 rfl (s_iload dX5_visit_130) <|
  ms_oc0 (s_iret (b := false) rfl dX5_visit_132)

def tX6_init (G : ms_G) (Q : ms_Q) (d : Nat) : List (Nat × ms_T) := [(0, (o_ld 0 2)), (1, o_oi), (4, (o_ld 0 2)), (5, (o_ci 64)), (7, (o_newa 100)), (9, (o_put 6 0 2)), (12, (o_ld 0 2)), (13, (o_ci 64)), (15, (o_newa 103)), (17, (o_put 6 1 2)), (20, (o_vret Q))]
set_option maxRecDepth 100000 in
set_option maxHeartbeats 4000000 in
theorem kX6_init (G : ms_G) (Q : ms_Q) (d : Nat) : ms_Oc G Q mX6_init (d + 1) (tX6_init G Q d) :=
  ms_oc1 rfl (s_aload_n rfl dX6_init_0) <|
  ms_oc1 rfl (s_oi kw_180 kw_102 kw_103 dX6_init_1) <|
  ms_oc1 rfl (s_aload_n rfl dX6_init_4) <|
  ms_oc1 rfl (s_bipush dX6_init_5 (by decide) (by decide)) <|
  ms_oc1 rfl (s_newa (ty := .int) rfl kw_153 dX6_init_7 (Or.inl ⟨rfl, rfl⟩)) <|
  ms_oc1 rfl (s_put (r := (RX6, TX6, 2)) rfl (by decide) rfl rfl (ms_nar2 (fun r => by cases r <;> exact ⟨rfl, rfl⟩)) (Or.inr ⟨rfl, rfl⟩) kw_181 dX6_init_9) <|
  ms_oc1 rfl (s_aload_n rfl dX6_init_12) <|
  ms_oc1 rfl (s_bipush dX6_init_13 (by decide) (by decide)) <|
  ms_oc1 rfl (s_newa (ty := .boolean) rfl kw_174 dX6_init_15 (Or.inr (Or.inr (Or.inr ⟨rfl, rfl⟩)))) <|
  ms_oc1 rfl (s_put (r := (RX6, TX6, 2)) rfl (by decide) rfl rfl (ms_nar2 (fun r => by cases r <;> exact ⟨rfl, rfl⟩)) (Or.inr ⟨rfl, rfl⟩) kw_183 dX6_init_17) <|
  ms_oc0 (s_vret rfl dX6_init_20)

def tX6_measureDepths (G : ms_G) (Q : ms_Q) (d : Nat) : List (Nat × ms_T) := [(0, (o_ci 0)), (1, (o_st 2 0)), (100000, o_go G Q mX6_measureDepths (d + 1) 2), (2, (o_ld 2 0)), (3, (o_ld 1 2)), (4, (o_invV G d mX4_size 4 0 0 0)), (7, (o_if2 G Q mX6_measureDepths (d + 1) (fun a b => b ≤ a) 61)), (10, (o_ld 0 2)), (11, (o_get 6 0 2)), (14, (o_ld 2 0)), (15, (o_ld 1 2)), (16, (o_ld 2 0)), (17, (o_invV G d mX4_isBase 4 1 0 0)), (20, (o_if1 G Q mX6_measureDepths (d + 1) (fun x => x = 0) 27)), (23, (o_ci 0)), (24, (o_go G Q mX6_measureDepths (d + 1) 54)), (27, (o_ci 1)), (28, (o_ld 0 2)), (29, (o_get 6 0 2)), (32, (o_ld 1 2)), (33, (o_get 4 0 2)), (36, (o_ld 2 0)), (37, (o_ald 100 0)), (38, (o_ald 100 0)), (39, (o_ld 0 2)), (40, (o_get 6 0 2)), (43, (o_ld 1 2)), (44, (o_get 4 1 2)), (47, (o_ld 2 0)), (48, (o_ald 100 0)), (49, (o_ald 100 0)), (50, (o_mx (fun a b => if a < b then b else a))), (53, (o_bin (fun a b => w32 (a + b)))), (100000, o_go G Q mX6_measureDepths (d + 1) 54), (54, (o_ast 100 0 (fun x => x))), (55, (o_inc 2 1)), (58, (o_go G Q mX6_measureDepths (d + 1) 2)), (61, (o_vret Q))]
set_option maxRecDepth 100000 in
set_option maxHeartbeats 4000000 in
theorem kX6_measureDepths (G : ms_G) (Q : ms_Q) (d : Nat) : ms_Oc G Q mX6_measureDepths (d + 1) (tX6_measureDepths G Q d) :=
  ms_oc1 rfl (s_iconst dX6_measureDepths_0 (by decide)) <|
  ms_occ (s_istore_n rfl (by decide) dX6_measureDepths_1) <|
  ms_oc1 rfl (s_iload_n rfl dX6_measureDepths_2) <|
  ms_oc1 rfl (s_aload_n rfl dX6_measureDepths_3) <|
  ms_oc1 rfl (s_invV (r := (RX4, TX4, 6)) rfl rfl kw_563 kw_449 kw_450 kw_77 kw_451 ⟨by decide +kernel, by decide +kernel, by decide +kernel⟩ (by decide) dX6_measureDepths_4) <|
  ms_oc1 rfl (s_icmpge (by decide) dX6_measureDepths_7) <|
  ms_oc1 rfl (s_aload_n rfl dX6_measureDepths_10) <|
  ms_oc1 rfl (s_get (r := (RX6, TX6, 2)) rfl (by decide) rfl rfl kw_181 dX6_measureDepths_11) <|
  ms_oc1 rfl (s_iload_n rfl dX6_measureDepths_14) <|
  ms_oc1 rfl (s_aload_n rfl dX6_measureDepths_15) <|
  ms_oc1 rfl (s_iload_n rfl dX6_measureDepths_16) <|
  ms_oc1 rfl (s_invV (r := (RX4, TX4, 6)) rfl rfl kw_572 kw_552 kw_553 kw_77 kw_554 ⟨by decide +kernel, by decide +kernel, by decide +kernel⟩ (by decide) dX6_measureDepths_17) <|
  ms_oc1 rfl (s_ifeq (by decide) dX6_measureDepths_20) <|
  ms_oc1 rfl (s_iconst dX6_measureDepths_23 (by decide)) <|
  ms_oc1 rfl (s_goto (by decide) dX6_measureDepths_24) <|
  ms_oc1 rfl (s_iconst dX6_measureDepths_27 (by decide)) <|
  ms_oc1 rfl (s_aload_n rfl dX6_measureDepths_28) <|
  ms_oc1 rfl (s_get (r := (RX6, TX6, 2)) rfl (by decide) rfl rfl kw_181 dX6_measureDepths_29) <|
  ms_oc1 rfl (s_aload_n rfl dX6_measureDepths_32) <|
  ms_oc1 rfl (s_get (r := (RX4, TX4, 6)) rfl (by decide) rfl rfl kw_112 dX6_measureDepths_33) <|
  ms_oc1 rfl (s_iload_n rfl dX6_measureDepths_36) <|
  ms_oc1 rfl (s_iaload dX6_measureDepths_37) <|
  ms_oc1 rfl (s_iaload dX6_measureDepths_38) <|
  ms_oc1 rfl (s_aload_n rfl dX6_measureDepths_39) <|
  ms_oc1 rfl (s_get (r := (RX6, TX6, 2)) rfl (by decide) rfl rfl kw_181 dX6_measureDepths_40) <|
  ms_oc1 rfl (s_aload_n rfl dX6_measureDepths_43) <|
  ms_oc1 rfl (s_get (r := (RX4, TX4, 6)) rfl (by decide) rfl rfl kw_117 dX6_measureDepths_44) <|
  ms_oc1 rfl (s_iload_n rfl dX6_measureDepths_47) <|
  ms_oc1 rfl (s_iaload dX6_measureDepths_48) <|
  ms_oc1 rfl (s_iaload dX6_measureDepths_49) <|
  ms_oc1 rfl (s_mmax kw_573 kw_574 kw_91 kw_575 dX6_measureDepths_50) <|
  ms_occ (s_iadd dX6_measureDepths_53) <|
  ms_oc1 rfl (s_iastore dX6_measureDepths_54) <|
  ms_oc1 rfl (s_iinc (by decide) dX6_measureDepths_55) <|
  ms_oc1 rfl (s_goto (by decide) dX6_measureDepths_58) <|
  ms_oc0 (s_vret rfl dX6_measureDepths_61)

def tX6_greatestDepth (G : ms_G) (Q : ms_Q) (d : Nat) : List (Nat × ms_T) := [(0, (o_ld 0 2)), (1, (o_ld 1 2)), (2, (o_invV G d mX6_measureDepths 6 1 0 0)), (5, (o_ci 0)), (6, (o_st 2 0)), (7, (o_ci 0)), (8, (o_st 3 0)), (100000, o_go G Q mX6_greatestDepth (d + 1) 9), (9, (o_ld 3 0)), (10, (o_ld 1 2)), (11, (o_invV G d mX4_size 4 0 0 0)), (14, (o_if2 G Q mX6_greatestDepth (d + 1) (fun a b => b ≤ a) 34)), (17, (o_ld 2 0)), (18, (o_ld 0 2)), (19, (o_get 6 0 2)), (22, (o_ld 3 0)), (23, (o_ald 100 0)), (24, (o_mx (fun a b => if a < b then b else a))), (27, (o_st 2 0)), (28, (o_inc 3 1)), (31, (o_go G Q mX6_greatestDepth (d + 1) 9)), (34, (o_ld 2 0)), (35, (o_ret Q false))]
set_option maxRecDepth 100000 in
set_option maxHeartbeats 4000000 in
theorem kX6_greatestDepth (G : ms_G) (Q : ms_Q) (d : Nat) : ms_Oc G Q mX6_greatestDepth (d + 1) (tX6_greatestDepth G Q d) :=
  ms_oc1 rfl (s_aload_n rfl dX6_greatestDepth_0) <|
  ms_oc1 rfl (s_aload_n rfl dX6_greatestDepth_1) <|
  ms_oc1 rfl (s_invV (r := (RX6, TX6, 2)) rfl rfl kw_568 kw_569 kw_570 kw_79 kw_571 ⟨by decide +kernel, by decide +kernel, by decide +kernel⟩ (by decide) dX6_greatestDepth_2) <|
  ms_oc1 rfl (s_iconst dX6_greatestDepth_5 (by decide)) <|
  ms_oc1 rfl (s_istore_n rfl (by decide) dX6_greatestDepth_6) <|
  ms_oc1 rfl (s_iconst dX6_greatestDepth_7 (by decide)) <|
  ms_occ (s_istore_n rfl (by decide) dX6_greatestDepth_8) <|
  ms_oc1 rfl (s_iload_n rfl dX6_greatestDepth_9) <|
  ms_oc1 rfl (s_aload_n rfl dX6_greatestDepth_10) <|
  ms_oc1 rfl (s_invV (r := (RX4, TX4, 6)) rfl rfl kw_563 kw_449 kw_450 kw_77 kw_451 ⟨by decide +kernel, by decide +kernel, by decide +kernel⟩ (by decide) dX6_greatestDepth_11) <|
  ms_oc1 rfl (s_icmpge (by decide) dX6_greatestDepth_14) <|
  ms_oc1 rfl (s_iload_n rfl dX6_greatestDepth_17) <|
  ms_oc1 rfl (s_aload_n rfl dX6_greatestDepth_18) <|
  ms_oc1 rfl (s_get (r := (RX6, TX6, 2)) rfl (by decide) rfl rfl kw_181 dX6_greatestDepth_19) <|
  ms_oc1 rfl (s_iload_n rfl dX6_greatestDepth_22) <|
  ms_oc1 rfl (s_iaload dX6_greatestDepth_23) <|
  ms_oc1 rfl (s_mmax kw_573 kw_574 kw_91 kw_575 dX6_greatestDepth_24) <|
  ms_oc1 rfl (s_istore_n rfl (by decide) dX6_greatestDepth_27) <|
  ms_oc1 rfl (s_iinc (by decide) dX6_greatestDepth_28) <|
  ms_oc1 rfl (s_goto (by decide) dX6_greatestDepth_31) <|
  ms_oc1 rfl (s_iload_n rfl dX6_greatestDepth_34) <|
  ms_oc0 (s_iret (b := false) rfl dX6_greatestDepth_35)

def tX6_markNeeded (G : ms_G) (Q : ms_Q) (d : Nat) : List (Nat × ms_T) := [(0, (o_ci 0)), (1, (o_st 2 0)), (100000, o_go G Q mX6_markNeeded (d + 1) 2), (2, (o_ld 2 0)), (3, (o_ld 1 2)), (4, (o_invV G d mX4_size 4 0 0 0)), (7, (o_if2 G Q mX6_markNeeded (d + 1) (fun a b => b ≤ a) 23)), (10, (o_ld 0 2)), (11, (o_get 6 1 2)), (14, (o_ld 2 0)), (15, (o_ci 0)), (16, o_bast), (17, (o_inc 2 1)), (20, (o_go G Q mX6_markNeeded (d + 1) 2)), (23, (o_ci 0)), (24, (o_st 2 0)), (100000, o_go G Q mX6_markNeeded (d + 1) 25), (25, (o_ld 2 0)), (26, (o_ld 1 2)), (27, (o_get 4 5 0)), (30, (o_if2 G Q mX6_markNeeded (d + 1) (fun a b => b ≤ a) 51)), (33, (o_ld 0 2)), (34, (o_get 6 1 2)), (37, (o_ld 1 2)), (38, (o_get 4 2 2)), (41, (o_ld 2 0)), (42, (o_ald 100 0)), (43, (o_ci 1)), (44, o_bast), (45, (o_inc 2 1)), (48, (o_go G Q mX6_markNeeded (d + 1) 25)), (51, (o_ld 1 2)), (52, (o_invV G d mX4_size 4 0 0 0)), (55, (o_ci 1)), (56, (o_bin (fun a b => w32 (a - b)))), (57, (o_st 2 0)), (100000, o_go G Q mX6_markNeeded (d + 1) 58), (58, (o_ld 2 0)), (59, (o_ld 1 2)), (60, (o_get 4 3 0)), (63, (o_if2 G Q mX6_markNeeded (d + 1) (fun a b => a < b) 105)), (66, (o_ld 0 2)), (67, (o_get 6 1 2)), (70, (o_ld 2 0)), (71, o_bald), (72, (o_if1 G Q mX6_markNeeded (d + 1) (fun x => x = 0) 99)), (75, (o_ld 0 2)), (76, (o_get 6 1 2)), (79, (o_ld 1 2)), (80, (o_get 4 0 2)), (83, (o_ld 2 0)), (84, (o_ald 100 0)), (85, (o_ci 1)), (86, o_bast), (87, (o_ld 0 2)), (88, (o_get 6 1 2)), (91, (o_ld 1 2)), (92, (o_get 4 1 2)), (95, (o_ld 2 0)), (96, (o_ald 100 0)), (97, (o_ci 1)), (98, o_bast), (100000, o_go G Q mX6_markNeeded (d + 1) 99), (99, (o_inc 2 (-1))), (102, (o_go G Q mX6_markNeeded (d + 1) 58)), (105, (o_vret Q))]
set_option maxRecDepth 100000 in
set_option maxHeartbeats 4000000 in
theorem kX6_markNeeded (G : ms_G) (Q : ms_Q) (d : Nat) : ms_Oc G Q mX6_markNeeded (d + 1) (tX6_markNeeded G Q d) :=
  ms_oc1 rfl (s_iconst dX6_markNeeded_0 (by decide)) <|
  ms_occ (s_istore_n rfl (by decide) dX6_markNeeded_1) <|
  ms_oc1 rfl (s_iload_n rfl dX6_markNeeded_2) <|
  ms_oc1 rfl (s_aload_n rfl dX6_markNeeded_3) <|
  ms_oc1 rfl (s_invV (r := (RX4, TX4, 6)) rfl rfl kw_563 kw_449 kw_450 kw_77 kw_451 ⟨by decide +kernel, by decide +kernel, by decide +kernel⟩ (by decide) dX6_markNeeded_4) <|
  ms_oc1 rfl (s_icmpge (by decide) dX6_markNeeded_7) <|
  ms_oc1 rfl (s_aload_n rfl dX6_markNeeded_10) <|
  ms_oc1 rfl (s_get (r := (RX6, TX6, 2)) rfl (by decide) rfl rfl kw_183 dX6_markNeeded_11) <|
  ms_oc1 rfl (s_iload_n rfl dX6_markNeeded_14) <|
  ms_oc1 rfl (s_iconst dX6_markNeeded_15 (by decide)) <|
  ms_oc1 rfl (s_bastore dX6_markNeeded_16) <|
  ms_oc1 rfl (s_iinc (by decide) dX6_markNeeded_17) <|
  ms_oc1 rfl (s_goto (by decide) dX6_markNeeded_20) <|
  ms_oc1 rfl (s_iconst dX6_markNeeded_23 (by decide)) <|
  ms_occ (s_istore_n rfl (by decide) dX6_markNeeded_24) <|
  ms_oc1 rfl (s_iload_n rfl dX6_markNeeded_25) <|
  ms_oc1 rfl (s_aload_n rfl dX6_markNeeded_26) <|
  ms_oc1 rfl (s_get (r := (RX4, TX4, 6)) rfl (by decide) rfl rfl kw_135 dX6_markNeeded_27) <|
  ms_oc1 rfl (s_icmpge (by decide) dX6_markNeeded_30) <|
  ms_oc1 rfl (s_aload_n rfl dX6_markNeeded_33) <|
  ms_oc1 rfl (s_get (r := (RX6, TX6, 2)) rfl (by decide) rfl rfl kw_183 dX6_markNeeded_34) <|
  ms_oc1 rfl (s_aload_n rfl dX6_markNeeded_37) <|
  ms_oc1 rfl (s_get (r := (RX4, TX4, 6)) rfl (by decide) rfl rfl kw_122 dX6_markNeeded_38) <|
  ms_oc1 rfl (s_iload_n rfl dX6_markNeeded_41) <|
  ms_oc1 rfl (s_iaload dX6_markNeeded_42) <|
  ms_oc1 rfl (s_iconst dX6_markNeeded_43 (by decide)) <|
  ms_oc1 rfl (s_bastore dX6_markNeeded_44) <|
  ms_oc1 rfl (s_iinc (by decide) dX6_markNeeded_45) <|
  ms_oc1 rfl (s_goto (by decide) dX6_markNeeded_48) <|
  ms_oc1 rfl (s_aload_n rfl dX6_markNeeded_51) <|
  ms_oc1 rfl (s_invV (r := (RX4, TX4, 6)) rfl rfl kw_563 kw_449 kw_450 kw_77 kw_451 ⟨by decide +kernel, by decide +kernel, by decide +kernel⟩ (by decide) dX6_markNeeded_52) <|
  ms_oc1 rfl (s_iconst dX6_markNeeded_55 (by decide)) <|
  ms_oc1 rfl (s_isub dX6_markNeeded_56) <|
  ms_occ (s_istore_n rfl (by decide) dX6_markNeeded_57) <|
  ms_oc1 rfl (s_iload_n rfl dX6_markNeeded_58) <|
  ms_oc1 rfl (s_aload_n rfl dX6_markNeeded_59) <|
  ms_oc1 rfl (s_get (r := (RX4, TX4, 6)) rfl (by decide) rfl rfl kw_129 dX6_markNeeded_60) <|
  ms_oc1 rfl (s_icmplt (by decide) dX6_markNeeded_63) <|
  ms_oc1 rfl (s_aload_n rfl dX6_markNeeded_66) <|
  ms_oc1 rfl (s_get (r := (RX6, TX6, 2)) rfl (by decide) rfl rfl kw_183 dX6_markNeeded_67) <|
  ms_oc1 rfl (s_iload_n rfl dX6_markNeeded_70) <|
  ms_oc1 rfl (s_baload dX6_markNeeded_71) <|
  ms_oc1 rfl (s_ifeq (by decide) dX6_markNeeded_72) <|
  ms_oc1 rfl (s_aload_n rfl dX6_markNeeded_75) <|
  ms_oc1 rfl (s_get (r := (RX6, TX6, 2)) rfl (by decide) rfl rfl kw_183 dX6_markNeeded_76) <|
  ms_oc1 rfl (s_aload_n rfl dX6_markNeeded_79) <|
  ms_oc1 rfl (s_get (r := (RX4, TX4, 6)) rfl (by decide) rfl rfl kw_112 dX6_markNeeded_80) <|
  ms_oc1 rfl (s_iload_n rfl dX6_markNeeded_83) <|
  ms_oc1 rfl (s_iaload dX6_markNeeded_84) <|
  ms_oc1 rfl (s_iconst dX6_markNeeded_85 (by decide)) <|
  ms_oc1 rfl (s_bastore dX6_markNeeded_86) <|
  ms_oc1 rfl (s_aload_n rfl dX6_markNeeded_87) <|
  ms_oc1 rfl (s_get (r := (RX6, TX6, 2)) rfl (by decide) rfl rfl kw_183 dX6_markNeeded_88) <|
  ms_oc1 rfl (s_aload_n rfl dX6_markNeeded_91) <|
  ms_oc1 rfl (s_get (r := (RX4, TX4, 6)) rfl (by decide) rfl rfl kw_117 dX6_markNeeded_92) <|
  ms_oc1 rfl (s_iload_n rfl dX6_markNeeded_95) <|
  ms_oc1 rfl (s_iaload dX6_markNeeded_96) <|
  ms_oc1 rfl (s_iconst dX6_markNeeded_97 (by decide)) <|
  ms_occ (s_bastore dX6_markNeeded_98) <|
  ms_oc1 rfl (s_iinc (by decide) dX6_markNeeded_99) <|
  ms_oc1 rfl (s_goto (by decide) dX6_markNeeded_102) <|
  ms_oc0 (s_vret rfl dX6_markNeeded_105)

def tX6_neededSteps (G : ms_G) (Q : ms_Q) (d : Nat) : List (Nat × ms_T) := [(0, (o_ld 0 2)), (1, (o_ld 1 2)), (2, (o_invV G d mX6_markNeeded 6 1 0 0)), (5, (o_ci 0)), (6, (o_st 2 0)), (7, (o_ld 1 2)), (8, (o_get 4 3 0)), (11, (o_st 3 0)), (100000, o_go G Q mX6_neededSteps (d + 1) 12), (12, (o_ld 3 0)), (13, (o_ld 1 2)), (14, (o_invV G d mX4_size 4 0 0 0)), (17, (o_if2 G Q mX6_neededSteps (d + 1) (fun a b => b ≤ a) 38)), (20, (o_ld 0 2)), (21, (o_get 6 1 2)), (24, (o_ld 3 0)), (25, o_bald), (26, (o_if1 G Q mX6_neededSteps (d + 1) (fun x => x = 0) 32)), (29, (o_inc 2 1)), (100000, o_go G Q mX6_neededSteps (d + 1) 32), (32, (o_inc 3 1)), (35, (o_go G Q mX6_neededSteps (d + 1) 12)), (38, (o_ld 2 0)), (39, (o_ret Q false))]
set_option maxRecDepth 100000 in
set_option maxHeartbeats 4000000 in
theorem kX6_neededSteps (G : ms_G) (Q : ms_Q) (d : Nat) : ms_Oc G Q mX6_neededSteps (d + 1) (tX6_neededSteps G Q d) :=
  ms_oc1 rfl (s_aload_n rfl dX6_neededSteps_0) <|
  ms_oc1 rfl (s_aload_n rfl dX6_neededSteps_1) <|
  ms_oc1 rfl (s_invV (r := (RX6, TX6, 2)) rfl rfl kw_559 kw_560 kw_561 kw_79 kw_562 ⟨by decide +kernel, by decide +kernel, by decide +kernel⟩ (by decide) dX6_neededSteps_2) <|
  ms_oc1 rfl (s_iconst dX6_neededSteps_5 (by decide)) <|
  ms_oc1 rfl (s_istore_n rfl (by decide) dX6_neededSteps_6) <|
  ms_oc1 rfl (s_aload_n rfl dX6_neededSteps_7) <|
  ms_oc1 rfl (s_get (r := (RX4, TX4, 6)) rfl (by decide) rfl rfl kw_129 dX6_neededSteps_8) <|
  ms_occ (s_istore_n rfl (by decide) dX6_neededSteps_11) <|
  ms_oc1 rfl (s_iload_n rfl dX6_neededSteps_12) <|
  ms_oc1 rfl (s_aload_n rfl dX6_neededSteps_13) <|
  ms_oc1 rfl (s_invV (r := (RX4, TX4, 6)) rfl rfl kw_563 kw_449 kw_450 kw_77 kw_451 ⟨by decide +kernel, by decide +kernel, by decide +kernel⟩ (by decide) dX6_neededSteps_14) <|
  ms_oc1 rfl (s_icmpge (by decide) dX6_neededSteps_17) <|
  ms_oc1 rfl (s_aload_n rfl dX6_neededSteps_20) <|
  ms_oc1 rfl (s_get (r := (RX6, TX6, 2)) rfl (by decide) rfl rfl kw_183 dX6_neededSteps_21) <|
  ms_oc1 rfl (s_iload_n rfl dX6_neededSteps_24) <|
  ms_oc1 rfl (s_baload dX6_neededSteps_25) <|
  ms_oc1 rfl (s_ifeq (by decide) dX6_neededSteps_26) <|
  ms_occ (s_iinc (by decide) dX6_neededSteps_29) <|
  ms_oc1 rfl (s_iinc (by decide) dX6_neededSteps_32) <|
  ms_oc1 rfl (s_goto (by decide) dX6_neededSteps_35) <|
  ms_oc1 rfl (s_iload_n rfl dX6_neededSteps_38) <|
  ms_oc0 (s_iret (b := false) rfl dX6_neededSteps_39)

def tX7_init (G : ms_G) (Q : ms_Q) (d : Nat) : List (Nat × ms_T) := [(0, (o_ld 0 2)), (1, o_oi), (4, (o_ld 0 2)), (5, (o_ci 500)), (8, (o_newa 102)), (10, (o_put 7 0 2)), (13, (o_vret Q))]
set_option maxRecDepth 100000 in
set_option maxHeartbeats 4000000 in
theorem kX7_init (G : ms_G) (Q : ms_Q) (d : Nat) : ms_Oc G Q mX7_init (d + 1) (tX7_init G Q d) :=
  ms_oc1 rfl (s_aload_n rfl dX7_init_0) <|
  ms_oc1 rfl (s_oi kw_206 kw_102 kw_103 dX7_init_1) <|
  ms_oc1 rfl (s_aload_n rfl dX7_init_4) <|
  ms_oc1 rfl (s_sipush dX7_init_5 (by decide) (by decide)) <|
  ms_oc1 rfl (s_newa (ty := .byte) rfl kw_216 dX7_init_8 (Or.inr (Or.inr (Or.inl ⟨rfl, rfl⟩)))) <|
  ms_oc1 rfl (s_put (r := (RX7, TX7, 2)) rfl (by decide) rfl rfl (ms_nar2 (fun r => by cases r <;> exact ⟨rfl, rfl⟩)) (Or.inr ⟨rfl, rfl⟩) kw_207 dX7_init_10) <|
  ms_oc0 (s_vret rfl dX7_init_13)

def tX7_append (G : ms_G) (Q : ms_Q) (d : Nat) : List (Nat × ms_T) := [(0, (o_ci 24)), (2, (o_st 2 0)), (100000, o_go G Q mX7_append (d + 1) 3), (3, (o_ld 2 0)), (4, (o_if1 G Q mX7_append (d + 1) (fun x => x < 0) 46)), (7, (o_ld 0 2)), (8, (o_get 7 1 0)), (11, (o_ci 500)), (14, (o_if2 G Q mX7_append (d + 1) (fun a b => b ≤ a) 46)), (17, (o_ld 0 2)), (18, (o_get 7 0 2)), (21, (o_ld 0 2)), (22, (o_get 7 1 0)), (25, (o_ld 1 0)), (26, (o_ld 2 0)), (27, (o_bin wshr)), (28, (o_un 0 0 wi2b)), (29, o_bast), (30, (o_ld 0 2)), (31, o_dup), (32, (o_get 7 1 0)), (35, (o_ci 1)), (36, (o_bin (fun a b => w32 (a + b)))), (37, (o_put 7 1 0)), (40, (o_inc 2 (-8))), (43, (o_go G Q mX7_append (d + 1) 3)), (46, (o_vret Q))]
set_option maxRecDepth 100000 in
set_option maxHeartbeats 4000000 in
theorem kX7_append (G : ms_G) (Q : ms_Q) (d : Nat) : ms_Oc G Q mX7_append (d + 1) (tX7_append G Q d) :=
  ms_oc1 rfl (s_bipush dX7_append_0 (by decide) (by decide)) <|
  ms_occ (s_istore_n rfl (by decide) dX7_append_2) <|
  ms_oc1 rfl (s_iload_n rfl dX7_append_3) <|
  ms_oc1 rfl (s_iflt (by decide) dX7_append_4) <|
  ms_oc1 rfl (s_aload_n rfl dX7_append_7) <|
  ms_oc1 rfl (s_get (r := (RX7, TX7, 2)) rfl (by decide) rfl rfl kw_210 dX7_append_8) <|
  ms_oc1 rfl (s_sipush dX7_append_11 (by decide) (by decide)) <|
  ms_oc1 rfl (s_icmpge (by decide) dX7_append_14) <|
  ms_oc1 rfl (s_aload_n rfl dX7_append_17) <|
  ms_oc1 rfl (s_get (r := (RX7, TX7, 2)) rfl (by decide) rfl rfl kw_207 dX7_append_18) <|
  ms_oc1 rfl (s_aload_n rfl dX7_append_21) <|
  ms_oc1 rfl (s_get (r := (RX7, TX7, 2)) rfl (by decide) rfl rfl kw_210 dX7_append_22) <|
  ms_oc1 rfl (s_iload_n rfl dX7_append_25) <|
  ms_oc1 rfl (s_iload_n rfl dX7_append_26) <|
  ms_oc1 rfl (s_ishr dX7_append_27) <|
  ms_oc1 rfl (s_i2b dX7_append_28) <|
  ms_oc1 rfl (s_bastore dX7_append_29) <|
  ms_oc1 rfl (s_aload_n rfl dX7_append_30) <|
  ms_oc1 rfl (s_dup dX7_append_31) <|
  ms_oc1 rfl (s_get (r := (RX7, TX7, 2)) rfl (by decide) rfl rfl kw_210 dX7_append_32) <|
  ms_oc1 rfl (s_iconst dX7_append_35 (by decide)) <|
  ms_oc1 rfl (s_iadd dX7_append_36) <|
  ms_oc1 rfl (s_put (r := (RX7, TX7, 2)) rfl (by decide) rfl rfl (ms_nar0 rfl) (Or.inl rfl) kw_210 dX7_append_37) <|
  ms_oc1 rfl (s_iinc (by decide) dX7_append_40) <|
  ms_oc1 rfl (s_goto (by decide) dX7_append_43) <|
  ms_oc0 (s_vret rfl dX7_append_46)

def tX8_init (G : ms_G) (Q : ms_Q) (d : Nat) : List (Nat × ms_T) := [(0, (o_ld 0 2)), (1, o_oi), (4, (o_ld 0 2)), (5, (o_new 9 6)), (8, o_dup), (9, (o_invV G d mX9_init 9 0 0 0)), (12, (o_put 8 0 2)), (15, (o_ld 0 2)), (16, (o_new 2 1)), (19, o_dup), (20, (o_invV G d mX2_init 2 0 1 256)), (23, (o_put 8 1 2)), (26, (o_ld 0 2)), (27, (o_ci 64)), (29, (o_newa 100)), (31, (o_put 8 2 2)), (34, (o_vret Q))]
set_option maxRecDepth 100000 in
set_option maxHeartbeats 4000000 in
theorem kX8_init (G : ms_G) (Q : ms_Q) (d : Nat) : ms_Oc G Q mX8_init (d + 1) (tX8_init G Q d) :=
  ms_oc1 rfl (s_aload_n rfl dX8_init_0) <|
  ms_oc1 rfl (s_oi kw_222 kw_102 kw_103 dX8_init_1) <|
  ms_oc1 rfl (s_aload_n rfl dX8_init_4) <|
  ms_oc1 rfl (s_new (r := (RX9, TX9, 6)) rfl rfl (by decide) kw_223 kw_224 kw_83 dX8_init_5) <|
  ms_oc1 rfl (s_dup dX8_init_8) <|
  ms_oc1 rfl (s_invIN (by decide) rfl rfl kw_225 kw_226 kw_83 kw_227 ⟨by decide +kernel, by decide +kernel, by decide +kernel⟩ (by decide) dX8_init_9) <|
  ms_oc1 rfl (s_put (r := (RX8, TX8, 4)) rfl (by decide) rfl rfl (ms_nar2 (fun r => by cases r <;> exact ⟨rfl, rfl⟩)) (Or.inr ⟨rfl, rfl⟩) kw_253 dX8_init_12) <|
  ms_oc1 rfl (s_aload_n rfl dX8_init_15) <|
  ms_oc1 rfl (s_new (r := (RX2, TX2, 1)) rfl rfl (by decide) kw_251 kw_191 kw_80 dX8_init_16) <|
  ms_oc1 rfl (s_dup dX8_init_19) <|
  ms_oc1 rfl (s_invIN (by decide) rfl rfl kw_252 kw_193 kw_80 kw_194 ⟨by decide +kernel, by decide +kernel, by decide +kernel⟩ (by decide) dX8_init_20) <|
  ms_oc1 rfl (s_put (r := (RX8, TX8, 4)) rfl (by decide) rfl rfl (ms_nar2 (fun r => by cases r <;> exact ⟨rfl, rfl⟩)) (Or.inr ⟨rfl, rfl⟩) kw_254 dX8_init_23) <|
  ms_oc1 rfl (s_aload_n rfl dX8_init_26) <|
  ms_oc1 rfl (s_bipush dX8_init_27 (by decide) (by decide)) <|
  ms_oc1 rfl (s_newa (ty := .int) rfl kw_153 dX8_init_29 (Or.inl ⟨rfl, rfl⟩)) <|
  ms_oc1 rfl (s_put (r := (RX8, TX8, 4)) rfl (by decide) rfl rfl (ms_nar2 (fun r => by cases r <;> exact ⟨rfl, rfl⟩)) (Or.inr ⟨rfl, rfl⟩) kw_255 dX8_init_31) <|
  ms_oc0 (s_vret rfl dX8_init_34)

def tX8_read (G : ms_G) (Q : ms_Q) (d : Nat) : List (Nat × ms_T) := [(0, (o_ld 0 2)), (1, (o_ld 3 2)), (2, (o_put 8 3 2)), (5, (o_ld 0 2)), (6, (o_get 8 3 2)), (9, (o_ci 0)), (10, (o_invV G d mX4_begin 4 1 0 0)), (13, (o_ld 0 2)), (14, (o_get 8 0 2)), (17, (o_ld 1 2)), (18, (o_ld 2 0)), (19, (o_invV G d mX9_begin 9 2 0 0)), (22, (o_ld 0 2)), (23, (o_get 8 0 2)), (26, (o_invV G d mX9_advance 9 0 0 0)), (29, (o_ld 0 2)), (30, (o_ci (1650553701))), (32, (o_invV G d mX8_isWord 8 1 0 0)), (35, (o_if1 G Q mX8_read (d + 1) (fun x => x = 0) 45)), (38, (o_ld 0 2)), (39, (o_invV G d mX8_readBases 8 0 0 0)), (42, (o_go G Q mX8_read (d + 1) 50)), (45, (o_ld 0 2)), (46, (o_ci 1)), (47, (o_invV G d mX8_fault 8 1 0 0)), (100000, o_go G Q mX8_read (d + 1) 50), (50, (o_st 4 0)), (52, (o_ci 0)), (53, (o_st 5 0)), (100000, o_go G Q mX8_read (d + 1) 55), (55, (o_ld 5 0)), (57, (o_ld 2 0)), (58, (o_if2 G Q mX8_read (d + 1) (fun a b => b < a) 99)), (61, (o_ld 4 0)), (63, (o_if1 G Q mX8_read (d + 1) (fun x => ¬ x = 0) 99)), (66, (o_ld 0 2)), (67, (o_get 8 0 2)), (70, (o_invV G d mX9_advance 9 0 0 0)), (73, (o_ld 0 2)), (74, (o_ci (2002873972))), (76, (o_invV G d mX8_isWord 8 1 0 0)), (79, (o_if1 G Q mX8_read (d + 1) (fun x => x = 0) 87)), (82, (o_ld 0 2)), (83, (o_invV G d mX8_readWants 8 0 0 0)), (86, (o_ret Q false)), (87, (o_ld 0 2)), (88, (o_invV G d mX8_readStatement 8 0 0 0)), (91, (o_st 4 0)), (93, (o_inc 5 1)), (96, (o_go G Q mX8_read (d + 1) 55)), (99, (o_ld 4 0)), (101, (o_ret Q false))]
set_option maxRecDepth 100000 in
set_option maxHeartbeats 4000000 in
theorem kX8_read (G : ms_G) (Q : ms_Q) (d : Nat) : ms_Oc G Q mX8_read (d + 1) (tX8_read G Q d) :=
  ms_oc1 rfl (s_aload_n rfl dX8_read_0) <|
  ms_oc1 rfl (s_aload_n rfl dX8_read_1) <|
  ms_oc1 rfl (s_put (r := (RX8, TX8, 4)) rfl (by decide) rfl rfl (ms_nar2 (fun r => by cases r <;> exact ⟨rfl, rfl⟩)) (Or.inl rfl) kw_256 dX8_read_2) <|
  ms_oc1 rfl (s_aload_n rfl dX8_read_5) <|
  ms_oc1 rfl (s_get (r := (RX8, TX8, 4)) rfl (by decide) rfl rfl kw_256 dX8_read_6) <|
  ms_oc1 rfl (s_iconst dX8_read_9 (by decide)) <|
  ms_oc1 rfl (s_invV (r := (RX4, TX4, 6)) rfl rfl kw_406 kw_407 kw_408 kw_77 kw_409 ⟨by decide +kernel, by decide +kernel, by decide +kernel⟩ (by decide) dX8_read_10) <|
  ms_oc1 rfl (s_aload_n rfl dX8_read_13) <|
  ms_oc1 rfl (s_get (r := (RX8, TX8, 4)) rfl (by decide) rfl rfl kw_253 dX8_read_14) <|
  ms_oc1 rfl (s_aload_n rfl dX8_read_17) <|
  ms_oc1 rfl (s_iload_n rfl dX8_read_18) <|
  ms_oc1 rfl (s_invV (r := (RX9, TX9, 6)) rfl rfl kw_410 kw_411 kw_412 kw_83 kw_413 ⟨by decide +kernel, by decide +kernel, by decide +kernel⟩ (by decide) dX8_read_19) <|
  ms_oc1 rfl (s_aload_n rfl dX8_read_22) <|
  ms_oc1 rfl (s_get (r := (RX8, TX8, 4)) rfl (by decide) rfl rfl kw_253 dX8_read_23) <|
  ms_oc1 rfl (s_invV (r := (RX9, TX9, 6)) rfl rfl kw_414 kw_415 kw_416 kw_83 kw_417 ⟨by decide +kernel, by decide +kernel, by decide +kernel⟩ (by decide) dX8_read_26) <|
  ms_oc1 rfl (s_aload_n rfl dX8_read_29) <|
  ms_oc1 rfl (s_ldc dX8_read_30 kw_422 (by decide) (by decide)) <|
  ms_oc1 rfl (s_invV (r := (RX8, TX8, 4)) rfl rfl kw_423 kw_425 kw_1 kw_82 kw_426 ⟨by decide +kernel, by decide +kernel, by decide +kernel⟩ (by decide) dX8_read_32) <|
  ms_oc1 rfl (s_ifeq (by decide) dX8_read_35) <|
  ms_oc1 rfl (s_aload_n rfl dX8_read_38) <|
  ms_oc1 rfl (s_invV (r := (RX8, TX8, 4)) rfl rfl kw_427 kw_429 kw_2 kw_82 kw_430 ⟨by decide +kernel, by decide +kernel, by decide +kernel⟩ (by decide) dX8_read_39) <|
  ms_oc1 rfl (s_goto (by decide) dX8_read_42) <|
  ms_oc1 rfl (s_aload_n rfl dX8_read_45) <|
  ms_oc1 rfl (s_iconst dX8_read_46 (by decide)) <|
  ms_occ (s_invV (r := (RX8, TX8, 4)) rfl rfl kw_440 kw_442 kw_5 kw_82 kw_443 ⟨by decide +kernel, by decide +kernel, by decide +kernel⟩ (by decide) dX8_read_47) <|
  ms_oc1 rfl (s_istore (by decide) dX8_read_50) <|
  ms_oc1 rfl (s_iconst dX8_read_52 (by decide)) <|
  ms_occ (s_istore (by decide) dX8_read_53) <|
  ms_oc1 rfl (s_iload dX8_read_55) <|
  ms_oc1 rfl (s_iload_n rfl dX8_read_57) <|
  ms_oc1 rfl (s_icmpgt (by decide) dX8_read_58) <|
  ms_oc1 rfl (s_iload dX8_read_61) <|
  ms_oc1 rfl (s_ifne (by decide) dX8_read_63) <|
  ms_oc1 rfl (s_aload_n rfl dX8_read_66) <|
  ms_oc1 rfl (s_get (r := (RX8, TX8, 4)) rfl (by decide) rfl rfl kw_253 dX8_read_67) <|
  ms_oc1 rfl (s_invV (r := (RX9, TX9, 6)) rfl rfl kw_414 kw_415 kw_416 kw_83 kw_417 ⟨by decide +kernel, by decide +kernel, by decide +kernel⟩ (by decide) dX8_read_70) <|
  ms_oc1 rfl (s_aload_n rfl dX8_read_73) <|
  ms_oc1 rfl (s_ldc dX8_read_74 kw_439 (by decide) (by decide)) <|
  ms_oc1 rfl (s_invV (r := (RX8, TX8, 4)) rfl rfl kw_423 kw_425 kw_1 kw_82 kw_426 ⟨by decide +kernel, by decide +kernel, by decide +kernel⟩ (by decide) dX8_read_76) <|
  ms_oc1 rfl (s_ifeq (by decide) dX8_read_79) <|
  ms_oc1 rfl (s_aload_n rfl dX8_read_82) <|
  ms_oc1 rfl (s_invV (r := (RX8, TX8, 4)) rfl rfl kw_456 kw_458 kw_7 kw_82 kw_459 ⟨by decide +kernel, by decide +kernel, by decide +kernel⟩ (by decide) dX8_read_83) <|
  ms_oc1 rfl (s_iret (b := false) rfl dX8_read_86) <|
  ms_oc1 rfl (s_aload_n rfl dX8_read_87) <|
  ms_oc1 rfl (s_invV (r := (RX8, TX8, 4)) rfl rfl kw_468 kw_470 kw_10 kw_82 kw_471 ⟨by decide +kernel, by decide +kernel, by decide +kernel⟩ (by decide) dX8_read_88) <|
  ms_oc1 rfl (s_istore (by decide) dX8_read_91) <|
  ms_oc1 rfl (s_iinc (by decide) dX8_read_93) <|
  ms_oc1 rfl (s_goto (by decide) dX8_read_96) <|
  ms_oc1 rfl (s_iload dX8_read_99) <|
  ms_oc0 (s_iret (b := false) rfl dX8_read_101)

def tX8_readBases (G : ms_G) (Q : ms_Q) (d : Nat) : List (Nat × ms_T) := [(0, (o_ci 0)), (1, (o_st 1 0)), (100000, o_go G Q mX8_readBases (d + 1) 2), (2, (o_ld 1 0)), (3, (o_ci 4)), (4, (o_if2 G Q mX8_readBases (d + 1) (fun a b => b < a) 94)), (7, (o_ld 0 2)), (8, (o_get 8 0 2)), (11, (o_invV G d mX9_advance 9 0 0 0)), (14, (o_ld 0 2)), (15, (o_get 8 0 2)), (18, (o_get 9 3 0)), (21, (o_ci 59)), (23, (o_if2 G Q mX8_readBases (d + 1) (fun a b => ¬ a = b) 32)), (26, (o_ld 1 0)), (27, (o_if1 G Q mX8_readBases (d + 1) (fun x => x ≤ 0) 32)), (30, (o_ci 0)), (31, (o_ret Q false)), (32, (o_ld 0 2)), (33, (o_invV G d mX8_newNameFault 8 0 0 0)), (36, (o_st 2 0)), (37, (o_ld 2 0)), (38, (o_if1 G Q mX8_readBases (d + 1) (fun x => x = 0) 43)), (41, (o_ld 2 0)), (42, (o_ret Q false)), (43, (o_ld 1 0)), (44, (o_ci 4)), (45, (o_if2 G Q mX8_readBases (d + 1) (fun a b => ¬ a = b) 54)), (48, (o_ld 0 2)), (49, (o_ci 5)), (50, (o_invV G d mX8_fault 8 1 0 0)), (53, (o_ret Q false)), (54, (o_ld 0 2)), (55, (o_get 8 2 2)), (58, (o_ld 1 0)), (59, (o_ld 0 2)), (60, (o_get 8 0 2)), (63, (o_get 9 5 0)), (66, (o_ast 100 0 (fun x => x))), (67, (o_ld 0 2)), (68, (o_get 8 1 2)), (71, (o_ld 1 0)), (72, (o_invV G d mX2_measureBase 2 1 0 0)), (75, (o_ld 0 2)), (76, (o_get 8 3 2)), (79, o_dup), (80, (o_get 4 3 0)), (83, (o_ci 1)), (84, (o_bin (fun a b => w32 (a + b)))), (85, (o_put 4 3 0)), (88, (o_inc 1 1)), (91, (o_go G Q mX8_readBases (d + 1) 2)), (94, (o_ci 0)), (95, (o_ret Q false))]
set_option maxRecDepth 100000 in
set_option maxHeartbeats 4000000 in
theorem kX8_readBases (G : ms_G) (Q : ms_Q) (d : Nat) : ms_Oc G Q mX8_readBases (d + 1) (tX8_readBases G Q d) :=
  ms_oc1 rfl (s_iconst dX8_readBases_0 (by decide)) <|
  ms_occ (s_istore_n rfl (by decide) dX8_readBases_1) <|
  ms_oc1 rfl (s_iload_n rfl dX8_readBases_2) <|
  ms_oc1 rfl (s_iconst dX8_readBases_3 (by decide)) <|
  ms_oc1 rfl (s_icmpgt (by decide) dX8_readBases_4) <|
  ms_oc1 rfl (s_aload_n rfl dX8_readBases_7) <|
  ms_oc1 rfl (s_get (r := (RX8, TX8, 4)) rfl (by decide) rfl rfl kw_253 dX8_readBases_8) <|
  ms_oc1 rfl (s_invV (r := (RX9, TX9, 6)) rfl rfl kw_414 kw_415 kw_416 kw_83 kw_417 ⟨by decide +kernel, by decide +kernel, by decide +kernel⟩ (by decide) dX8_readBases_11) <|
  ms_oc1 rfl (s_aload_n rfl dX8_readBases_14) <|
  ms_oc1 rfl (s_get (r := (RX8, TX8, 4)) rfl (by decide) rfl rfl kw_253 dX8_readBases_15) <|
  ms_oc1 rfl (s_get (r := (RX9, TX9, 6)) rfl (by decide) rfl rfl kw_232 dX8_readBases_18) <|
  ms_oc1 rfl (s_bipush dX8_readBases_21 (by decide) (by decide)) <|
  ms_oc1 rfl (s_icmpne (by decide) dX8_readBases_23) <|
  ms_oc1 rfl (s_iload_n rfl dX8_readBases_26) <|
  ms_oc1 rfl (s_ifle (by decide) dX8_readBases_27) <|
  ms_oc1 rfl (s_iconst dX8_readBases_30 (by decide)) <|
  ms_oc1 rfl (s_iret (b := false) rfl dX8_readBases_31) <|
  ms_oc1 rfl (s_aload_n rfl dX8_readBases_32) <|
  ms_oc1 rfl (s_invV (r := (RX8, TX8, 4)) rfl rfl kw_431 kw_433 kw_3 kw_82 kw_434 ⟨by decide +kernel, by decide +kernel, by decide +kernel⟩ (by decide) dX8_readBases_33) <|
  ms_oc1 rfl (s_istore_n rfl (by decide) dX8_readBases_36) <|
  ms_oc1 rfl (s_iload_n rfl dX8_readBases_37) <|
  ms_oc1 rfl (s_ifeq (by decide) dX8_readBases_38) <|
  ms_oc1 rfl (s_iload_n rfl dX8_readBases_41) <|
  ms_oc1 rfl (s_iret (b := false) rfl dX8_readBases_42) <|
  ms_oc1 rfl (s_iload_n rfl dX8_readBases_43) <|
  ms_oc1 rfl (s_iconst dX8_readBases_44 (by decide)) <|
  ms_oc1 rfl (s_icmpne (by decide) dX8_readBases_45) <|
  ms_oc1 rfl (s_aload_n rfl dX8_readBases_48) <|
  ms_oc1 rfl (s_iconst dX8_readBases_49 (by decide)) <|
  ms_oc1 rfl (s_invV (r := (RX8, TX8, 4)) rfl rfl kw_440 kw_442 kw_5 kw_82 kw_443 ⟨by decide +kernel, by decide +kernel, by decide +kernel⟩ (by decide) dX8_readBases_50) <|
  ms_oc1 rfl (s_iret (b := false) rfl dX8_readBases_53) <|
  ms_oc1 rfl (s_aload_n rfl dX8_readBases_54) <|
  ms_oc1 rfl (s_get (r := (RX8, TX8, 4)) rfl (by decide) rfl rfl kw_255 dX8_readBases_55) <|
  ms_oc1 rfl (s_iload_n rfl dX8_readBases_58) <|
  ms_oc1 rfl (s_aload_n rfl dX8_readBases_59) <|
  ms_oc1 rfl (s_get (r := (RX8, TX8, 4)) rfl (by decide) rfl rfl kw_253 dX8_readBases_60) <|
  ms_oc1 rfl (s_get (r := (RX9, TX9, 6)) rfl (by decide) rfl rfl kw_237 dX8_readBases_63) <|
  ms_oc1 rfl (s_iastore dX8_readBases_66) <|
  ms_oc1 rfl (s_aload_n rfl dX8_readBases_67) <|
  ms_oc1 rfl (s_get (r := (RX8, TX8, 4)) rfl (by decide) rfl rfl kw_254 dX8_readBases_68) <|
  ms_oc1 rfl (s_iload_n rfl dX8_readBases_71) <|
  ms_oc1 rfl (s_invV (r := (RX2, TX2, 1)) rfl rfl kw_452 kw_453 kw_454 kw_80 kw_455 ⟨by decide +kernel, by decide +kernel, by decide +kernel⟩ (by decide) dX8_readBases_72) <|
  ms_oc1 rfl (s_aload_n rfl dX8_readBases_75) <|
  ms_oc1 rfl (s_get (r := (RX8, TX8, 4)) rfl (by decide) rfl rfl kw_256 dX8_readBases_76) <|
  ms_oc1 rfl (s_dup dX8_readBases_79) <|
  ms_oc1 rfl (s_get (r := (RX4, TX4, 6)) rfl (by decide) rfl rfl kw_127 dX8_readBases_80) <|
  ms_oc1 rfl (s_iconst dX8_readBases_83 (by decide)) <|
  ms_oc1 rfl (s_iadd dX8_readBases_84) <|
  ms_oc1 rfl (s_put (r := (RX4, TX4, 6)) rfl (by decide) rfl rfl (ms_nar0 rfl) (Or.inl rfl) kw_127 dX8_readBases_85) <|
  ms_oc1 rfl (s_iinc (by decide) dX8_readBases_88) <|
  ms_oc1 rfl (s_goto (by decide) dX8_readBases_91) <|
  ms_oc1 rfl (s_iconst dX8_readBases_94 (by decide)) <|
  ms_oc0 (s_iret (b := false) rfl dX8_readBases_95)

def tX8_readWants (G : ms_G) (Q : ms_Q) (d : Nat) : List (Nat × ms_T) := [(0, (o_ci 0)), (1, (o_st 1 0)), (100000, o_go G Q mX8_readWants (d + 1) 2), (2, (o_ld 1 0)), (3, (o_ci 4)), (4, (o_if2 G Q mX8_readWants (d + 1) (fun a b => b < a) 96)), (7, (o_ld 0 2)), (8, (o_get 8 0 2)), (11, (o_invV G d mX9_advance 9 0 0 0)), (14, (o_ld 0 2)), (15, (o_get 8 0 2)), (18, (o_get 9 3 0)), (21, (o_ci 59)), (23, (o_if2 G Q mX8_readWants (d + 1) (fun a b => ¬ a = b) 35)), (26, (o_ld 1 0)), (27, (o_if1 G Q mX8_readWants (d + 1) (fun x => x ≤ 0) 35)), (30, (o_ld 0 2)), (31, (o_invV G d mX8_readEnd 8 0 0 0)), (34, (o_ret Q false)), (35, (o_ld 0 2)), (36, (o_invV G d mX8_knownNameFault 8 0 0 0)), (39, (o_st 2 0)), (40, (o_ld 2 0)), (41, (o_if1 G Q mX8_readWants (d + 1) (fun x => x = 0) 46)), (44, (o_ld 2 0)), (45, (o_ret Q false)), (46, (o_ld 1 0)), (47, (o_ci 4)), (48, (o_if2 G Q mX8_readWants (d + 1) (fun a b => ¬ a = b) 57)), (51, (o_ld 0 2)), (52, (o_ci 5)), (53, (o_invV G d mX8_fault 8 1 0 0)), (56, (o_ret Q false)), (57, (o_ld 0 2)), (58, (o_get 8 3 2)), (61, (o_get 4 2 2)), (64, (o_ld 1 0)), (65, (o_ld 0 2)), (66, (o_ld 0 2)), (67, (o_get 8 0 2)), (70, (o_get 9 5 0)), (73, (o_invV G d mX8_nodeNamed 8 1 0 0)), (76, (o_ast 100 0 (fun x => x))), (77, (o_ld 0 2)), (78, (o_get 8 3 2)), (81, o_dup), (82, (o_get 4 5 0)), (85, (o_ci 1)), (86, (o_bin (fun a b => w32 (a + b)))), (87, (o_put 4 5 0)), (90, (o_inc 1 1)), (93, (o_go G Q mX8_readWants (d + 1) 2)), (96, (o_ci 0)), (97, (o_ret Q false))]
set_option maxRecDepth 100000 in
set_option maxHeartbeats 4000000 in
theorem kX8_readWants (G : ms_G) (Q : ms_Q) (d : Nat) : ms_Oc G Q mX8_readWants (d + 1) (tX8_readWants G Q d) :=
  ms_oc1 rfl (s_iconst dX8_readWants_0 (by decide)) <|
  ms_occ (s_istore_n rfl (by decide) dX8_readWants_1) <|
  ms_oc1 rfl (s_iload_n rfl dX8_readWants_2) <|
  ms_oc1 rfl (s_iconst dX8_readWants_3 (by decide)) <|
  ms_oc1 rfl (s_icmpgt (by decide) dX8_readWants_4) <|
  ms_oc1 rfl (s_aload_n rfl dX8_readWants_7) <|
  ms_oc1 rfl (s_get (r := (RX8, TX8, 4)) rfl (by decide) rfl rfl kw_253 dX8_readWants_8) <|
  ms_oc1 rfl (s_invV (r := (RX9, TX9, 6)) rfl rfl kw_414 kw_415 kw_416 kw_83 kw_417 ⟨by decide +kernel, by decide +kernel, by decide +kernel⟩ (by decide) dX8_readWants_11) <|
  ms_oc1 rfl (s_aload_n rfl dX8_readWants_14) <|
  ms_oc1 rfl (s_get (r := (RX8, TX8, 4)) rfl (by decide) rfl rfl kw_253 dX8_readWants_15) <|
  ms_oc1 rfl (s_get (r := (RX9, TX9, 6)) rfl (by decide) rfl rfl kw_232 dX8_readWants_18) <|
  ms_oc1 rfl (s_bipush dX8_readWants_21 (by decide) (by decide)) <|
  ms_oc1 rfl (s_icmpne (by decide) dX8_readWants_23) <|
  ms_oc1 rfl (s_iload_n rfl dX8_readWants_26) <|
  ms_oc1 rfl (s_ifle (by decide) dX8_readWants_27) <|
  ms_oc1 rfl (s_aload_n rfl dX8_readWants_30) <|
  ms_oc1 rfl (s_invV (r := (RX8, TX8, 4)) rfl rfl kw_460 kw_462 kw_8 kw_82 kw_463 ⟨by decide +kernel, by decide +kernel, by decide +kernel⟩ (by decide) dX8_readWants_31) <|
  ms_oc1 rfl (s_iret (b := false) rfl dX8_readWants_34) <|
  ms_oc1 rfl (s_aload_n rfl dX8_readWants_35) <|
  ms_oc1 rfl (s_invV (r := (RX8, TX8, 4)) rfl rfl kw_464 kw_466 kw_9 kw_82 kw_467 ⟨by decide +kernel, by decide +kernel, by decide +kernel⟩ (by decide) dX8_readWants_36) <|
  ms_oc1 rfl (s_istore_n rfl (by decide) dX8_readWants_39) <|
  ms_oc1 rfl (s_iload_n rfl dX8_readWants_40) <|
  ms_oc1 rfl (s_ifeq (by decide) dX8_readWants_41) <|
  ms_oc1 rfl (s_iload_n rfl dX8_readWants_44) <|
  ms_oc1 rfl (s_iret (b := false) rfl dX8_readWants_45) <|
  ms_oc1 rfl (s_iload_n rfl dX8_readWants_46) <|
  ms_oc1 rfl (s_iconst dX8_readWants_47 (by decide)) <|
  ms_oc1 rfl (s_icmpne (by decide) dX8_readWants_48) <|
  ms_oc1 rfl (s_aload_n rfl dX8_readWants_51) <|
  ms_oc1 rfl (s_iconst dX8_readWants_52 (by decide)) <|
  ms_oc1 rfl (s_invV (r := (RX8, TX8, 4)) rfl rfl kw_440 kw_442 kw_5 kw_82 kw_443 ⟨by decide +kernel, by decide +kernel, by decide +kernel⟩ (by decide) dX8_readWants_53) <|
  ms_oc1 rfl (s_iret (b := false) rfl dX8_readWants_56) <|
  ms_oc1 rfl (s_aload_n rfl dX8_readWants_57) <|
  ms_oc1 rfl (s_get (r := (RX8, TX8, 4)) rfl (by decide) rfl rfl kw_256 dX8_readWants_58) <|
  ms_oc1 rfl (s_get (r := (RX4, TX4, 6)) rfl (by decide) rfl rfl kw_123 dX8_readWants_61) <|
  ms_oc1 rfl (s_iload_n rfl dX8_readWants_64) <|
  ms_oc1 rfl (s_aload_n rfl dX8_readWants_65) <|
  ms_oc1 rfl (s_aload_n rfl dX8_readWants_66) <|
  ms_oc1 rfl (s_get (r := (RX8, TX8, 4)) rfl (by decide) rfl rfl kw_253 dX8_readWants_67) <|
  ms_oc1 rfl (s_get (r := (RX9, TX9, 6)) rfl (by decide) rfl rfl kw_237 dX8_readWants_70) <|
  ms_oc1 rfl (s_invV (r := (RX8, TX8, 4)) rfl rfl kw_444 kw_446 kw_6 kw_82 kw_447 ⟨by decide +kernel, by decide +kernel, by decide +kernel⟩ (by decide) dX8_readWants_73) <|
  ms_oc1 rfl (s_iastore dX8_readWants_76) <|
  ms_oc1 rfl (s_aload_n rfl dX8_readWants_77) <|
  ms_oc1 rfl (s_get (r := (RX8, TX8, 4)) rfl (by decide) rfl rfl kw_256 dX8_readWants_78) <|
  ms_oc1 rfl (s_dup dX8_readWants_81) <|
  ms_oc1 rfl (s_get (r := (RX4, TX4, 6)) rfl (by decide) rfl rfl kw_136 dX8_readWants_82) <|
  ms_oc1 rfl (s_iconst dX8_readWants_85 (by decide)) <|
  ms_oc1 rfl (s_iadd dX8_readWants_86) <|
  ms_oc1 rfl (s_put (r := (RX4, TX4, 6)) rfl (by decide) rfl rfl (ms_nar0 rfl) (Or.inl rfl) kw_136 dX8_readWants_87) <|
  ms_oc1 rfl (s_iinc (by decide) dX8_readWants_90) <|
  ms_oc1 rfl (s_goto (by decide) dX8_readWants_93) <|
  ms_oc1 rfl (s_iconst dX8_readWants_96 (by decide)) <|
  ms_oc0 (s_iret (b := false) rfl dX8_readWants_97)

def tX8_readEnd (G : ms_G) (Q : ms_Q) (d : Nat) : List (Nat × ms_T) := [(0, (o_ld 0 2)), (1, (o_get 8 0 2)), (4, (o_invV G d mX9_advance 9 0 0 0)), (7, (o_ld 0 2)), (8, (o_get 8 0 2)), (11, (o_get 9 3 0)), (14, (o_if1 G Q mX8_readEnd (d + 1) (fun x => ¬ x = 0) 21)), (17, (o_ci 0)), (18, (o_go G Q mX8_readEnd (d + 1) 26)), (21, (o_ld 0 2)), (22, (o_ci 1)), (23, (o_invV G d mX8_fault 8 1 0 0)), (100000, o_go G Q mX8_readEnd (d + 1) 26), (26, (o_ret Q false))]
set_option maxRecDepth 100000 in
set_option maxHeartbeats 4000000 in
theorem kX8_readEnd (G : ms_G) (Q : ms_Q) (d : Nat) : ms_Oc G Q mX8_readEnd (d + 1) (tX8_readEnd G Q d) :=
  ms_oc1 rfl (s_aload_n rfl dX8_readEnd_0) <|
  ms_oc1 rfl (s_get (r := (RX8, TX8, 4)) rfl (by decide) rfl rfl kw_253 dX8_readEnd_1) <|
  ms_oc1 rfl (s_invV (r := (RX9, TX9, 6)) rfl rfl kw_414 kw_415 kw_416 kw_83 kw_417 ⟨by decide +kernel, by decide +kernel, by decide +kernel⟩ (by decide) dX8_readEnd_4) <|
  ms_oc1 rfl (s_aload_n rfl dX8_readEnd_7) <|
  ms_oc1 rfl (s_get (r := (RX8, TX8, 4)) rfl (by decide) rfl rfl kw_253 dX8_readEnd_8) <|
  ms_oc1 rfl (s_get (r := (RX9, TX9, 6)) rfl (by decide) rfl rfl kw_232 dX8_readEnd_11) <|
  ms_oc1 rfl (s_ifne (by decide) dX8_readEnd_14) <|
  ms_oc1 rfl (s_iconst dX8_readEnd_17 (by decide)) <|
  ms_oc1 rfl (s_goto (by decide) dX8_readEnd_18) <|
  ms_oc1 rfl (s_aload_n rfl dX8_readEnd_21) <|
  ms_oc1 rfl (s_iconst dX8_readEnd_22 (by decide)) <|
  ms_occ (s_invV (r := (RX8, TX8, 4)) rfl rfl kw_440 kw_442 kw_5 kw_82 kw_443 ⟨by decide +kernel, by decide +kernel, by decide +kernel⟩ (by decide) dX8_readEnd_23) <|
  ms_oc0 (s_iret (b := false) rfl dX8_readEnd_26)

def tX8_readStatement (G : ms_G) (Q : ms_Q) (d : Nat) : List (Nat × ms_T) := [(0, (o_ld 0 2)), (1, (o_invV G d mX8_newNameFault 8 0 0 0)), (4, (o_st 1 0)), (5, (o_ld 1 0)), (6, (o_if1 G Q mX8_readStatement (d + 1) (fun x => x = 0) 11)), (9, (o_ld 1 0)), (10, (o_ret Q false)), (11, (o_ld 0 2)), (12, (o_get 8 0 2)), (15, (o_get 9 5 0)), (18, (o_st 2 0)), (19, (o_ld 0 2)), (20, (o_get 8 0 2)), (23, (o_invV G d mX9_advance 9 0 0 0)), (26, (o_ld 0 2)), (27, (o_get 8 0 2)), (30, (o_get 9 3 0)), (33, (o_ci 61)), (35, (o_if2 G Q mX8_readStatement (d + 1) (fun a b => a = b) 44)), (38, (o_ld 0 2)), (39, (o_ci 1)), (40, (o_invV G d mX8_fault 8 1 0 0)), (43, (o_ret Q false)), (44, (o_ld 0 2)), (45, (o_get 8 0 2)), (48, (o_invV G d mX9_advance 9 0 0 0)), (51, (o_ld 0 2)), (52, (o_invV G d mX8_knownNameFault 8 0 0 0)), (55, (o_st 1 0)), (56, (o_ld 1 0)), (57, (o_if1 G Q mX8_readStatement (d + 1) (fun x => x = 0) 62)), (60, (o_ld 1 0)), (61, (o_ret Q false)), (62, (o_ld 0 2)), (63, (o_ld 0 2)), (64, (o_get 8 0 2)), (67, (o_get 9 5 0)), (70, (o_invV G d mX8_nodeNamed 8 1 0 0)), (73, (o_st 3 0)), (74, (o_ld 0 2)), (75, (o_get 8 0 2)), (78, (o_invV G d mX9_advance 9 0 0 0)), (81, (o_ld 0 2)), (82, (o_get 8 0 2)), (85, (o_get 9 3 0)), (88, (o_ci 42)), (90, (o_if2 G Q mX8_readStatement (d + 1) (fun a b => ¬ a = b) 100)), (93, (o_ld 0 2)), (94, (o_ld 2 0)), (95, (o_ld 3 0)), (96, (o_invV G d mX8_readProduct 8 2 0 0)), (99, (o_ret Q false)), (100, (o_ld 0 2)), (101, (o_get 8 0 2)), (104, (o_get 9 3 0)), (107, (o_ci 94)), (109, (o_if2 G Q mX8_readStatement (d + 1) (fun a b => ¬ a = b) 121)), (112, (o_ld 0 2)), (113, (o_ld 2 0)), (114, (o_ld 3 0)), (115, (o_invV G d mX8_readPower 8 2 0 0)), (118, (o_go G Q mX8_readStatement (d + 1) 126)), (121, (o_ld 0 2)), (122, (o_ci 1)), (123, (o_invV G d mX8_fault 8 1 0 0)), (100000, o_go G Q mX8_readStatement (d + 1) 126), (126, (o_ret Q false))]
set_option maxRecDepth 100000 in
set_option maxHeartbeats 4000000 in
theorem kX8_readStatement (G : ms_G) (Q : ms_Q) (d : Nat) : ms_Oc G Q mX8_readStatement (d + 1) (tX8_readStatement G Q d) :=
  ms_oc1 rfl (s_aload_n rfl dX8_readStatement_0) <|
  ms_oc1 rfl (s_invV (r := (RX8, TX8, 4)) rfl rfl kw_431 kw_433 kw_3 kw_82 kw_434 ⟨by decide +kernel, by decide +kernel, by decide +kernel⟩ (by decide) dX8_readStatement_1) <|
  ms_oc1 rfl (s_istore_n rfl (by decide) dX8_readStatement_4) <|
  ms_oc1 rfl (s_iload_n rfl dX8_readStatement_5) <|
  ms_oc1 rfl (s_ifeq (by decide) dX8_readStatement_6) <|
  ms_oc1 rfl (s_iload_n rfl dX8_readStatement_9) <|
  ms_oc1 rfl (s_iret (b := false) rfl dX8_readStatement_10) <|
  ms_oc1 rfl (s_aload_n rfl dX8_readStatement_11) <|
  ms_oc1 rfl (s_get (r := (RX8, TX8, 4)) rfl (by decide) rfl rfl kw_253 dX8_readStatement_12) <|
  ms_oc1 rfl (s_get (r := (RX9, TX9, 6)) rfl (by decide) rfl rfl kw_237 dX8_readStatement_15) <|
  ms_oc1 rfl (s_istore_n rfl (by decide) dX8_readStatement_18) <|
  ms_oc1 rfl (s_aload_n rfl dX8_readStatement_19) <|
  ms_oc1 rfl (s_get (r := (RX8, TX8, 4)) rfl (by decide) rfl rfl kw_253 dX8_readStatement_20) <|
  ms_oc1 rfl (s_invV (r := (RX9, TX9, 6)) rfl rfl kw_414 kw_415 kw_416 kw_83 kw_417 ⟨by decide +kernel, by decide +kernel, by decide +kernel⟩ (by decide) dX8_readStatement_23) <|
  ms_oc1 rfl (s_aload_n rfl dX8_readStatement_26) <|
  ms_oc1 rfl (s_get (r := (RX8, TX8, 4)) rfl (by decide) rfl rfl kw_253 dX8_readStatement_27) <|
  ms_oc1 rfl (s_get (r := (RX9, TX9, 6)) rfl (by decide) rfl rfl kw_232 dX8_readStatement_30) <|
  ms_oc1 rfl (s_bipush dX8_readStatement_33 (by decide) (by decide)) <|
  ms_oc1 rfl (s_icmpeq (by decide) dX8_readStatement_35) <|
  ms_oc1 rfl (s_aload_n rfl dX8_readStatement_38) <|
  ms_oc1 rfl (s_iconst dX8_readStatement_39 (by decide)) <|
  ms_oc1 rfl (s_invV (r := (RX8, TX8, 4)) rfl rfl kw_440 kw_442 kw_5 kw_82 kw_443 ⟨by decide +kernel, by decide +kernel, by decide +kernel⟩ (by decide) dX8_readStatement_40) <|
  ms_oc1 rfl (s_iret (b := false) rfl dX8_readStatement_43) <|
  ms_oc1 rfl (s_aload_n rfl dX8_readStatement_44) <|
  ms_oc1 rfl (s_get (r := (RX8, TX8, 4)) rfl (by decide) rfl rfl kw_253 dX8_readStatement_45) <|
  ms_oc1 rfl (s_invV (r := (RX9, TX9, 6)) rfl rfl kw_414 kw_415 kw_416 kw_83 kw_417 ⟨by decide +kernel, by decide +kernel, by decide +kernel⟩ (by decide) dX8_readStatement_48) <|
  ms_oc1 rfl (s_aload_n rfl dX8_readStatement_51) <|
  ms_oc1 rfl (s_invV (r := (RX8, TX8, 4)) rfl rfl kw_464 kw_466 kw_9 kw_82 kw_467 ⟨by decide +kernel, by decide +kernel, by decide +kernel⟩ (by decide) dX8_readStatement_52) <|
  ms_oc1 rfl (s_istore_n rfl (by decide) dX8_readStatement_55) <|
  ms_oc1 rfl (s_iload_n rfl dX8_readStatement_56) <|
  ms_oc1 rfl (s_ifeq (by decide) dX8_readStatement_57) <|
  ms_oc1 rfl (s_iload_n rfl dX8_readStatement_60) <|
  ms_oc1 rfl (s_iret (b := false) rfl dX8_readStatement_61) <|
  ms_oc1 rfl (s_aload_n rfl dX8_readStatement_62) <|
  ms_oc1 rfl (s_aload_n rfl dX8_readStatement_63) <|
  ms_oc1 rfl (s_get (r := (RX8, TX8, 4)) rfl (by decide) rfl rfl kw_253 dX8_readStatement_64) <|
  ms_oc1 rfl (s_get (r := (RX9, TX9, 6)) rfl (by decide) rfl rfl kw_237 dX8_readStatement_67) <|
  ms_oc1 rfl (s_invV (r := (RX8, TX8, 4)) rfl rfl kw_444 kw_446 kw_6 kw_82 kw_447 ⟨by decide +kernel, by decide +kernel, by decide +kernel⟩ (by decide) dX8_readStatement_70) <|
  ms_oc1 rfl (s_istore_n rfl (by decide) dX8_readStatement_73) <|
  ms_oc1 rfl (s_aload_n rfl dX8_readStatement_74) <|
  ms_oc1 rfl (s_get (r := (RX8, TX8, 4)) rfl (by decide) rfl rfl kw_253 dX8_readStatement_75) <|
  ms_oc1 rfl (s_invV (r := (RX9, TX9, 6)) rfl rfl kw_414 kw_415 kw_416 kw_83 kw_417 ⟨by decide +kernel, by decide +kernel, by decide +kernel⟩ (by decide) dX8_readStatement_78) <|
  ms_oc1 rfl (s_aload_n rfl dX8_readStatement_81) <|
  ms_oc1 rfl (s_get (r := (RX8, TX8, 4)) rfl (by decide) rfl rfl kw_253 dX8_readStatement_82) <|
  ms_oc1 rfl (s_get (r := (RX9, TX9, 6)) rfl (by decide) rfl rfl kw_232 dX8_readStatement_85) <|
  ms_oc1 rfl (s_bipush dX8_readStatement_88 (by decide) (by decide)) <|
  ms_oc1 rfl (s_icmpne (by decide) dX8_readStatement_90) <|
  ms_oc1 rfl (s_aload_n rfl dX8_readStatement_93) <|
  ms_oc1 rfl (s_iload_n rfl dX8_readStatement_94) <|
  ms_oc1 rfl (s_iload_n rfl dX8_readStatement_95) <|
  ms_oc1 rfl (s_invV (r := (RX8, TX8, 4)) rfl rfl kw_472 kw_474 kw_11 kw_82 kw_475 ⟨by decide +kernel, by decide +kernel, by decide +kernel⟩ (by decide) dX8_readStatement_96) <|
  ms_oc1 rfl (s_iret (b := false) rfl dX8_readStatement_99) <|
  ms_oc1 rfl (s_aload_n rfl dX8_readStatement_100) <|
  ms_oc1 rfl (s_get (r := (RX8, TX8, 4)) rfl (by decide) rfl rfl kw_253 dX8_readStatement_101) <|
  ms_oc1 rfl (s_get (r := (RX9, TX9, 6)) rfl (by decide) rfl rfl kw_232 dX8_readStatement_104) <|
  ms_oc1 rfl (s_bipush dX8_readStatement_107 (by decide) (by decide)) <|
  ms_oc1 rfl (s_icmpne (by decide) dX8_readStatement_109) <|
  ms_oc1 rfl (s_aload_n rfl dX8_readStatement_112) <|
  ms_oc1 rfl (s_iload_n rfl dX8_readStatement_113) <|
  ms_oc1 rfl (s_iload_n rfl dX8_readStatement_114) <|
  ms_oc1 rfl (s_invV (r := (RX8, TX8, 4)) rfl rfl kw_506 kw_508 kw_15 kw_82 kw_509 ⟨by decide +kernel, by decide +kernel, by decide +kernel⟩ (by decide) dX8_readStatement_115) <|
  ms_oc1 rfl (s_goto (by decide) dX8_readStatement_118) <|
  ms_oc1 rfl (s_aload_n rfl dX8_readStatement_121) <|
  ms_oc1 rfl (s_iconst dX8_readStatement_122 (by decide)) <|
  ms_occ (s_invV (r := (RX8, TX8, 4)) rfl rfl kw_440 kw_442 kw_5 kw_82 kw_443 ⟨by decide +kernel, by decide +kernel, by decide +kernel⟩ (by decide) dX8_readStatement_123) <|
  ms_oc0 (s_iret (b := false) rfl dX8_readStatement_126)

def tX8_readProduct (G : ms_G) (Q : ms_Q) (d : Nat) : List (Nat × ms_T) := [(0, (o_ld 0 2)), (1, (o_get 8 0 2)), (4, (o_invV G d mX9_advance 9 0 0 0)), (7, (o_ld 0 2)), (8, (o_invV G d mX8_knownNameFault 8 0 0 0)), (11, (o_st 3 0)), (12, (o_ld 3 0)), (13, (o_if1 G Q mX8_readProduct (d + 1) (fun x => x = 0) 18)), (16, (o_ld 3 0)), (17, (o_ret Q false)), (18, (o_ld 0 2)), (19, (o_ld 0 2)), (20, (o_get 8 0 2)), (23, (o_get 9 5 0)), (26, (o_invV G d mX8_nodeNamed 8 1 0 0)), (29, (o_st 4 0)), (31, (o_ld 0 2)), (32, (o_ci 1)), (33, (o_invV G d mX8_statementEndFault 8 1 0 0)), (36, (o_st 3 0)), (37, (o_ld 3 0)), (38, (o_if1 G Q mX8_readProduct (d + 1) (fun x => x = 0) 43)), (41, (o_ld 3 0)), (42, (o_ret Q false)), (43, (o_ld 0 2)), (44, (o_ld 2 0)), (45, (o_ld 4 0)), (47, (o_invV G d mX8_addStep 8 2 0 0)), (50, (o_if1 G Q mX8_readProduct (d + 1) (fun x => x = 0) 61)), (53, (o_ld 0 2)), (54, (o_ld 1 0)), (55, (o_invV G d mX8_giveName 8 1 0 0)), (58, (o_go G Q mX8_readProduct (d + 1) 67)), (61, (o_ld 0 2)), (62, (o_ci 6)), (64, (o_invV G d mX8_fault 8 1 0 0)), (100000, o_go G Q mX8_readProduct (d + 1) 67), (67, (o_ret Q false))]
set_option maxRecDepth 100000 in
set_option maxHeartbeats 4000000 in
theorem kX8_readProduct (G : ms_G) (Q : ms_Q) (d : Nat) : ms_Oc G Q mX8_readProduct (d + 1) (tX8_readProduct G Q d) :=
  ms_oc1 rfl (s_aload_n rfl dX8_readProduct_0) <|
  ms_oc1 rfl (s_get (r := (RX8, TX8, 4)) rfl (by decide) rfl rfl kw_253 dX8_readProduct_1) <|
  ms_oc1 rfl (s_invV (r := (RX9, TX9, 6)) rfl rfl kw_414 kw_415 kw_416 kw_83 kw_417 ⟨by decide +kernel, by decide +kernel, by decide +kernel⟩ (by decide) dX8_readProduct_4) <|
  ms_oc1 rfl (s_aload_n rfl dX8_readProduct_7) <|
  ms_oc1 rfl (s_invV (r := (RX8, TX8, 4)) rfl rfl kw_464 kw_466 kw_9 kw_82 kw_467 ⟨by decide +kernel, by decide +kernel, by decide +kernel⟩ (by decide) dX8_readProduct_8) <|
  ms_oc1 rfl (s_istore_n rfl (by decide) dX8_readProduct_11) <|
  ms_oc1 rfl (s_iload_n rfl dX8_readProduct_12) <|
  ms_oc1 rfl (s_ifeq (by decide) dX8_readProduct_13) <|
  ms_oc1 rfl (s_iload_n rfl dX8_readProduct_16) <|
  ms_oc1 rfl (s_iret (b := false) rfl dX8_readProduct_17) <|
  ms_oc1 rfl (s_aload_n rfl dX8_readProduct_18) <|
  ms_oc1 rfl (s_aload_n rfl dX8_readProduct_19) <|
  ms_oc1 rfl (s_get (r := (RX8, TX8, 4)) rfl (by decide) rfl rfl kw_253 dX8_readProduct_20) <|
  ms_oc1 rfl (s_get (r := (RX9, TX9, 6)) rfl (by decide) rfl rfl kw_237 dX8_readProduct_23) <|
  ms_oc1 rfl (s_invV (r := (RX8, TX8, 4)) rfl rfl kw_444 kw_446 kw_6 kw_82 kw_447 ⟨by decide +kernel, by decide +kernel, by decide +kernel⟩ (by decide) dX8_readProduct_26) <|
  ms_oc1 rfl (s_istore (by decide) dX8_readProduct_29) <|
  ms_oc1 rfl (s_aload_n rfl dX8_readProduct_31) <|
  ms_oc1 rfl (s_iconst dX8_readProduct_32 (by decide)) <|
  ms_oc1 rfl (s_invV (r := (RX8, TX8, 4)) rfl rfl kw_476 kw_478 kw_12 kw_82 kw_479 ⟨by decide +kernel, by decide +kernel, by decide +kernel⟩ (by decide) dX8_readProduct_33) <|
  ms_oc1 rfl (s_istore_n rfl (by decide) dX8_readProduct_36) <|
  ms_oc1 rfl (s_iload_n rfl dX8_readProduct_37) <|
  ms_oc1 rfl (s_ifeq (by decide) dX8_readProduct_38) <|
  ms_oc1 rfl (s_iload_n rfl dX8_readProduct_41) <|
  ms_oc1 rfl (s_iret (b := false) rfl dX8_readProduct_42) <|
  ms_oc1 rfl (s_aload_n rfl dX8_readProduct_43) <|
  ms_oc1 rfl (s_iload_n rfl dX8_readProduct_44) <|
  ms_oc1 rfl (s_iload dX8_readProduct_45) <|
  ms_oc1 rfl (s_invV (r := (RX8, TX8, 4)) rfl rfl kw_480 kw_482 kw_13 kw_82 kw_483 ⟨by decide +kernel, by decide +kernel, by decide +kernel⟩ (by decide) dX8_readProduct_47) <|
  ms_oc1 rfl (s_ifeq (by decide) dX8_readProduct_50) <|
  ms_oc1 rfl (s_aload_n rfl dX8_readProduct_53) <|
  ms_oc1 rfl (s_iload_n rfl dX8_readProduct_54) <|
  ms_oc1 rfl (s_invV (r := (RX8, TX8, 4)) rfl rfl kw_502 kw_504 kw_14 kw_82 kw_505 ⟨by decide +kernel, by decide +kernel, by decide +kernel⟩ (by decide) dX8_readProduct_55) <|
  ms_oc1 rfl (s_goto (by decide) dX8_readProduct_58) <|
  ms_oc1 rfl (s_aload_n rfl dX8_readProduct_61) <|
  ms_oc1 rfl (s_bipush dX8_readProduct_62 (by decide) (by decide)) <|
  ms_occ (s_invV (r := (RX8, TX8, 4)) rfl rfl kw_440 kw_442 kw_5 kw_82 kw_443 ⟨by decide +kernel, by decide +kernel, by decide +kernel⟩ (by decide) dX8_readProduct_64) <|
  ms_oc0 (s_iret (b := false) rfl dX8_readProduct_67)

def tX8_readPower (G : ms_G) (Q : ms_Q) (d : Nat) : List (Nat × ms_T) := [(0, (o_ld 0 2)), (1, (o_get 8 0 2)), (4, (o_invV G d mX9_advance 9 0 0 0)), (7, (o_ld 0 2)), (8, (o_get 8 0 2)), (11, (o_get 9 3 0)), (14, (o_ci 2)), (15, (o_if2 G Q mX8_readPower (d + 1) (fun a b => a = b) 24)), (18, (o_ld 0 2)), (19, (o_ci 1)), (20, (o_invV G d mX8_fault 8 1 0 0)), (23, (o_ret Q false)), (24, (o_ld 0 2)), (25, (o_get 8 0 2)), (28, (o_get 9 5 0)), (31, (o_st 3 0)), (32, (o_ld 3 0)), (33, (o_ci 2)), (34, (o_if2 G Q mX8_readPower (d + 1) (fun a b => b ≤ a) 43)), (37, (o_ld 0 2)), (38, (o_ci 4)), (39, (o_invV G d mX8_fault 8 1 0 0)), (42, (o_ret Q false)), (43, (o_ld 3 0)), (44, (o_invS G d mX11_highestBitOf 1 0 0)), (47, (o_st 4 0)), (49, (o_ld 0 2)), (50, (o_ld 4 0)), (52, (o_ld 3 0)), (53, (o_invS G d mJ6_bitCount_0f7a4 1 0 0)), (56, (o_bin (fun a b => w32 (a + b)))), (57, (o_ci 1)), (58, (o_bin (fun a b => w32 (a - b)))), (59, (o_invV G d mX8_statementEndFault 8 1 0 0)), (62, (o_st 5 0)), (64, (o_ld 5 0)), (66, (o_if1 G Q mX8_readPower (d + 1) (fun x => x = 0) 72)), (69, (o_ld 5 0)), (71, (o_ret Q false)), (72, (o_ld 2 0)), (73, (o_st 6 0)), (75, (o_ld 4 0)), (77, (o_ci 1)), (78, (o_bin (fun a b => w32 (a - b)))), (79, (o_st 7 0)), (100000, o_go G Q mX8_readPower (d + 1) 81), (81, (o_ld 7 0)), (83, (o_if1 G Q mX8_readPower (d + 1) (fun x => x < 0) 159)), (86, (o_ld 0 2)), (87, (o_ld 6 0)), (89, (o_ld 6 0)), (91, (o_invV G d mX8_addStep 8 2 0 0)), (94, (o_if1 G Q mX8_readPower (d + 1) (fun x => ¬ x = 0) 104)), (97, (o_ld 0 2)), (98, (o_ci 6)), (100, (o_invV G d mX8_fault 8 1 0 0)), (103, (o_ret Q false)), (104, (o_ld 0 2)), (105, (o_get 8 3 2)), (108, (o_invV G d mX4_size 4 0 0 0)), (111, (o_ci 1)), (112, (o_bin (fun a b => w32 (a - b)))), (113, (o_st 6 0)), (115, (o_ld 3 0)), (116, (o_ld 7 0)), (118, (o_bin wshr)), (119, (o_ci 1)), (120, (o_bin wand)), (121, (o_ci 1)), (122, (o_if2 G Q mX8_readPower (d + 1) (fun a b => ¬ a = b) 153)), (125, (o_ld 0 2)), (126, (o_ld 6 0)), (128, (o_ld 2 0)), (129, (o_invV G d mX8_addStep 8 2 0 0)), (132, (o_if1 G Q mX8_readPower (d + 1) (fun x => ¬ x = 0) 142)), (135, (o_ld 0 2)), (136, (o_ci 6)), (138, (o_invV G d mX8_fault 8 1 0 0)), (141, (o_ret Q false)), (142, (o_ld 0 2)), (143, (o_get 8 3 2)), (146, (o_invV G d mX4_size 4 0 0 0)), (149, (o_ci 1)), (150, (o_bin (fun a b => w32 (a - b)))), (151, (o_st 6 0)), (100000, o_go G Q mX8_readPower (d + 1) 153), (153, (o_inc 7 (-1))), (156, (o_go G Q mX8_readPower (d + 1) 81)), (159, (o_ld 0 2)), (160, (o_ld 1 0)), (161, (o_invV G d mX8_giveName 8 1 0 0)), (164, (o_ret Q false))]
set_option maxRecDepth 100000 in
set_option maxHeartbeats 4000000 in
theorem kX8_readPower (G : ms_G) (Q : ms_Q) (d : Nat) : ms_Oc G Q mX8_readPower (d + 1) (tX8_readPower G Q d) :=
  ms_oc1 rfl (s_aload_n rfl dX8_readPower_0) <|
  ms_oc1 rfl (s_get (r := (RX8, TX8, 4)) rfl (by decide) rfl rfl kw_253 dX8_readPower_1) <|
  ms_oc1 rfl (s_invV (r := (RX9, TX9, 6)) rfl rfl kw_414 kw_415 kw_416 kw_83 kw_417 ⟨by decide +kernel, by decide +kernel, by decide +kernel⟩ (by decide) dX8_readPower_4) <|
  ms_oc1 rfl (s_aload_n rfl dX8_readPower_7) <|
  ms_oc1 rfl (s_get (r := (RX8, TX8, 4)) rfl (by decide) rfl rfl kw_253 dX8_readPower_8) <|
  ms_oc1 rfl (s_get (r := (RX9, TX9, 6)) rfl (by decide) rfl rfl kw_232 dX8_readPower_11) <|
  ms_oc1 rfl (s_iconst dX8_readPower_14 (by decide)) <|
  ms_oc1 rfl (s_icmpeq (by decide) dX8_readPower_15) <|
  ms_oc1 rfl (s_aload_n rfl dX8_readPower_18) <|
  ms_oc1 rfl (s_iconst dX8_readPower_19 (by decide)) <|
  ms_oc1 rfl (s_invV (r := (RX8, TX8, 4)) rfl rfl kw_440 kw_442 kw_5 kw_82 kw_443 ⟨by decide +kernel, by decide +kernel, by decide +kernel⟩ (by decide) dX8_readPower_20) <|
  ms_oc1 rfl (s_iret (b := false) rfl dX8_readPower_23) <|
  ms_oc1 rfl (s_aload_n rfl dX8_readPower_24) <|
  ms_oc1 rfl (s_get (r := (RX8, TX8, 4)) rfl (by decide) rfl rfl kw_253 dX8_readPower_25) <|
  ms_oc1 rfl (s_get (r := (RX9, TX9, 6)) rfl (by decide) rfl rfl kw_237 dX8_readPower_28) <|
  ms_oc1 rfl (s_istore_n rfl (by decide) dX8_readPower_31) <|
  ms_oc1 rfl (s_iload_n rfl dX8_readPower_32) <|
  ms_oc1 rfl (s_iconst dX8_readPower_33 (by decide)) <|
  ms_oc1 rfl (s_icmpge (by decide) dX8_readPower_34) <|
  ms_oc1 rfl (s_aload_n rfl dX8_readPower_37) <|
  ms_oc1 rfl (s_iconst dX8_readPower_38 (by decide)) <|
  ms_oc1 rfl (s_invV (r := (RX8, TX8, 4)) rfl rfl kw_440 kw_442 kw_5 kw_82 kw_443 ⟨by decide +kernel, by decide +kernel, by decide +kernel⟩ (by decide) dX8_readPower_39) <|
  ms_oc1 rfl (s_iret (b := false) rfl dX8_readPower_42) <|
  ms_oc1 rfl (s_iload_n rfl dX8_readPower_43) <|
  ms_oc1 rfl (s_invSN kw_510 kw_511 kw_76 kw_512 ⟨by decide +kernel, by decide +kernel, by decide +kernel⟩ (by decide) dX8_readPower_44) <|
  ms_oc1 rfl (s_istore (by decide) dX8_readPower_47) <|
  ms_oc1 rfl (s_aload_n rfl dX8_readPower_49) <|
  ms_oc1 rfl (s_iload dX8_readPower_50) <|
  ms_oc1 rfl (s_iload_n rfl dX8_readPower_52) <|
  ms_oc1 rfl (s_invS kw_517 kw_518 kw_89 kw_519 ⟨by decide +kernel, by decide +kernel, by decide +kernel⟩ (by decide) dX8_readPower_53) <|
  ms_oc1 rfl (s_iadd dX8_readPower_56) <|
  ms_oc1 rfl (s_iconst dX8_readPower_57 (by decide)) <|
  ms_oc1 rfl (s_isub dX8_readPower_58) <|
  ms_oc1 rfl (s_invV (r := (RX8, TX8, 4)) rfl rfl kw_476 kw_478 kw_12 kw_82 kw_479 ⟨by decide +kernel, by decide +kernel, by decide +kernel⟩ (by decide) dX8_readPower_59) <|
  ms_oc1 rfl (s_istore (by decide) dX8_readPower_62) <|
  ms_oc1 rfl (s_iload dX8_readPower_64) <|
  ms_oc1 rfl (s_ifeq (by decide) dX8_readPower_66) <|
  ms_oc1 rfl (s_iload dX8_readPower_69) <|
  ms_oc1 rfl (s_iret (b := false) rfl dX8_readPower_71) <|
  ms_oc1 rfl (s_iload_n rfl dX8_readPower_72) <|
  ms_oc1 rfl (s_istore (by decide) dX8_readPower_73) <|
  ms_oc1 rfl (s_iload dX8_readPower_75) <|
  ms_oc1 rfl (s_iconst dX8_readPower_77 (by decide)) <|
  ms_oc1 rfl (s_isub dX8_readPower_78) <|
  ms_occ (s_istore (by decide) dX8_readPower_79) <|
  ms_oc1 rfl (s_iload dX8_readPower_81) <|
  ms_oc1 rfl (s_iflt (by decide) dX8_readPower_83) <|
  ms_oc1 rfl (s_aload_n rfl dX8_readPower_86) <|
  ms_oc1 rfl (s_iload dX8_readPower_87) <|
  ms_oc1 rfl (s_iload dX8_readPower_89) <|
  ms_oc1 rfl (s_invV (r := (RX8, TX8, 4)) rfl rfl kw_480 kw_482 kw_13 kw_82 kw_483 ⟨by decide +kernel, by decide +kernel, by decide +kernel⟩ (by decide) dX8_readPower_91) <|
  ms_oc1 rfl (s_ifne (by decide) dX8_readPower_94) <|
  ms_oc1 rfl (s_aload_n rfl dX8_readPower_97) <|
  ms_oc1 rfl (s_bipush dX8_readPower_98 (by decide) (by decide)) <|
  ms_oc1 rfl (s_invV (r := (RX8, TX8, 4)) rfl rfl kw_440 kw_442 kw_5 kw_82 kw_443 ⟨by decide +kernel, by decide +kernel, by decide +kernel⟩ (by decide) dX8_readPower_100) <|
  ms_oc1 rfl (s_iret (b := false) rfl dX8_readPower_103) <|
  ms_oc1 rfl (s_aload_n rfl dX8_readPower_104) <|
  ms_oc1 rfl (s_get (r := (RX8, TX8, 4)) rfl (by decide) rfl rfl kw_256 dX8_readPower_105) <|
  ms_oc1 rfl (s_invV (r := (RX4, TX4, 6)) rfl rfl kw_448 kw_449 kw_450 kw_77 kw_451 ⟨by decide +kernel, by decide +kernel, by decide +kernel⟩ (by decide) dX8_readPower_108) <|
  ms_oc1 rfl (s_iconst dX8_readPower_111 (by decide)) <|
  ms_oc1 rfl (s_isub dX8_readPower_112) <|
  ms_oc1 rfl (s_istore (by decide) dX8_readPower_113) <|
  ms_oc1 rfl (s_iload_n rfl dX8_readPower_115) <|
  ms_oc1 rfl (s_iload dX8_readPower_116) <|
  ms_oc1 rfl (s_ishr dX8_readPower_118) <|
  ms_oc1 rfl (s_iconst dX8_readPower_119 (by decide)) <|
  ms_oc1 rfl (s_iand dX8_readPower_120) <|
  ms_oc1 rfl (s_iconst dX8_readPower_121 (by decide)) <|
  ms_oc1 rfl (s_icmpne (by decide) dX8_readPower_122) <|
  ms_oc1 rfl (s_aload_n rfl dX8_readPower_125) <|
  ms_oc1 rfl (s_iload dX8_readPower_126) <|
  ms_oc1 rfl (s_iload_n rfl dX8_readPower_128) <|
  ms_oc1 rfl (s_invV (r := (RX8, TX8, 4)) rfl rfl kw_480 kw_482 kw_13 kw_82 kw_483 ⟨by decide +kernel, by decide +kernel, by decide +kernel⟩ (by decide) dX8_readPower_129) <|
  ms_oc1 rfl (s_ifne (by decide) dX8_readPower_132) <|
  ms_oc1 rfl (s_aload_n rfl dX8_readPower_135) <|
  ms_oc1 rfl (s_bipush dX8_readPower_136 (by decide) (by decide)) <|
  ms_oc1 rfl (s_invV (r := (RX8, TX8, 4)) rfl rfl kw_440 kw_442 kw_5 kw_82 kw_443 ⟨by decide +kernel, by decide +kernel, by decide +kernel⟩ (by decide) dX8_readPower_138) <|
  ms_oc1 rfl (s_iret (b := false) rfl dX8_readPower_141) <|
  ms_oc1 rfl (s_aload_n rfl dX8_readPower_142) <|
  ms_oc1 rfl (s_get (r := (RX8, TX8, 4)) rfl (by decide) rfl rfl kw_256 dX8_readPower_143) <|
  ms_oc1 rfl (s_invV (r := (RX4, TX4, 6)) rfl rfl kw_448 kw_449 kw_450 kw_77 kw_451 ⟨by decide +kernel, by decide +kernel, by decide +kernel⟩ (by decide) dX8_readPower_146) <|
  ms_oc1 rfl (s_iconst dX8_readPower_149 (by decide)) <|
  ms_oc1 rfl (s_isub dX8_readPower_150) <|
  ms_occ (s_istore (by decide) dX8_readPower_151) <|
  ms_oc1 rfl (s_iinc (by decide) dX8_readPower_153) <|
  ms_oc1 rfl (s_goto (by decide) dX8_readPower_156) <|
  ms_oc1 rfl (s_aload_n rfl dX8_readPower_159) <|
  ms_oc1 rfl (s_iload_n rfl dX8_readPower_160) <|
  ms_oc1 rfl (s_invV (r := (RX8, TX8, 4)) rfl rfl kw_502 kw_504 kw_14 kw_82 kw_505 ⟨by decide +kernel, by decide +kernel, by decide +kernel⟩ (by decide) dX8_readPower_161) <|
  ms_oc0 (s_iret (b := false) rfl dX8_readPower_164)

def tX8_statementEndFault (G : ms_G) (Q : ms_Q) (d : Nat) : List (Nat × ms_T) := [(0, (o_ld 0 2)), (1, (o_get 8 0 2)), (4, (o_invV G d mX9_advance 9 0 0 0)), (7, (o_ld 0 2)), (8, (o_get 8 0 2)), (11, (o_get 9 3 0)), (14, (o_ci 59)), (16, (o_if2 G Q mX8_statementEndFault (d + 1) (fun a b => a = b) 25)), (19, (o_ld 0 2)), (20, (o_ci 1)), (21, (o_invV G d mX8_fault 8 1 0 0)), (24, (o_ret Q false)), (25, (o_ld 0 2)), (26, (o_get 8 3 2)), (29, (o_get 4 4 0)), (32, (o_ld 1 0)), (33, (o_bin (fun a b => w32 (a + b)))), (34, (o_ci 60)), (36, (o_if2 G Q mX8_statementEndFault (d + 1) (fun a b => a ≤ b) 47)), (39, (o_ld 0 2)), (40, (o_ci 5)), (41, (o_invV G d mX8_fault 8 1 0 0)), (44, (o_go G Q mX8_statementEndFault (d + 1) 48)), (47, (o_ci 0)), (100000, o_go G Q mX8_statementEndFault (d + 1) 48), (48, (o_ret Q false))]
set_option maxRecDepth 100000 in
set_option maxHeartbeats 4000000 in
theorem kX8_statementEndFault (G : ms_G) (Q : ms_Q) (d : Nat) : ms_Oc G Q mX8_statementEndFault (d + 1) (tX8_statementEndFault G Q d) :=
  ms_oc1 rfl (s_aload_n rfl dX8_statementEndFault_0) <|
  ms_oc1 rfl (s_get (r := (RX8, TX8, 4)) rfl (by decide) rfl rfl kw_253 dX8_statementEndFault_1) <|
  ms_oc1 rfl (s_invV (r := (RX9, TX9, 6)) rfl rfl kw_414 kw_415 kw_416 kw_83 kw_417 ⟨by decide +kernel, by decide +kernel, by decide +kernel⟩ (by decide) dX8_statementEndFault_4) <|
  ms_oc1 rfl (s_aload_n rfl dX8_statementEndFault_7) <|
  ms_oc1 rfl (s_get (r := (RX8, TX8, 4)) rfl (by decide) rfl rfl kw_253 dX8_statementEndFault_8) <|
  ms_oc1 rfl (s_get (r := (RX9, TX9, 6)) rfl (by decide) rfl rfl kw_232 dX8_statementEndFault_11) <|
  ms_oc1 rfl (s_bipush dX8_statementEndFault_14 (by decide) (by decide)) <|
  ms_oc1 rfl (s_icmpeq (by decide) dX8_statementEndFault_16) <|
  ms_oc1 rfl (s_aload_n rfl dX8_statementEndFault_19) <|
  ms_oc1 rfl (s_iconst dX8_statementEndFault_20 (by decide)) <|
  ms_oc1 rfl (s_invV (r := (RX8, TX8, 4)) rfl rfl kw_440 kw_442 kw_5 kw_82 kw_443 ⟨by decide +kernel, by decide +kernel, by decide +kernel⟩ (by decide) dX8_statementEndFault_21) <|
  ms_oc1 rfl (s_iret (b := false) rfl dX8_statementEndFault_24) <|
  ms_oc1 rfl (s_aload_n rfl dX8_statementEndFault_25) <|
  ms_oc1 rfl (s_get (r := (RX8, TX8, 4)) rfl (by decide) rfl rfl kw_256 dX8_statementEndFault_26) <|
  ms_oc1 rfl (s_get (r := (RX4, TX4, 6)) rfl (by decide) rfl rfl kw_133 dX8_statementEndFault_29) <|
  ms_oc1 rfl (s_iload_n rfl dX8_statementEndFault_32) <|
  ms_oc1 rfl (s_iadd dX8_statementEndFault_33) <|
  ms_oc1 rfl (s_bipush dX8_statementEndFault_34 (by decide) (by decide)) <|
  ms_oc1 rfl (s_icmple (by decide) dX8_statementEndFault_36) <|
  ms_oc1 rfl (s_aload_n rfl dX8_statementEndFault_39) <|
  ms_oc1 rfl (s_iconst dX8_statementEndFault_40 (by decide)) <|
  ms_oc1 rfl (s_invV (r := (RX8, TX8, 4)) rfl rfl kw_440 kw_442 kw_5 kw_82 kw_443 ⟨by decide +kernel, by decide +kernel, by decide +kernel⟩ (by decide) dX8_statementEndFault_41) <|
  ms_oc1 rfl (s_goto (by decide) dX8_statementEndFault_44) <|
  ms_occ (s_iconst dX8_statementEndFault_47 (by decide)) <|
  ms_oc0 (s_iret (b := false) rfl dX8_statementEndFault_48)

def tX8_addStep (G : ms_G) (Q : ms_Q) (d : Nat) : List (Nat × ms_T) := [(0, (o_ld 0 2)), (1, (o_get 8 1 2)), (4, (o_ld 1 0)), (5, (o_ld 2 0)), (6, (o_invV G d mX2_fit 2 2 0 0)), (9, (o_if1 G Q mX8_addStep (d + 1) (fun x => ¬ x = 0) 14)), (12, (o_ci 0)), (13, (o_ret Q true)), (14, (o_ld 0 2)), (15, (o_get 8 3 2)), (18, (o_ld 1 0)), (19, (o_ld 2 0)), (20, (o_invV G d mX4_append 4 2 0 0)), (23, (o_st 3 0)), (24, (o_ld 3 0)), (25, (o_ci (-1))), (26, (o_if2 G Q mX8_addStep (d + 1) (fun a b => ¬ a = b) 31)), (29, (o_ci 0)), (30, (o_ret Q true)), (31, (o_ld 0 2)), (32, (o_get 8 1 2)), (35, (o_ld 3 0)), (36, (o_ld 1 0)), (37, (o_ld 2 0)), (38, (o_invV G d mX2_measureStep 2 3 0 0)), (41, (o_ld 0 2)), (42, (o_get 8 2 2)), (45, (o_ld 3 0)), (46, (o_ci 0)), (47, (o_ast 100 0 (fun x => x))), (48, (o_ci 1)), (49, (o_ret Q true))]
set_option maxRecDepth 100000 in
set_option maxHeartbeats 4000000 in
theorem kX8_addStep (G : ms_G) (Q : ms_Q) (d : Nat) : ms_Oc G Q mX8_addStep (d + 1) (tX8_addStep G Q d) :=
  ms_oc1 rfl (s_aload_n rfl dX8_addStep_0) <|
  ms_oc1 rfl (s_get (r := (RX8, TX8, 4)) rfl (by decide) rfl rfl kw_254 dX8_addStep_1) <|
  ms_oc1 rfl (s_iload_n rfl dX8_addStep_4) <|
  ms_oc1 rfl (s_iload_n rfl dX8_addStep_5) <|
  ms_oc1 rfl (s_invV (r := (RX2, TX2, 1)) rfl rfl kw_484 kw_485 kw_486 kw_80 kw_487 ⟨by decide +kernel, by decide +kernel, by decide +kernel⟩ (by decide) dX8_addStep_6) <|
  ms_oc1 rfl (s_ifne (by decide) dX8_addStep_9) <|
  ms_oc1 rfl (s_iconst dX8_addStep_12 (by decide)) <|
  ms_oc1 rfl (s_iret (b := true) rfl dX8_addStep_13) <|
  ms_oc1 rfl (s_aload_n rfl dX8_addStep_14) <|
  ms_oc1 rfl (s_get (r := (RX8, TX8, 4)) rfl (by decide) rfl rfl kw_256 dX8_addStep_15) <|
  ms_oc1 rfl (s_iload_n rfl dX8_addStep_18) <|
  ms_oc1 rfl (s_iload_n rfl dX8_addStep_19) <|
  ms_oc1 rfl (s_invV (r := (RX4, TX4, 6)) rfl rfl kw_493 kw_494 kw_495 kw_77 kw_496 ⟨by decide +kernel, by decide +kernel, by decide +kernel⟩ (by decide) dX8_addStep_20) <|
  ms_oc1 rfl (s_istore_n rfl (by decide) dX8_addStep_23) <|
  ms_oc1 rfl (s_iload_n rfl dX8_addStep_24) <|
  ms_oc1 rfl (s_iconst dX8_addStep_25 (by decide)) <|
  ms_oc1 rfl (s_icmpne (by decide) dX8_addStep_26) <|
  ms_oc1 rfl (s_iconst dX8_addStep_29 (by decide)) <|
  ms_oc1 rfl (s_iret (b := true) rfl dX8_addStep_30) <|
  ms_oc1 rfl (s_aload_n rfl dX8_addStep_31) <|
  ms_oc1 rfl (s_get (r := (RX8, TX8, 4)) rfl (by decide) rfl rfl kw_254 dX8_addStep_32) <|
  ms_oc1 rfl (s_iload_n rfl dX8_addStep_35) <|
  ms_oc1 rfl (s_iload_n rfl dX8_addStep_36) <|
  ms_oc1 rfl (s_iload_n rfl dX8_addStep_37) <|
  ms_oc1 rfl (s_invV (r := (RX2, TX2, 1)) rfl rfl kw_498 kw_499 kw_500 kw_80 kw_501 ⟨by decide +kernel, by decide +kernel, by decide +kernel⟩ (by decide) dX8_addStep_38) <|
  ms_oc1 rfl (s_aload_n rfl dX8_addStep_41) <|
  ms_oc1 rfl (s_get (r := (RX8, TX8, 4)) rfl (by decide) rfl rfl kw_255 dX8_addStep_42) <|
  ms_oc1 rfl (s_iload_n rfl dX8_addStep_45) <|
  ms_oc1 rfl (s_iconst dX8_addStep_46 (by decide)) <|
  ms_oc1 rfl (s_iastore dX8_addStep_47) <|
  ms_oc1 rfl (s_iconst dX8_addStep_48 (by decide)) <|
  ms_oc0 (s_iret (b := true) rfl dX8_addStep_49)

def tX8_giveName (G : ms_G) (Q : ms_Q) (d : Nat) : List (Nat × ms_T) := [(0, (o_ld 0 2)), (1, (o_get 8 2 2)), (4, (o_ld 0 2)), (5, (o_get 8 3 2)), (8, (o_invV G d mX4_size 4 0 0 0)), (11, (o_ci 1)), (12, (o_bin (fun a b => w32 (a - b)))), (13, (o_ld 1 0)), (14, (o_ast 100 0 (fun x => x))), (15, (o_ci 0)), (16, (o_ret Q false))]
set_option maxRecDepth 100000 in
set_option maxHeartbeats 4000000 in
theorem kX8_giveName (G : ms_G) (Q : ms_Q) (d : Nat) : ms_Oc G Q mX8_giveName (d + 1) (tX8_giveName G Q d) :=
  ms_oc1 rfl (s_aload_n rfl dX8_giveName_0) <|
  ms_oc1 rfl (s_get (r := (RX8, TX8, 4)) rfl (by decide) rfl rfl kw_255 dX8_giveName_1) <|
  ms_oc1 rfl (s_aload_n rfl dX8_giveName_4) <|
  ms_oc1 rfl (s_get (r := (RX8, TX8, 4)) rfl (by decide) rfl rfl kw_256 dX8_giveName_5) <|
  ms_oc1 rfl (s_invV (r := (RX4, TX4, 6)) rfl rfl kw_448 kw_449 kw_450 kw_77 kw_451 ⟨by decide +kernel, by decide +kernel, by decide +kernel⟩ (by decide) dX8_giveName_8) <|
  ms_oc1 rfl (s_iconst dX8_giveName_11 (by decide)) <|
  ms_oc1 rfl (s_isub dX8_giveName_12) <|
  ms_oc1 rfl (s_iload_n rfl dX8_giveName_13) <|
  ms_oc1 rfl (s_iastore dX8_giveName_14) <|
  ms_oc1 rfl (s_iconst dX8_giveName_15 (by decide)) <|
  ms_oc0 (s_iret (b := false) rfl dX8_giveName_16)

def tX8_newNameFault (G : ms_G) (Q : ms_Q) (d : Nat) : List (Nat × ms_T) := [(0, (o_ld 0 2)), (1, (o_invV G d mX8_isName 8 0 0 0)), (4, (o_if1 G Q mX8_newNameFault (d + 1) (fun x => ¬ x = 0) 13)), (7, (o_ld 0 2)), (8, (o_ci 1)), (9, (o_invV G d mX8_fault 8 1 0 0)), (12, (o_ret Q false)), (13, (o_ld 0 2)), (14, (o_ld 0 2)), (15, (o_get 8 0 2)), (18, (o_get 9 5 0)), (21, (o_invV G d mX8_nodeNamed 8 1 0 0)), (24, (o_ci (-1))), (25, (o_if2 G Q mX8_newNameFault (d + 1) (fun a b => ¬ a = b) 32)), (28, (o_ci 0)), (29, (o_go G Q mX8_newNameFault (d + 1) 37)), (32, (o_ld 0 2)), (33, (o_ci 2)), (34, (o_invV G d mX8_fault 8 1 0 0)), (100000, o_go G Q mX8_newNameFault (d + 1) 37), (37, (o_ret Q false))]
set_option maxRecDepth 100000 in
set_option maxHeartbeats 4000000 in
theorem kX8_newNameFault (G : ms_G) (Q : ms_Q) (d : Nat) : ms_Oc G Q mX8_newNameFault (d + 1) (tX8_newNameFault G Q d) :=
  ms_oc1 rfl (s_aload_n rfl dX8_newNameFault_0) <|
  ms_oc1 rfl (s_invV (r := (RX8, TX8, 4)) rfl rfl kw_435 kw_437 kw_4 kw_82 kw_438 ⟨by decide +kernel, by decide +kernel, by decide +kernel⟩ (by decide) dX8_newNameFault_1) <|
  ms_oc1 rfl (s_ifne (by decide) dX8_newNameFault_4) <|
  ms_oc1 rfl (s_aload_n rfl dX8_newNameFault_7) <|
  ms_oc1 rfl (s_iconst dX8_newNameFault_8 (by decide)) <|
  ms_oc1 rfl (s_invV (r := (RX8, TX8, 4)) rfl rfl kw_440 kw_442 kw_5 kw_82 kw_443 ⟨by decide +kernel, by decide +kernel, by decide +kernel⟩ (by decide) dX8_newNameFault_9) <|
  ms_oc1 rfl (s_iret (b := false) rfl dX8_newNameFault_12) <|
  ms_oc1 rfl (s_aload_n rfl dX8_newNameFault_13) <|
  ms_oc1 rfl (s_aload_n rfl dX8_newNameFault_14) <|
  ms_oc1 rfl (s_get (r := (RX8, TX8, 4)) rfl (by decide) rfl rfl kw_253 dX8_newNameFault_15) <|
  ms_oc1 rfl (s_get (r := (RX9, TX9, 6)) rfl (by decide) rfl rfl kw_237 dX8_newNameFault_18) <|
  ms_oc1 rfl (s_invV (r := (RX8, TX8, 4)) rfl rfl kw_444 kw_446 kw_6 kw_82 kw_447 ⟨by decide +kernel, by decide +kernel, by decide +kernel⟩ (by decide) dX8_newNameFault_21) <|
  ms_oc1 rfl (s_iconst dX8_newNameFault_24 (by decide)) <|
  ms_oc1 rfl (s_icmpne (by decide) dX8_newNameFault_25) <|
  ms_oc1 rfl (s_iconst dX8_newNameFault_28 (by decide)) <|
  ms_oc1 rfl (s_goto (by decide) dX8_newNameFault_29) <|
  ms_oc1 rfl (s_aload_n rfl dX8_newNameFault_32) <|
  ms_oc1 rfl (s_iconst dX8_newNameFault_33 (by decide)) <|
  ms_occ (s_invV (r := (RX8, TX8, 4)) rfl rfl kw_440 kw_442 kw_5 kw_82 kw_443 ⟨by decide +kernel, by decide +kernel, by decide +kernel⟩ (by decide) dX8_newNameFault_34) <|
  ms_oc0 (s_iret (b := false) rfl dX8_newNameFault_37)

def tX8_knownNameFault (G : ms_G) (Q : ms_Q) (d : Nat) : List (Nat × ms_T) := [(0, (o_ld 0 2)), (1, (o_invV G d mX8_isName 8 0 0 0)), (4, (o_if1 G Q mX8_knownNameFault (d + 1) (fun x => ¬ x = 0) 13)), (7, (o_ld 0 2)), (8, (o_ci 1)), (9, (o_invV G d mX8_fault 8 1 0 0)), (12, (o_ret Q false)), (13, (o_ld 0 2)), (14, (o_ld 0 2)), (15, (o_get 8 0 2)), (18, (o_get 9 5 0)), (21, (o_invV G d mX8_nodeNamed 8 1 0 0)), (24, (o_ci (-1))), (25, (o_if2 G Q mX8_knownNameFault (d + 1) (fun a b => ¬ a = b) 36)), (28, (o_ld 0 2)), (29, (o_ci 3)), (30, (o_invV G d mX8_fault 8 1 0 0)), (33, (o_go G Q mX8_knownNameFault (d + 1) 37)), (36, (o_ci 0)), (100000, o_go G Q mX8_knownNameFault (d + 1) 37), (37, (o_ret Q false))]
set_option maxRecDepth 100000 in
set_option maxHeartbeats 4000000 in
theorem kX8_knownNameFault (G : ms_G) (Q : ms_Q) (d : Nat) : ms_Oc G Q mX8_knownNameFault (d + 1) (tX8_knownNameFault G Q d) :=
  ms_oc1 rfl (s_aload_n rfl dX8_knownNameFault_0) <|
  ms_oc1 rfl (s_invV (r := (RX8, TX8, 4)) rfl rfl kw_435 kw_437 kw_4 kw_82 kw_438 ⟨by decide +kernel, by decide +kernel, by decide +kernel⟩ (by decide) dX8_knownNameFault_1) <|
  ms_oc1 rfl (s_ifne (by decide) dX8_knownNameFault_4) <|
  ms_oc1 rfl (s_aload_n rfl dX8_knownNameFault_7) <|
  ms_oc1 rfl (s_iconst dX8_knownNameFault_8 (by decide)) <|
  ms_oc1 rfl (s_invV (r := (RX8, TX8, 4)) rfl rfl kw_440 kw_442 kw_5 kw_82 kw_443 ⟨by decide +kernel, by decide +kernel, by decide +kernel⟩ (by decide) dX8_knownNameFault_9) <|
  ms_oc1 rfl (s_iret (b := false) rfl dX8_knownNameFault_12) <|
  ms_oc1 rfl (s_aload_n rfl dX8_knownNameFault_13) <|
  ms_oc1 rfl (s_aload_n rfl dX8_knownNameFault_14) <|
  ms_oc1 rfl (s_get (r := (RX8, TX8, 4)) rfl (by decide) rfl rfl kw_253 dX8_knownNameFault_15) <|
  ms_oc1 rfl (s_get (r := (RX9, TX9, 6)) rfl (by decide) rfl rfl kw_237 dX8_knownNameFault_18) <|
  ms_oc1 rfl (s_invV (r := (RX8, TX8, 4)) rfl rfl kw_444 kw_446 kw_6 kw_82 kw_447 ⟨by decide +kernel, by decide +kernel, by decide +kernel⟩ (by decide) dX8_knownNameFault_21) <|
  ms_oc1 rfl (s_iconst dX8_knownNameFault_24 (by decide)) <|
  ms_oc1 rfl (s_icmpne (by decide) dX8_knownNameFault_25) <|
  ms_oc1 rfl (s_aload_n rfl dX8_knownNameFault_28) <|
  ms_oc1 rfl (s_iconst dX8_knownNameFault_29 (by decide)) <|
  ms_oc1 rfl (s_invV (r := (RX8, TX8, 4)) rfl rfl kw_440 kw_442 kw_5 kw_82 kw_443 ⟨by decide +kernel, by decide +kernel, by decide +kernel⟩ (by decide) dX8_knownNameFault_30) <|
  ms_oc1 rfl (s_goto (by decide) dX8_knownNameFault_33) <|
  ms_occ (s_iconst dX8_knownNameFault_36 (by decide)) <|
  ms_oc0 (s_iret (b := false) rfl dX8_knownNameFault_37)

def tX8_nodeNamed (G : ms_G) (Q : ms_Q) (d : Nat) : List (Nat × ms_T) := [(0, (o_ci 0)), (1, (o_st 2 0)), (100000, o_go G Q mX8_nodeNamed (d + 1) 2), (2, (o_ld 2 0)), (3, (o_ld 0 2)), (4, (o_get 8 3 2)), (7, (o_invV G d mX4_size 4 0 0 0)), (10, (o_if2 G Q mX8_nodeNamed (d + 1) (fun a b => b ≤ a) 31)), (13, (o_ld 0 2)), (14, (o_get 8 2 2)), (17, (o_ld 2 0)), (18, (o_ald 100 0)), (19, (o_ld 1 0)), (20, (o_if2 G Q mX8_nodeNamed (d + 1) (fun a b => ¬ a = b) 25)), (23, (o_ld 2 0)), (24, (o_ret Q false)), (25, (o_inc 2 1)), (28, (o_go G Q mX8_nodeNamed (d + 1) 2)), (31, (o_ci (-1))), (32, (o_ret Q false))]
set_option maxRecDepth 100000 in
set_option maxHeartbeats 4000000 in
theorem kX8_nodeNamed (G : ms_G) (Q : ms_Q) (d : Nat) : ms_Oc G Q mX8_nodeNamed (d + 1) (tX8_nodeNamed G Q d) :=
  ms_oc1 rfl (s_iconst dX8_nodeNamed_0 (by decide)) <|
  ms_occ (s_istore_n rfl (by decide) dX8_nodeNamed_1) <|
  ms_oc1 rfl (s_iload_n rfl dX8_nodeNamed_2) <|
  ms_oc1 rfl (s_aload_n rfl dX8_nodeNamed_3) <|
  ms_oc1 rfl (s_get (r := (RX8, TX8, 4)) rfl (by decide) rfl rfl kw_256 dX8_nodeNamed_4) <|
  ms_oc1 rfl (s_invV (r := (RX4, TX4, 6)) rfl rfl kw_448 kw_449 kw_450 kw_77 kw_451 ⟨by decide +kernel, by decide +kernel, by decide +kernel⟩ (by decide) dX8_nodeNamed_7) <|
  ms_oc1 rfl (s_icmpge (by decide) dX8_nodeNamed_10) <|
  ms_oc1 rfl (s_aload_n rfl dX8_nodeNamed_13) <|
  ms_oc1 rfl (s_get (r := (RX8, TX8, 4)) rfl (by decide) rfl rfl kw_255 dX8_nodeNamed_14) <|
  ms_oc1 rfl (s_iload_n rfl dX8_nodeNamed_17) <|
  ms_oc1 rfl (s_iaload dX8_nodeNamed_18) <|
  ms_oc1 rfl (s_iload_n rfl dX8_nodeNamed_19) <|
  ms_oc1 rfl (s_icmpne (by decide) dX8_nodeNamed_20) <|
  ms_oc1 rfl (s_iload_n rfl dX8_nodeNamed_23) <|
  ms_oc1 rfl (s_iret (b := false) rfl dX8_nodeNamed_24) <|
  ms_oc1 rfl (s_iinc (by decide) dX8_nodeNamed_25) <|
  ms_oc1 rfl (s_goto (by decide) dX8_nodeNamed_28) <|
  ms_oc1 rfl (s_iconst dX8_nodeNamed_31 (by decide)) <|
  ms_oc0 (s_iret (b := false) rfl dX8_nodeNamed_32)

def tX8_isWord (G : ms_G) (Q : ms_Q) (d : Nat) : List (Nat × ms_T) := [(0, (o_ld 0 2)), (1, (o_get 8 0 2)), (4, (o_get 9 3 0)), (7, (o_ci 1)), (8, (o_if2 G Q mX8_isWord (d + 1) (fun a b => ¬ a = b) 26)), (11, (o_ld 0 2)), (12, (o_get 8 0 2)), (15, (o_get 9 5 0)), (18, (o_ld 1 0)), (19, (o_if2 G Q mX8_isWord (d + 1) (fun a b => ¬ a = b) 26)), (22, (o_ci 1)), (23, (o_go G Q mX8_isWord (d + 1) 27)), (26, (o_ci 0)), (100000, o_go G Q mX8_isWord (d + 1) 27), (27, (o_ret Q true))]
set_option maxRecDepth 100000 in
set_option maxHeartbeats 4000000 in
theorem kX8_isWord (G : ms_G) (Q : ms_Q) (d : Nat) : ms_Oc G Q mX8_isWord (d + 1) (tX8_isWord G Q d) :=
  ms_oc1 rfl (s_aload_n rfl dX8_isWord_0) <|
  ms_oc1 rfl (s_get (r := (RX8, TX8, 4)) rfl (by decide) rfl rfl kw_253 dX8_isWord_1) <|
  ms_oc1 rfl (s_get (r := (RX9, TX9, 6)) rfl (by decide) rfl rfl kw_232 dX8_isWord_4) <|
  ms_oc1 rfl (s_iconst dX8_isWord_7 (by decide)) <|
  ms_oc1 rfl (s_icmpne (by decide) dX8_isWord_8) <|
  ms_oc1 rfl (s_aload_n rfl dX8_isWord_11) <|
  ms_oc1 rfl (s_get (r := (RX8, TX8, 4)) rfl (by decide) rfl rfl kw_253 dX8_isWord_12) <|
  ms_oc1 rfl (s_get (r := (RX9, TX9, 6)) rfl (by decide) rfl rfl kw_237 dX8_isWord_15) <|
  ms_oc1 rfl (s_iload_n rfl dX8_isWord_18) <|
  ms_oc1 rfl (s_icmpne (by decide) dX8_isWord_19) <|
  ms_oc1 rfl (s_iconst dX8_isWord_22 (by decide)) <|
  ms_oc1 rfl (s_goto (by decide) dX8_isWord_23) <|
  ms_occ (s_iconst dX8_isWord_26 (by decide)) <|
  ms_oc0 (s_iret (b := true) rfl dX8_isWord_27)

def tX8_isName (G : ms_G) (Q : ms_Q) (d : Nat) : List (Nat × ms_T) := [(0, (o_ld 0 2)), (1, (o_get 8 0 2)), (4, (o_get 9 3 0)), (7, (o_ci 1)), (8, (o_if2 G Q mX8_isName (d + 1) (fun a b => ¬ a = b) 50)), (11, (o_ld 0 2)), (12, (o_get 8 0 2)), (15, (o_get 9 5 0)), (18, (o_ci (-1))), (19, (o_if2 G Q mX8_isName (d + 1) (fun a b => a = b) 50)), (22, (o_ld 0 2)), (23, (o_get 8 0 2)), (26, (o_get 9 5 0)), (29, (o_ci (1650553701))), (31, (o_if2 G Q mX8_isName (d + 1) (fun a b => a = b) 50)), (34, (o_ld 0 2)), (35, (o_get 8 0 2)), (38, (o_get 9 5 0)), (41, (o_ci (2002873972))), (43, (o_if2 G Q mX8_isName (d + 1) (fun a b => a = b) 50)), (46, (o_ci 1)), (47, (o_go G Q mX8_isName (d + 1) 51)), (50, (o_ci 0)), (100000, o_go G Q mX8_isName (d + 1) 51), (51, (o_ret Q true))]
set_option maxRecDepth 100000 in
set_option maxHeartbeats 4000000 in
theorem kX8_isName (G : ms_G) (Q : ms_Q) (d : Nat) : ms_Oc G Q mX8_isName (d + 1) (tX8_isName G Q d) :=
  ms_oc1 rfl (s_aload_n rfl dX8_isName_0) <|
  ms_oc1 rfl (s_get (r := (RX8, TX8, 4)) rfl (by decide) rfl rfl kw_253 dX8_isName_1) <|
  ms_oc1 rfl (s_get (r := (RX9, TX9, 6)) rfl (by decide) rfl rfl kw_232 dX8_isName_4) <|
  ms_oc1 rfl (s_iconst dX8_isName_7 (by decide)) <|
  ms_oc1 rfl (s_icmpne (by decide) dX8_isName_8) <|
  ms_oc1 rfl (s_aload_n rfl dX8_isName_11) <|
  ms_oc1 rfl (s_get (r := (RX8, TX8, 4)) rfl (by decide) rfl rfl kw_253 dX8_isName_12) <|
  ms_oc1 rfl (s_get (r := (RX9, TX9, 6)) rfl (by decide) rfl rfl kw_237 dX8_isName_15) <|
  ms_oc1 rfl (s_iconst dX8_isName_18 (by decide)) <|
  ms_oc1 rfl (s_icmpeq (by decide) dX8_isName_19) <|
  ms_oc1 rfl (s_aload_n rfl dX8_isName_22) <|
  ms_oc1 rfl (s_get (r := (RX8, TX8, 4)) rfl (by decide) rfl rfl kw_253 dX8_isName_23) <|
  ms_oc1 rfl (s_get (r := (RX9, TX9, 6)) rfl (by decide) rfl rfl kw_237 dX8_isName_26) <|
  ms_oc1 rfl (s_ldc dX8_isName_29 kw_422 (by decide) (by decide)) <|
  ms_oc1 rfl (s_icmpeq (by decide) dX8_isName_31) <|
  ms_oc1 rfl (s_aload_n rfl dX8_isName_34) <|
  ms_oc1 rfl (s_get (r := (RX8, TX8, 4)) rfl (by decide) rfl rfl kw_253 dX8_isName_35) <|
  ms_oc1 rfl (s_get (r := (RX9, TX9, 6)) rfl (by decide) rfl rfl kw_237 dX8_isName_38) <|
  ms_oc1 rfl (s_ldc dX8_isName_41 kw_439 (by decide) (by decide)) <|
  ms_oc1 rfl (s_icmpeq (by decide) dX8_isName_43) <|
  ms_oc1 rfl (s_iconst dX8_isName_46 (by decide)) <|
  ms_oc1 rfl (s_goto (by decide) dX8_isName_47) <|
  ms_occ (s_iconst dX8_isName_50 (by decide)) <|
  ms_oc0 (s_iret (b := true) rfl dX8_isName_51)

def tX8_fault (G : ms_G) (Q : ms_Q) (d : Nat) : List (Nat × ms_T) := [(0, (o_ci 8)), (2, (o_ld 0 2)), (3, (o_get 8 0 2)), (6, (o_get 9 4 0)), (9, (o_bin (fun a b => w32 (a * b)))), (10, (o_ld 1 0)), (11, (o_bin (fun a b => w32 (a + b)))), (12, (o_ret Q false))]
set_option maxRecDepth 100000 in
set_option maxHeartbeats 4000000 in
theorem kX8_fault (G : ms_G) (Q : ms_Q) (d : Nat) : ms_Oc G Q mX8_fault (d + 1) (tX8_fault G Q d) :=
  ms_oc1 rfl (s_bipush dX8_fault_0 (by decide) (by decide)) <|
  ms_oc1 rfl (s_aload_n rfl dX8_fault_2) <|
  ms_oc1 rfl (s_get (r := (RX8, TX8, 4)) rfl (by decide) rfl rfl kw_253 dX8_fault_3) <|
  ms_oc1 rfl (s_get (r := (RX9, TX9, 6)) rfl (by decide) rfl rfl kw_235 dX8_fault_6) <|
  ms_oc1 rfl (s_imul dX8_fault_9) <|
  ms_oc1 rfl (s_iload_n rfl dX8_fault_10) <|
  ms_oc1 rfl (s_iadd dX8_fault_11) <|
  ms_oc0 (s_iret (b := false) rfl dX8_fault_12)

def tX9_init (G : ms_G) (Q : ms_Q) (d : Nat) : List (Nat × ms_T) := [(0, (o_ld 0 2)), (1, o_oi), (4, (o_vret Q))]
set_option maxRecDepth 100000 in
set_option maxHeartbeats 4000000 in
theorem kX9_init (G : ms_G) (Q : ms_Q) (d : Nat) : ms_Oc G Q mX9_init (d + 1) (tX9_init G Q d) :=
  ms_oc1 rfl (s_aload_n rfl dX9_init_0) <|
  ms_oc1 rfl (s_oi kw_228 kw_102 kw_103 dX9_init_1) <|
  ms_oc0 (s_vret rfl dX9_init_4)

def tX9_begin (G : ms_G) (Q : ms_Q) (d : Nat) : List (Nat × ms_T) := [(0, (o_ld 0 2)), (1, (o_ld 1 2)), (2, (o_put 9 0 2)), (5, (o_ld 0 2)), (6, (o_ld 2 0)), (7, (o_put 9 1 0)), (10, (o_ld 0 2)), (11, (o_ci 0)), (12, (o_put 9 2 0)), (15, (o_vret Q))]
set_option maxRecDepth 100000 in
set_option maxHeartbeats 4000000 in
theorem kX9_begin (G : ms_G) (Q : ms_Q) (d : Nat) : ms_Oc G Q mX9_begin (d + 1) (tX9_begin G Q d) :=
  ms_oc1 rfl (s_aload_n rfl dX9_begin_0) <|
  ms_oc1 rfl (s_aload_n rfl dX9_begin_1) <|
  ms_oc1 rfl (s_put (r := (RX9, TX9, 6)) rfl (by decide) rfl rfl (ms_nar2 (fun r => by cases r <;> exact ⟨rfl, rfl⟩)) (Or.inl rfl) kw_229 dX9_begin_2) <|
  ms_oc1 rfl (s_aload_n rfl dX9_begin_5) <|
  ms_oc1 rfl (s_iload_n rfl dX9_begin_6) <|
  ms_oc1 rfl (s_put (r := (RX9, TX9, 6)) rfl (by decide) rfl rfl (ms_nar0 rfl) (Or.inl rfl) kw_230 dX9_begin_7) <|
  ms_oc1 rfl (s_aload_n rfl dX9_begin_10) <|
  ms_oc1 rfl (s_iconst dX9_begin_11 (by decide)) <|
  ms_oc1 rfl (s_put (r := (RX9, TX9, 6)) rfl (by decide) rfl rfl (ms_nar0 rfl) (Or.inl rfl) kw_231 dX9_begin_12) <|
  ms_oc0 (s_vret rfl dX9_begin_15)

def tX9_advance (G : ms_G) (Q : ms_Q) (d : Nat) : List (Nat × ms_T) := [(0, (o_ld 0 2)), (1, (o_get 9 2 0)), (4, (o_ld 0 2)), (5, (o_get 9 1 0)), (8, (o_if2 G Q mX9_advance (d + 1) (fun a b => b ≤ a) 52)), (11, (o_ld 0 2)), (12, (o_get 9 0 2)), (15, (o_ld 0 2)), (16, (o_get 9 2 0)), (19, o_bald), (20, (o_ci 32)), (22, (o_if2 G Q mX9_advance (d + 1) (fun a b => a = b) 39)), (25, (o_ld 0 2)), (26, (o_get 9 0 2)), (29, (o_ld 0 2)), (30, (o_get 9 2 0)), (33, o_bald), (34, (o_ci 10)), (36, (o_if2 G Q mX9_advance (d + 1) (fun a b => ¬ a = b) 52)), (100000, o_go G Q mX9_advance (d + 1) 39), (39, (o_ld 0 2)), (40, o_dup), (41, (o_get 9 2 0)), (44, (o_ci 1)), (45, (o_bin (fun a b => w32 (a + b)))), (46, (o_put 9 2 0)), (49, (o_go G Q mX9_advance (d + 1) 0)), (52, (o_ld 0 2)), (53, (o_ld 0 2)), (54, (o_get 9 2 0)), (57, (o_put 9 4 0)), (60, (o_ld 0 2)), (61, (o_ci (-1))), (62, (o_put 9 5 0)), (65, (o_ld 0 2)), (66, (o_get 9 2 0)), (69, (o_ld 0 2)), (70, (o_get 9 1 0)), (73, (o_if2 G Q mX9_advance (d + 1) (fun a b => a < b) 82)), (76, (o_ld 0 2)), (77, (o_ci 0)), (78, (o_put 9 3 0)), (81, (o_vret Q)), (82, (o_ld 0 2)), (83, (o_get 9 0 2)), (86, (o_ld 0 2)), (87, (o_get 9 2 0)), (90, o_bald), (91, (o_st 1 0)), (92, (o_ld 1 0)), (93, (o_ci 97)), (95, (o_if2 G Q mX9_advance (d + 1) (fun a b => a < b) 124)), (98, (o_ld 1 0)), (99, (o_ci 122)), (101, (o_if2 G Q mX9_advance (d + 1) (fun a b => b < a) 124)), (104, (o_ld 0 2)), (105, (o_ci 1)), (106, (o_put 9 3 0)), (109, (o_ld 0 2)), (110, (o_ci 97)), (112, (o_ci 122)), (114, (o_ci 0)), (115, (o_ci 256)), (118, (o_invV G d mX9_takeRun 9 4 0 0)), (121, (o_go G Q mX9_advance (d + 1) 199)), (124, (o_ld 1 0)), (125, (o_ci 48)), (127, (o_if2 G Q mX9_advance (d + 1) (fun a b => a < b) 156)), (130, (o_ld 1 0)), (131, (o_ci 57)), (133, (o_if2 G Q mX9_advance (d + 1) (fun a b => b < a) 156)), (136, (o_ld 0 2)), (137, (o_ci 2)), (138, (o_put 9 3 0)), (141, (o_ld 0 2)), (142, (o_ci 48)), (144, (o_ci 57)), (146, (o_ci 48)), (148, (o_ci 10)), (150, (o_invV G d mX9_takeRun 9 4 0 0)), (153, (o_go G Q mX9_advance (d + 1) 199)), (156, (o_ld 0 2)), (157, (o_ld 1 0)), (158, (o_ci 59)), (160, (o_if2 G Q mX9_advance (d + 1) (fun a b => a = b) 181)), (163, (o_ld 1 0)), (164, (o_ci 61)), (166, (o_if2 G Q mX9_advance (d + 1) (fun a b => a = b) 181)), (169, (o_ld 1 0)), (170, (o_ci 42)), (172, (o_if2 G Q mX9_advance (d + 1) (fun a b => a = b) 181)), (175, (o_ld 1 0)), (176, (o_ci 94)), (178, (o_if2 G Q mX9_advance (d + 1) (fun a b => ¬ a = b) 185)), (100000, o_go G Q mX9_advance (d + 1) 181), (181, (o_ld 1 0)), (182, (o_go G Q mX9_advance (d + 1) 186)), (185, (o_ci 3)), (100000, o_go G Q mX9_advance (d + 1) 186), (186, (o_put 9 3 0)), (189, (o_ld 0 2)), (190, o_dup), (191, (o_get 9 2 0)), (194, (o_ci 1)), (195, (o_bin (fun a b => w32 (a + b)))), (196, (o_put 9 2 0)), (100000, o_go G Q mX9_advance (d + 1) 199), (199, (o_vret Q))]
set_option maxRecDepth 100000 in
set_option maxHeartbeats 4000000 in
theorem kX9_advance (G : ms_G) (Q : ms_Q) (d : Nat) : ms_Oc G Q mX9_advance (d + 1) (tX9_advance G Q d) :=
  ms_oc1 rfl (s_aload_n rfl dX9_advance_0) <|
  ms_oc1 rfl (s_get (r := (RX9, TX9, 6)) rfl (by decide) rfl rfl kw_231 dX9_advance_1) <|
  ms_oc1 rfl (s_aload_n rfl dX9_advance_4) <|
  ms_oc1 rfl (s_get (r := (RX9, TX9, 6)) rfl (by decide) rfl rfl kw_230 dX9_advance_5) <|
  ms_oc1 rfl (s_icmpge (by decide) dX9_advance_8) <|
  ms_oc1 rfl (s_aload_n rfl dX9_advance_11) <|
  ms_oc1 rfl (s_get (r := (RX9, TX9, 6)) rfl (by decide) rfl rfl kw_229 dX9_advance_12) <|
  ms_oc1 rfl (s_aload_n rfl dX9_advance_15) <|
  ms_oc1 rfl (s_get (r := (RX9, TX9, 6)) rfl (by decide) rfl rfl kw_231 dX9_advance_16) <|
  ms_oc1 rfl (s_baload dX9_advance_19) <|
  ms_oc1 rfl (s_bipush dX9_advance_20 (by decide) (by decide)) <|
  ms_oc1 rfl (s_icmpeq (by decide) dX9_advance_22) <|
  ms_oc1 rfl (s_aload_n rfl dX9_advance_25) <|
  ms_oc1 rfl (s_get (r := (RX9, TX9, 6)) rfl (by decide) rfl rfl kw_229 dX9_advance_26) <|
  ms_oc1 rfl (s_aload_n rfl dX9_advance_29) <|
  ms_oc1 rfl (s_get (r := (RX9, TX9, 6)) rfl (by decide) rfl rfl kw_231 dX9_advance_30) <|
  ms_oc1 rfl (s_baload dX9_advance_33) <|
  ms_oc1 rfl (s_bipush dX9_advance_34 (by decide) (by decide)) <|
  ms_occ (s_icmpne (by decide) dX9_advance_36) <|
  ms_oc1 rfl (s_aload_n rfl dX9_advance_39) <|
  ms_oc1 rfl (s_dup dX9_advance_40) <|
  ms_oc1 rfl (s_get (r := (RX9, TX9, 6)) rfl (by decide) rfl rfl kw_231 dX9_advance_41) <|
  ms_oc1 rfl (s_iconst dX9_advance_44 (by decide)) <|
  ms_oc1 rfl (s_iadd dX9_advance_45) <|
  ms_oc1 rfl (s_put (r := (RX9, TX9, 6)) rfl (by decide) rfl rfl (ms_nar0 rfl) (Or.inl rfl) kw_231 dX9_advance_46) <|
  ms_oc1 rfl (s_goto (by decide) dX9_advance_49) <|
  ms_oc1 rfl (s_aload_n rfl dX9_advance_52) <|
  ms_oc1 rfl (s_aload_n rfl dX9_advance_53) <|
  ms_oc1 rfl (s_get (r := (RX9, TX9, 6)) rfl (by decide) rfl rfl kw_231 dX9_advance_54) <|
  ms_oc1 rfl (s_put (r := (RX9, TX9, 6)) rfl (by decide) rfl rfl (ms_nar0 rfl) (Or.inl rfl) kw_234 dX9_advance_57) <|
  ms_oc1 rfl (s_aload_n rfl dX9_advance_60) <|
  ms_oc1 rfl (s_iconst dX9_advance_61 (by decide)) <|
  ms_oc1 rfl (s_put (r := (RX9, TX9, 6)) rfl (by decide) rfl rfl (ms_nar0 rfl) (Or.inl rfl) kw_236 dX9_advance_62) <|
  ms_oc1 rfl (s_aload_n rfl dX9_advance_65) <|
  ms_oc1 rfl (s_get (r := (RX9, TX9, 6)) rfl (by decide) rfl rfl kw_231 dX9_advance_66) <|
  ms_oc1 rfl (s_aload_n rfl dX9_advance_69) <|
  ms_oc1 rfl (s_get (r := (RX9, TX9, 6)) rfl (by decide) rfl rfl kw_230 dX9_advance_70) <|
  ms_oc1 rfl (s_icmplt (by decide) dX9_advance_73) <|
  ms_oc1 rfl (s_aload_n rfl dX9_advance_76) <|
  ms_oc1 rfl (s_iconst dX9_advance_77 (by decide)) <|
  ms_oc1 rfl (s_put (r := (RX9, TX9, 6)) rfl (by decide) rfl rfl (ms_nar0 rfl) (Or.inl rfl) kw_233 dX9_advance_78) <|
  ms_oc1 rfl (s_vret rfl dX9_advance_81) <|
  ms_oc1 rfl (s_aload_n rfl dX9_advance_82) <|
  ms_oc1 rfl (s_get (r := (RX9, TX9, 6)) rfl (by decide) rfl rfl kw_229 dX9_advance_83) <|
  ms_oc1 rfl (s_aload_n rfl dX9_advance_86) <|
  ms_oc1 rfl (s_get (r := (RX9, TX9, 6)) rfl (by decide) rfl rfl kw_231 dX9_advance_87) <|
  ms_oc1 rfl (s_baload dX9_advance_90) <|
  ms_oc1 rfl (s_istore_n rfl (by decide) dX9_advance_91) <|
  ms_oc1 rfl (s_iload_n rfl dX9_advance_92) <|
  ms_oc1 rfl (s_bipush dX9_advance_93 (by decide) (by decide)) <|
  ms_oc1 rfl (s_icmplt (by decide) dX9_advance_95) <|
  ms_oc1 rfl (s_iload_n rfl dX9_advance_98) <|
  ms_oc1 rfl (s_bipush dX9_advance_99 (by decide) (by decide)) <|
  ms_oc1 rfl (s_icmpgt (by decide) dX9_advance_101) <|
  ms_oc1 rfl (s_aload_n rfl dX9_advance_104) <|
  ms_oc1 rfl (s_iconst dX9_advance_105 (by decide)) <|
  ms_oc1 rfl (s_put (r := (RX9, TX9, 6)) rfl (by decide) rfl rfl (ms_nar0 rfl) (Or.inl rfl) kw_233 dX9_advance_106) <|
  ms_oc1 rfl (s_aload_n rfl dX9_advance_109) <|
  ms_oc1 rfl (s_bipush dX9_advance_110 (by decide) (by decide)) <|
  ms_oc1 rfl (s_bipush dX9_advance_112 (by decide) (by decide)) <|
  ms_oc1 rfl (s_iconst dX9_advance_114 (by decide)) <|
  ms_oc1 rfl (s_sipush dX9_advance_115 (by decide) (by decide)) <|
  ms_oc1 rfl (s_invV (r := (RX9, TX9, 6)) rfl rfl kw_418 kw_420 kw_0 kw_83 kw_421 ⟨by decide +kernel, by decide +kernel, by decide +kernel⟩ (by decide) dX9_advance_118) <|
  ms_oc1 rfl (s_goto (by decide) dX9_advance_121) <|
  ms_oc1 rfl (s_iload_n rfl dX9_advance_124) <|
  ms_oc1 rfl (s_bipush dX9_advance_125 (by decide) (by decide)) <|
  ms_oc1 rfl (s_icmplt (by decide) dX9_advance_127) <|
  ms_oc1 rfl (s_iload_n rfl dX9_advance_130) <|
  ms_oc1 rfl (s_bipush dX9_advance_131 (by decide) (by decide)) <|
  ms_oc1 rfl (s_icmpgt (by decide) dX9_advance_133) <|
  ms_oc1 rfl (s_aload_n rfl dX9_advance_136) <|
  ms_oc1 rfl (s_iconst dX9_advance_137 (by decide)) <|
  ms_oc1 rfl (s_put (r := (RX9, TX9, 6)) rfl (by decide) rfl rfl (ms_nar0 rfl) (Or.inl rfl) kw_233 dX9_advance_138) <|
  ms_oc1 rfl (s_aload_n rfl dX9_advance_141) <|
  ms_oc1 rfl (s_bipush dX9_advance_142 (by decide) (by decide)) <|
  ms_oc1 rfl (s_bipush dX9_advance_144 (by decide) (by decide)) <|
  ms_oc1 rfl (s_bipush dX9_advance_146 (by decide) (by decide)) <|
  ms_oc1 rfl (s_bipush dX9_advance_148 (by decide) (by decide)) <|
  ms_oc1 rfl (s_invV (r := (RX9, TX9, 6)) rfl rfl kw_418 kw_420 kw_0 kw_83 kw_421 ⟨by decide +kernel, by decide +kernel, by decide +kernel⟩ (by decide) dX9_advance_150) <|
  ms_oc1 rfl (s_goto (by decide) dX9_advance_153) <|
  ms_oc1 rfl (s_aload_n rfl dX9_advance_156) <|
  ms_oc1 rfl (s_iload_n rfl dX9_advance_157) <|
  ms_oc1 rfl (s_bipush dX9_advance_158 (by decide) (by decide)) <|
  ms_oc1 rfl (s_icmpeq (by decide) dX9_advance_160) <|
  ms_oc1 rfl (s_iload_n rfl dX9_advance_163) <|
  ms_oc1 rfl (s_bipush dX9_advance_164 (by decide) (by decide)) <|
  ms_oc1 rfl (s_icmpeq (by decide) dX9_advance_166) <|
  ms_oc1 rfl (s_iload_n rfl dX9_advance_169) <|
  ms_oc1 rfl (s_bipush dX9_advance_170 (by decide) (by decide)) <|
  ms_oc1 rfl (s_icmpeq (by decide) dX9_advance_172) <|
  ms_oc1 rfl (s_iload_n rfl dX9_advance_175) <|
  ms_oc1 rfl (s_bipush dX9_advance_176 (by decide) (by decide)) <|
  ms_occ (s_icmpne (by decide) dX9_advance_178) <|
  ms_oc1 rfl (s_iload_n rfl dX9_advance_181) <|
  ms_oc1 rfl (s_goto (by decide) dX9_advance_182) <|
  ms_occ (s_iconst dX9_advance_185 (by decide)) <|
  ms_oc1 rfl (s_put (r := (RX9, TX9, 6)) rfl (by decide) rfl rfl (ms_nar0 rfl) (Or.inl rfl) kw_233 dX9_advance_186) <|
  ms_oc1 rfl (s_aload_n rfl dX9_advance_189) <|
  ms_oc1 rfl (s_dup dX9_advance_190) <|
  ms_oc1 rfl (s_get (r := (RX9, TX9, 6)) rfl (by decide) rfl rfl kw_231 dX9_advance_191) <|
  ms_oc1 rfl (s_iconst dX9_advance_194 (by decide)) <|
  ms_oc1 rfl (s_iadd dX9_advance_195) <|
  ms_occ (s_put (r := (RX9, TX9, 6)) rfl (by decide) rfl rfl (ms_nar0 rfl) (Or.inl rfl) kw_231 dX9_advance_196) <|
  ms_oc0 (s_vret rfl dX9_advance_199)

def tX9_takeRun (G : ms_G) (Q : ms_Q) (d : Nat) : List (Nat × ms_T) := [(0, (o_ci 0)), (1, (o_st 5 0)), (100000, o_go G Q mX9_takeRun (d + 1) 3), (3, (o_ld 0 2)), (4, (o_get 9 2 0)), (7, (o_ld 0 2)), (8, (o_get 9 1 0)), (11, (o_if2 G Q mX9_takeRun (d + 1) (fun a b => b ≤ a) 72)), (14, (o_ld 0 2)), (15, (o_get 9 0 2)), (18, (o_ld 0 2)), (19, (o_get 9 2 0)), (22, o_bald), (23, (o_ld 1 0)), (24, (o_if2 G Q mX9_takeRun (d + 1) (fun a b => a < b) 72)), (27, (o_ld 0 2)), (28, (o_get 9 0 2)), (31, (o_ld 0 2)), (32, (o_get 9 2 0)), (35, o_bald), (36, (o_ld 2 0)), (37, (o_if2 G Q mX9_takeRun (d + 1) (fun a b => b < a) 72)), (40, (o_ld 5 0)), (42, (o_ld 4 0)), (44, (o_bin (fun a b => w32 (a * b)))), (45, (o_ld 0 2)), (46, (o_get 9 0 2)), (49, (o_ld 0 2)), (50, (o_get 9 2 0)), (53, o_bald), (54, (o_ld 3 0)), (55, (o_bin (fun a b => w32 (a - b)))), (56, (o_bin (fun a b => w32 (a + b)))), (57, (o_st 5 0)), (59, (o_ld 0 2)), (60, o_dup), (61, (o_get 9 2 0)), (64, (o_ci 1)), (65, (o_bin (fun a b => w32 (a + b)))), (66, (o_put 9 2 0)), (69, (o_go G Q mX9_takeRun (d + 1) 3)), (72, (o_ld 0 2)), (73, (o_get 9 2 0)), (76, (o_ld 0 2)), (77, (o_get 9 4 0)), (80, (o_bin (fun a b => w32 (a - b)))), (81, (o_ci 4)), (82, (o_if2 G Q mX9_takeRun (d + 1) (fun a b => b < a) 91)), (85, (o_ld 0 2)), (86, (o_ld 5 0)), (88, (o_put 9 5 0)), (100000, o_go G Q mX9_takeRun (d + 1) 91), (91, (o_vret Q))]
set_option maxRecDepth 100000 in
set_option maxHeartbeats 4000000 in
theorem kX9_takeRun (G : ms_G) (Q : ms_Q) (d : Nat) : ms_Oc G Q mX9_takeRun (d + 1) (tX9_takeRun G Q d) :=
  ms_oc1 rfl (s_iconst dX9_takeRun_0 (by decide)) <|
  ms_occ (s_istore (by decide) dX9_takeRun_1) <|
  ms_oc1 rfl (s_aload_n rfl dX9_takeRun_3) <|
  ms_oc1 rfl (s_get (r := (RX9, TX9, 6)) rfl (by decide) rfl rfl kw_231 dX9_takeRun_4) <|
  ms_oc1 rfl (s_aload_n rfl dX9_takeRun_7) <|
  ms_oc1 rfl (s_get (r := (RX9, TX9, 6)) rfl (by decide) rfl rfl kw_230 dX9_takeRun_8) <|
  ms_oc1 rfl (s_icmpge (by decide) dX9_takeRun_11) <|
  ms_oc1 rfl (s_aload_n rfl dX9_takeRun_14) <|
  ms_oc1 rfl (s_get (r := (RX9, TX9, 6)) rfl (by decide) rfl rfl kw_229 dX9_takeRun_15) <|
  ms_oc1 rfl (s_aload_n rfl dX9_takeRun_18) <|
  ms_oc1 rfl (s_get (r := (RX9, TX9, 6)) rfl (by decide) rfl rfl kw_231 dX9_takeRun_19) <|
  ms_oc1 rfl (s_baload dX9_takeRun_22) <|
  ms_oc1 rfl (s_iload_n rfl dX9_takeRun_23) <|
  ms_oc1 rfl (s_icmplt (by decide) dX9_takeRun_24) <|
  ms_oc1 rfl (s_aload_n rfl dX9_takeRun_27) <|
  ms_oc1 rfl (s_get (r := (RX9, TX9, 6)) rfl (by decide) rfl rfl kw_229 dX9_takeRun_28) <|
  ms_oc1 rfl (s_aload_n rfl dX9_takeRun_31) <|
  ms_oc1 rfl (s_get (r := (RX9, TX9, 6)) rfl (by decide) rfl rfl kw_231 dX9_takeRun_32) <|
  ms_oc1 rfl (s_baload dX9_takeRun_35) <|
  ms_oc1 rfl (s_iload_n rfl dX9_takeRun_36) <|
  ms_oc1 rfl (s_icmpgt (by decide) dX9_takeRun_37) <|
  ms_oc1 rfl (s_iload dX9_takeRun_40) <|
  ms_oc1 rfl (s_iload dX9_takeRun_42) <|
  ms_oc1 rfl (s_imul dX9_takeRun_44) <|
  ms_oc1 rfl (s_aload_n rfl dX9_takeRun_45) <|
  ms_oc1 rfl (s_get (r := (RX9, TX9, 6)) rfl (by decide) rfl rfl kw_229 dX9_takeRun_46) <|
  ms_oc1 rfl (s_aload_n rfl dX9_takeRun_49) <|
  ms_oc1 rfl (s_get (r := (RX9, TX9, 6)) rfl (by decide) rfl rfl kw_231 dX9_takeRun_50) <|
  ms_oc1 rfl (s_baload dX9_takeRun_53) <|
  ms_oc1 rfl (s_iload_n rfl dX9_takeRun_54) <|
  ms_oc1 rfl (s_isub dX9_takeRun_55) <|
  ms_oc1 rfl (s_iadd dX9_takeRun_56) <|
  ms_oc1 rfl (s_istore (by decide) dX9_takeRun_57) <|
  ms_oc1 rfl (s_aload_n rfl dX9_takeRun_59) <|
  ms_oc1 rfl (s_dup dX9_takeRun_60) <|
  ms_oc1 rfl (s_get (r := (RX9, TX9, 6)) rfl (by decide) rfl rfl kw_231 dX9_takeRun_61) <|
  ms_oc1 rfl (s_iconst dX9_takeRun_64 (by decide)) <|
  ms_oc1 rfl (s_iadd dX9_takeRun_65) <|
  ms_oc1 rfl (s_put (r := (RX9, TX9, 6)) rfl (by decide) rfl rfl (ms_nar0 rfl) (Or.inl rfl) kw_231 dX9_takeRun_66) <|
  ms_oc1 rfl (s_goto (by decide) dX9_takeRun_69) <|
  ms_oc1 rfl (s_aload_n rfl dX9_takeRun_72) <|
  ms_oc1 rfl (s_get (r := (RX9, TX9, 6)) rfl (by decide) rfl rfl kw_231 dX9_takeRun_73) <|
  ms_oc1 rfl (s_aload_n rfl dX9_takeRun_76) <|
  ms_oc1 rfl (s_get (r := (RX9, TX9, 6)) rfl (by decide) rfl rfl kw_234 dX9_takeRun_77) <|
  ms_oc1 rfl (s_isub dX9_takeRun_80) <|
  ms_oc1 rfl (s_iconst dX9_takeRun_81 (by decide)) <|
  ms_oc1 rfl (s_icmpgt (by decide) dX9_takeRun_82) <|
  ms_oc1 rfl (s_aload_n rfl dX9_takeRun_85) <|
  ms_oc1 rfl (s_iload dX9_takeRun_86) <|
  ms_occ (s_put (r := (RX9, TX9, 6)) rfl (by decide) rfl rfl (ms_nar0 rfl) (Or.inl rfl) kw_236 dX9_takeRun_88) <|
  ms_oc0 (s_vret rfl dX9_takeRun_91)

def tX10_init (G : ms_G) (Q : ms_Q) (d : Nat) : List (Nat × ms_T) := [(0, (o_ld 0 2)), (1, o_oi), (4, (o_ld 0 2)), (5, (o_ci 64)), (7, (o_newa 100)), (9, (o_put 10 0 2)), (12, (o_vret Q))]
set_option maxRecDepth 100000 in
set_option maxHeartbeats 4000000 in
theorem kX10_init (G : ms_G) (Q : ms_Q) (d : Nat) : ms_Oc G Q mX10_init (d + 1) (tX10_init G Q d) :=
  ms_oc1 rfl (s_aload_n rfl dX10_init_0) <|
  ms_oc1 rfl (s_oi kw_271 kw_102 kw_103 dX10_init_1) <|
  ms_oc1 rfl (s_aload_n rfl dX10_init_4) <|
  ms_oc1 rfl (s_bipush dX10_init_5 (by decide) (by decide)) <|
  ms_oc1 rfl (s_newa (ty := .int) rfl kw_153 dX10_init_7 (Or.inl ⟨rfl, rfl⟩)) <|
  ms_oc1 rfl (s_put (r := (RX10, TX10, 1)) rfl (by decide) rfl rfl (ms_nar2 (fun r => by cases r <;> exact ⟨rfl, rfl⟩)) (Or.inr ⟨rfl, rfl⟩) kw_272 dX10_init_9) <|
  ms_oc0 (s_vret rfl dX10_init_12)

def tX10_turn (G : ms_G) (Q : ms_Q) (d : Nat) : List (Nat × ms_T) := [(0, (o_ld 2 2)), (1, (o_ld 1 2)), (2, (o_get 4 5 0)), (5, (o_invV G d mX4_begin 4 1 0 0)), (8, (o_ld 1 2)), (9, (o_get 4 5 0)), (12, (o_if1 G Q mX10_turn (d + 1) (fun x => ¬ x = 0) 17)), (15, (o_ci 0)), (16, (o_ret Q true)), (17, (o_ld 1 2)), (18, (o_invV G d mX4_size 4 0 0 0)), (21, (o_ci 1)), (22, (o_bin (fun a b => w32 (a - b)))), (23, (o_st 3 0)), (100000, o_go G Q mX10_turn (d + 1) 24), (24, (o_ld 3 0)), (25, (o_if1 G Q mX10_turn (d + 1) (fun x => x < 0) 63)), (28, (o_ld 0 2)), (29, (o_get 10 0 2)), (32, (o_ld 3 0)), (33, (o_ci (-1))), (34, (o_ast 100 0 (fun x => x))), (35, (o_ld 0 2)), (36, (o_ld 1 2)), (37, (o_ld 3 0)), (38, (o_ld 2 2)), (39, (o_invV G d mX10_gatherWants 10 3 0 0)), (42, (o_if1 G Q mX10_turn (d + 1) (fun x => x = 0) 55)), (45, (o_ld 0 2)), (46, (o_ld 1 2)), (47, (o_ld 3 0)), (48, (o_ld 2 2)), (49, (o_invV G d mX10_gatherSteps 10 3 0 0)), (52, (o_if1 G Q mX10_turn (d + 1) (fun x => ¬ x = 0) 57)), (100000, o_go G Q mX10_turn (d + 1) 55), (55, (o_ci 0)), (56, (o_ret Q true)), (57, (o_inc 3 (-1))), (60, (o_go G Q mX10_turn (d + 1) 24)), (63, (o_ld 0 2)), (64, (o_ld 1 2)), (65, (o_ld 2 2)), (66, (o_invV G d mX10_wantBases 10 2 0 0)), (69, (o_ret Q true))]
set_option maxRecDepth 100000 in
set_option maxHeartbeats 4000000 in
theorem kX10_turn (G : ms_G) (Q : ms_Q) (d : Nat) : ms_Oc G Q mX10_turn (d + 1) (tX10_turn G Q d) :=
  ms_oc1 rfl (s_aload_n rfl dX10_turn_0) <|
  ms_oc1 rfl (s_aload_n rfl dX10_turn_1) <|
  ms_oc1 rfl (s_get (r := (RX4, TX4, 6)) rfl (by decide) rfl rfl kw_134 dX10_turn_2) <|
  ms_oc1 rfl (s_invV (r := (RX4, TX4, 6)) rfl rfl kw_656 kw_407 kw_408 kw_77 kw_409 ⟨by decide +kernel, by decide +kernel, by decide +kernel⟩ (by decide) dX10_turn_5) <|
  ms_oc1 rfl (s_aload_n rfl dX10_turn_8) <|
  ms_oc1 rfl (s_get (r := (RX4, TX4, 6)) rfl (by decide) rfl rfl kw_134 dX10_turn_9) <|
  ms_oc1 rfl (s_ifne (by decide) dX10_turn_12) <|
  ms_oc1 rfl (s_iconst dX10_turn_15 (by decide)) <|
  ms_oc1 rfl (s_iret (b := true) rfl dX10_turn_16) <|
  ms_oc1 rfl (s_aload_n rfl dX10_turn_17) <|
  ms_oc1 rfl (s_invV (r := (RX4, TX4, 6)) rfl rfl kw_657 kw_449 kw_450 kw_77 kw_451 ⟨by decide +kernel, by decide +kernel, by decide +kernel⟩ (by decide) dX10_turn_18) <|
  ms_oc1 rfl (s_iconst dX10_turn_21 (by decide)) <|
  ms_oc1 rfl (s_isub dX10_turn_22) <|
  ms_occ (s_istore_n rfl (by decide) dX10_turn_23) <|
  ms_oc1 rfl (s_iload_n rfl dX10_turn_24) <|
  ms_oc1 rfl (s_iflt (by decide) dX10_turn_25) <|
  ms_oc1 rfl (s_aload_n rfl dX10_turn_28) <|
  ms_oc1 rfl (s_get (r := (RX10, TX10, 1)) rfl (by decide) rfl rfl kw_272 dX10_turn_29) <|
  ms_oc1 rfl (s_iload_n rfl dX10_turn_32) <|
  ms_oc1 rfl (s_iconst dX10_turn_33 (by decide)) <|
  ms_oc1 rfl (s_iastore dX10_turn_34) <|
  ms_oc1 rfl (s_aload_n rfl dX10_turn_35) <|
  ms_oc1 rfl (s_aload_n rfl dX10_turn_36) <|
  ms_oc1 rfl (s_iload_n rfl dX10_turn_37) <|
  ms_oc1 rfl (s_aload_n rfl dX10_turn_38) <|
  ms_oc1 rfl (s_invV (r := (RX10, TX10, 1)) rfl rfl kw_658 kw_660 kw_20 kw_84 kw_661 ⟨by decide +kernel, by decide +kernel, by decide +kernel⟩ (by decide) dX10_turn_39) <|
  ms_oc1 rfl (s_ifeq (by decide) dX10_turn_42) <|
  ms_oc1 rfl (s_aload_n rfl dX10_turn_45) <|
  ms_oc1 rfl (s_aload_n rfl dX10_turn_46) <|
  ms_oc1 rfl (s_iload_n rfl dX10_turn_47) <|
  ms_oc1 rfl (s_aload_n rfl dX10_turn_48) <|
  ms_oc1 rfl (s_invV (r := (RX10, TX10, 1)) rfl rfl kw_667 kw_669 kw_22 kw_84 kw_670 ⟨by decide +kernel, by decide +kernel, by decide +kernel⟩ (by decide) dX10_turn_49) <|
  ms_occ (s_ifne (by decide) dX10_turn_52) <|
  ms_oc1 rfl (s_iconst dX10_turn_55 (by decide)) <|
  ms_oc1 rfl (s_iret (b := true) rfl dX10_turn_56) <|
  ms_oc1 rfl (s_iinc (by decide) dX10_turn_57) <|
  ms_oc1 rfl (s_goto (by decide) dX10_turn_60) <|
  ms_oc1 rfl (s_aload_n rfl dX10_turn_63) <|
  ms_oc1 rfl (s_aload_n rfl dX10_turn_64) <|
  ms_oc1 rfl (s_aload_n rfl dX10_turn_65) <|
  ms_oc1 rfl (s_invV (r := (RX10, TX10, 1)) rfl rfl kw_672 kw_674 kw_23 kw_84 kw_675 ⟨by decide +kernel, by decide +kernel, by decide +kernel⟩ (by decide) dX10_turn_66) <|
  ms_oc0 (s_iret (b := true) rfl dX10_turn_69)

def tX10_gatherWants (G : ms_G) (Q : ms_Q) (d : Nat) : List (Nat × ms_T) := [(0, (o_ci 0)), (1, (o_st 4 0)), (100000, o_go G Q mX10_gatherWants (d + 1) 3), (3, (o_ld 4 0)), (5, (o_ld 1 2)), (6, (o_get 4 5 0)), (9, (o_if2 G Q mX10_gatherWants (d + 1) (fun a b => b ≤ a) 42)), (12, (o_ld 1 2)), (13, (o_get 4 2 2)), (16, (o_ld 4 0)), (18, (o_ald 100 0)), (19, (o_ld 2 0)), (20, (o_if2 G Q mX10_gatherWants (d + 1) (fun a b => ¬ a = b) 36)), (23, (o_ld 0 2)), (24, (o_ld 2 0)), (25, (o_ld 4 0)), (27, (o_ld 3 2)), (28, (o_invV G d mX10_join 10 3 0 0)), (31, (o_if1 G Q mX10_gatherWants (d + 1) (fun x => ¬ x = 0) 36)), (34, (o_ci 0)), (35, (o_ret Q true)), (36, (o_inc 4 1)), (39, (o_go G Q mX10_gatherWants (d + 1) 3)), (42, (o_ci 1)), (43, (o_ret Q true))]
set_option maxRecDepth 100000 in
set_option maxHeartbeats 4000000 in
theorem kX10_gatherWants (G : ms_G) (Q : ms_Q) (d : Nat) : ms_Oc G Q mX10_gatherWants (d + 1) (tX10_gatherWants G Q d) :=
  ms_oc1 rfl (s_iconst dX10_gatherWants_0 (by decide)) <|
  ms_occ (s_istore (by decide) dX10_gatherWants_1) <|
  ms_oc1 rfl (s_iload dX10_gatherWants_3) <|
  ms_oc1 rfl (s_aload_n rfl dX10_gatherWants_5) <|
  ms_oc1 rfl (s_get (r := (RX4, TX4, 6)) rfl (by decide) rfl rfl kw_134 dX10_gatherWants_6) <|
  ms_oc1 rfl (s_icmpge (by decide) dX10_gatherWants_9) <|
  ms_oc1 rfl (s_aload_n rfl dX10_gatherWants_12) <|
  ms_oc1 rfl (s_get (r := (RX4, TX4, 6)) rfl (by decide) rfl rfl kw_121 dX10_gatherWants_13) <|
  ms_oc1 rfl (s_iload dX10_gatherWants_16) <|
  ms_oc1 rfl (s_iaload dX10_gatherWants_18) <|
  ms_oc1 rfl (s_iload_n rfl dX10_gatherWants_19) <|
  ms_oc1 rfl (s_icmpne (by decide) dX10_gatherWants_20) <|
  ms_oc1 rfl (s_aload_n rfl dX10_gatherWants_23) <|
  ms_oc1 rfl (s_iload_n rfl dX10_gatherWants_24) <|
  ms_oc1 rfl (s_iload dX10_gatherWants_25) <|
  ms_oc1 rfl (s_aload_n rfl dX10_gatherWants_27) <|
  ms_oc1 rfl (s_invV (r := (RX10, TX10, 1)) rfl rfl kw_662 kw_664 kw_21 kw_84 kw_665 ⟨by decide +kernel, by decide +kernel, by decide +kernel⟩ (by decide) dX10_gatherWants_28) <|
  ms_oc1 rfl (s_ifne (by decide) dX10_gatherWants_31) <|
  ms_oc1 rfl (s_iconst dX10_gatherWants_34 (by decide)) <|
  ms_oc1 rfl (s_iret (b := true) rfl dX10_gatherWants_35) <|
  ms_oc1 rfl (s_iinc (by decide) dX10_gatherWants_36) <|
  ms_oc1 rfl (s_goto (by decide) dX10_gatherWants_39) <|
  ms_oc1 rfl (s_iconst dX10_gatherWants_42 (by decide)) <|
  ms_oc0 (s_iret (b := true) rfl dX10_gatherWants_43)

def tX10_gatherSteps (G : ms_G) (Q : ms_Q) (d : Nat) : List (Nat × ms_T) := [(0, (o_ld 2 0)), (1, (o_ci 1)), (2, (o_bin (fun a b => w32 (a + b)))), (3, (o_ld 1 2)), (4, (o_get 4 3 0)), (7, (o_mx (fun a b => if a < b then b else a))), (10, (o_st 4 0)), (100000, o_go G Q mX10_gatherSteps (d + 1) 12), (12, (o_ld 4 0)), (14, (o_ld 1 2)), (15, (o_invV G d mX4_size 4 0 0 0)), (18, (o_if2 G Q mX10_gatherSteps (d + 1) (fun a b => b ≤ a) 99)), (21, (o_ld 0 2)), (22, (o_get 10 0 2)), (25, (o_ld 4 0)), (27, (o_ald 100 0)), (28, (o_ci (-1))), (29, (o_if2 G Q mX10_gatherSteps (d + 1) (fun a b => ¬ a = b) 35)), (32, (o_go G Q mX10_gatherSteps (d + 1) 93)), (35, (o_ld 1 2)), (36, (o_get 4 0 2)), (39, (o_ld 4 0)), (41, (o_ald 100 0)), (42, (o_ld 2 0)), (43, (o_if2 G Q mX10_gatherSteps (d + 1) (fun a b => ¬ a = b) 64)), (46, (o_ld 0 2)), (47, (o_ld 2 0)), (48, (o_ld 0 2)), (49, (o_get 10 0 2)), (52, (o_ld 4 0)), (54, (o_ald 100 0)), (55, (o_ld 3 2)), (56, (o_invV G d mX10_join 10 3 0 0)), (59, (o_if1 G Q mX10_gatherSteps (d + 1) (fun x => ¬ x = 0) 64)), (62, (o_ci 0)), (63, (o_ret Q true)), (64, (o_ld 1 2)), (65, (o_get 4 1 2)), (68, (o_ld 4 0)), (70, (o_ald 100 0)), (71, (o_ld 2 0)), (72, (o_if2 G Q mX10_gatherSteps (d + 1) (fun a b => ¬ a = b) 93)), (75, (o_ld 0 2)), (76, (o_ld 2 0)), (77, (o_ld 0 2)), (78, (o_get 10 0 2)), (81, (o_ld 4 0)), (83, (o_ald 100 0)), (84, (o_ld 3 2)), (85, (o_invV G d mX10_join 10 3 0 0)), (88, (o_if1 G Q mX10_gatherSteps (d + 1) (fun x => ¬ x = 0) 93)), (91, (o_ci 0)), (92, (o_ret Q true)), (93, (o_inc 4 1)), (96, (o_go G Q mX10_gatherSteps (d + 1) 12)), (99, (o_ci 1)), (100, (o_ret Q true))]
set_option maxRecDepth 100000 in
set_option maxHeartbeats 4000000 in
theorem kX10_gatherSteps (G : ms_G) (Q : ms_Q) (d : Nat) : ms_Oc G Q mX10_gatherSteps (d + 1) (tX10_gatherSteps G Q d) :=
  ms_oc1 rfl (s_iload_n rfl dX10_gatherSteps_0) <|
  ms_oc1 rfl (s_iconst dX10_gatherSteps_1 (by decide)) <|
  ms_oc1 rfl (s_iadd dX10_gatherSteps_2) <|
  ms_oc1 rfl (s_aload_n rfl dX10_gatherSteps_3) <|
  ms_oc1 rfl (s_get (r := (RX4, TX4, 6)) rfl (by decide) rfl rfl kw_128 dX10_gatherSteps_4) <|
  ms_oc1 rfl (s_mmax kw_671 kw_574 kw_91 kw_575 dX10_gatherSteps_7) <|
  ms_occ (s_istore (by decide) dX10_gatherSteps_10) <|
  ms_oc1 rfl (s_iload dX10_gatherSteps_12) <|
  ms_oc1 rfl (s_aload_n rfl dX10_gatherSteps_14) <|
  ms_oc1 rfl (s_invV (r := (RX4, TX4, 6)) rfl rfl kw_657 kw_449 kw_450 kw_77 kw_451 ⟨by decide +kernel, by decide +kernel, by decide +kernel⟩ (by decide) dX10_gatherSteps_15) <|
  ms_oc1 rfl (s_icmpge (by decide) dX10_gatherSteps_18) <|
  ms_oc1 rfl (s_aload_n rfl dX10_gatherSteps_21) <|
  ms_oc1 rfl (s_get (r := (RX10, TX10, 1)) rfl (by decide) rfl rfl kw_272 dX10_gatherSteps_22) <|
  ms_oc1 rfl (s_iload dX10_gatherSteps_25) <|
  ms_oc1 rfl (s_iaload dX10_gatherSteps_27) <|
  ms_oc1 rfl (s_iconst dX10_gatherSteps_28 (by decide)) <|
  ms_oc1 rfl (s_icmpne (by decide) dX10_gatherSteps_29) <|
  ms_oc1 rfl (s_goto (by decide) dX10_gatherSteps_32) <|
  ms_oc1 rfl (s_aload_n rfl dX10_gatherSteps_35) <|
  ms_oc1 rfl (s_get (r := (RX4, TX4, 6)) rfl (by decide) rfl rfl kw_113 dX10_gatherSteps_36) <|
  ms_oc1 rfl (s_iload dX10_gatherSteps_39) <|
  ms_oc1 rfl (s_iaload dX10_gatherSteps_41) <|
  ms_oc1 rfl (s_iload_n rfl dX10_gatherSteps_42) <|
  ms_oc1 rfl (s_icmpne (by decide) dX10_gatherSteps_43) <|
  ms_oc1 rfl (s_aload_n rfl dX10_gatherSteps_46) <|
  ms_oc1 rfl (s_iload_n rfl dX10_gatherSteps_47) <|
  ms_oc1 rfl (s_aload_n rfl dX10_gatherSteps_48) <|
  ms_oc1 rfl (s_get (r := (RX10, TX10, 1)) rfl (by decide) rfl rfl kw_272 dX10_gatherSteps_49) <|
  ms_oc1 rfl (s_iload dX10_gatherSteps_52) <|
  ms_oc1 rfl (s_iaload dX10_gatherSteps_54) <|
  ms_oc1 rfl (s_aload_n rfl dX10_gatherSteps_55) <|
  ms_oc1 rfl (s_invV (r := (RX10, TX10, 1)) rfl rfl kw_662 kw_664 kw_21 kw_84 kw_665 ⟨by decide +kernel, by decide +kernel, by decide +kernel⟩ (by decide) dX10_gatherSteps_56) <|
  ms_oc1 rfl (s_ifne (by decide) dX10_gatherSteps_59) <|
  ms_oc1 rfl (s_iconst dX10_gatherSteps_62 (by decide)) <|
  ms_oc1 rfl (s_iret (b := true) rfl dX10_gatherSteps_63) <|
  ms_oc1 rfl (s_aload_n rfl dX10_gatherSteps_64) <|
  ms_oc1 rfl (s_get (r := (RX4, TX4, 6)) rfl (by decide) rfl rfl kw_118 dX10_gatherSteps_65) <|
  ms_oc1 rfl (s_iload dX10_gatherSteps_68) <|
  ms_oc1 rfl (s_iaload dX10_gatherSteps_70) <|
  ms_oc1 rfl (s_iload_n rfl dX10_gatherSteps_71) <|
  ms_oc1 rfl (s_icmpne (by decide) dX10_gatherSteps_72) <|
  ms_oc1 rfl (s_aload_n rfl dX10_gatherSteps_75) <|
  ms_oc1 rfl (s_iload_n rfl dX10_gatherSteps_76) <|
  ms_oc1 rfl (s_aload_n rfl dX10_gatherSteps_77) <|
  ms_oc1 rfl (s_get (r := (RX10, TX10, 1)) rfl (by decide) rfl rfl kw_272 dX10_gatherSteps_78) <|
  ms_oc1 rfl (s_iload dX10_gatherSteps_81) <|
  ms_oc1 rfl (s_iaload dX10_gatherSteps_83) <|
  ms_oc1 rfl (s_aload_n rfl dX10_gatherSteps_84) <|
  ms_oc1 rfl (s_invV (r := (RX10, TX10, 1)) rfl rfl kw_662 kw_664 kw_21 kw_84 kw_665 ⟨by decide +kernel, by decide +kernel, by decide +kernel⟩ (by decide) dX10_gatherSteps_85) <|
  ms_oc1 rfl (s_ifne (by decide) dX10_gatherSteps_88) <|
  ms_oc1 rfl (s_iconst dX10_gatherSteps_91 (by decide)) <|
  ms_oc1 rfl (s_iret (b := true) rfl dX10_gatherSteps_92) <|
  ms_oc1 rfl (s_iinc (by decide) dX10_gatherSteps_93) <|
  ms_oc1 rfl (s_goto (by decide) dX10_gatherSteps_96) <|
  ms_oc1 rfl (s_iconst dX10_gatherSteps_99 (by decide)) <|
  ms_oc0 (s_iret (b := true) rfl dX10_gatherSteps_100)

def tX10_join (G : ms_G) (Q : ms_Q) (d : Nat) : List (Nat × ms_T) := [(0, (o_ld 0 2)), (1, (o_get 10 0 2)), (4, (o_ld 1 0)), (5, (o_ld 0 2)), (6, (o_get 10 0 2)), (9, (o_ld 1 0)), (10, (o_ald 100 0)), (11, (o_ci (-1))), (12, (o_if2 G Q mX10_join (d + 1) (fun a b => ¬ a = b) 19)), (15, (o_ld 2 0)), (16, (o_go G Q mX10_join (d + 1) 30)), (19, (o_ld 3 2)), (20, (o_ld 0 2)), (21, (o_get 10 0 2)), (24, (o_ld 1 0)), (25, (o_ald 100 0)), (26, (o_ld 2 0)), (27, (o_invV G d mX4_append 4 2 0 0)), (100000, o_go G Q mX10_join (d + 1) 30), (30, (o_ast 100 0 (fun x => x))), (31, (o_ld 0 2)), (32, (o_get 10 0 2)), (35, (o_ld 1 0)), (36, (o_ald 100 0)), (37, (o_ci (-1))), (38, (o_if2 G Q mX10_join (d + 1) (fun a b => a = b) 45)), (41, (o_ci 1)), (42, (o_go G Q mX10_join (d + 1) 46)), (45, (o_ci 0)), (100000, o_go G Q mX10_join (d + 1) 46), (46, (o_ret Q true))]
set_option maxRecDepth 100000 in
set_option maxHeartbeats 4000000 in
theorem kX10_join (G : ms_G) (Q : ms_Q) (d : Nat) : ms_Oc G Q mX10_join (d + 1) (tX10_join G Q d) :=
  ms_oc1 rfl (s_aload_n rfl dX10_join_0) <|
  ms_oc1 rfl (s_get (r := (RX10, TX10, 1)) rfl (by decide) rfl rfl kw_272 dX10_join_1) <|
  ms_oc1 rfl (s_iload_n rfl dX10_join_4) <|
  ms_oc1 rfl (s_aload_n rfl dX10_join_5) <|
  ms_oc1 rfl (s_get (r := (RX10, TX10, 1)) rfl (by decide) rfl rfl kw_272 dX10_join_6) <|
  ms_oc1 rfl (s_iload_n rfl dX10_join_9) <|
  ms_oc1 rfl (s_iaload dX10_join_10) <|
  ms_oc1 rfl (s_iconst dX10_join_11 (by decide)) <|
  ms_oc1 rfl (s_icmpne (by decide) dX10_join_12) <|
  ms_oc1 rfl (s_iload_n rfl dX10_join_15) <|
  ms_oc1 rfl (s_goto (by decide) dX10_join_16) <|
  ms_oc1 rfl (s_aload_n rfl dX10_join_19) <|
  ms_oc1 rfl (s_aload_n rfl dX10_join_20) <|
  ms_oc1 rfl (s_get (r := (RX10, TX10, 1)) rfl (by decide) rfl rfl kw_272 dX10_join_21) <|
  ms_oc1 rfl (s_iload_n rfl dX10_join_24) <|
  ms_oc1 rfl (s_iaload dX10_join_25) <|
  ms_oc1 rfl (s_iload_n rfl dX10_join_26) <|
  ms_occ (s_invV (r := (RX4, TX4, 6)) rfl rfl kw_666 kw_494 kw_495 kw_77 kw_496 ⟨by decide +kernel, by decide +kernel, by decide +kernel⟩ (by decide) dX10_join_27) <|
  ms_oc1 rfl (s_iastore dX10_join_30) <|
  ms_oc1 rfl (s_aload_n rfl dX10_join_31) <|
  ms_oc1 rfl (s_get (r := (RX10, TX10, 1)) rfl (by decide) rfl rfl kw_272 dX10_join_32) <|
  ms_oc1 rfl (s_iload_n rfl dX10_join_35) <|
  ms_oc1 rfl (s_iaload dX10_join_36) <|
  ms_oc1 rfl (s_iconst dX10_join_37 (by decide)) <|
  ms_oc1 rfl (s_icmpeq (by decide) dX10_join_38) <|
  ms_oc1 rfl (s_iconst dX10_join_41 (by decide)) <|
  ms_oc1 rfl (s_goto (by decide) dX10_join_42) <|
  ms_occ (s_iconst dX10_join_45 (by decide)) <|
  ms_oc0 (s_iret (b := true) rfl dX10_join_46)

def tX10_wantBases (G : ms_G) (Q : ms_Q) (d : Nat) : List (Nat × ms_T) := [(0, (o_ci 0)), (1, (o_st 3 0)), (100000, o_go G Q mX10_wantBases (d + 1) 2), (2, (o_ld 3 0)), (3, (o_ld 1 2)), (4, (o_get 4 3 0)), (7, (o_if2 G Q mX10_wantBases (d + 1) (fun a b => b ≤ a) 40)), (10, (o_ld 0 2)), (11, (o_get 10 0 2)), (14, (o_ld 3 0)), (15, (o_ald 100 0)), (16, (o_ci (-1))), (17, (o_if2 G Q mX10_wantBases (d + 1) (fun a b => ¬ a = b) 22)), (20, (o_ci 0)), (21, (o_ret Q true)), (22, (o_ld 2 2)), (23, (o_get 4 2 2)), (26, (o_ld 3 0)), (27, (o_ld 0 2)), (28, (o_get 10 0 2)), (31, (o_ld 3 0)), (32, (o_ald 100 0)), (33, (o_ast 100 0 (fun x => x))), (34, (o_inc 3 1)), (37, (o_go G Q mX10_wantBases (d + 1) 2)), (40, (o_ld 2 2)), (41, (o_ld 1 2)), (42, (o_get 4 3 0)), (45, (o_put 4 5 0)), (48, (o_ci 1)), (49, (o_ret Q true))]
set_option maxRecDepth 100000 in
set_option maxHeartbeats 4000000 in
theorem kX10_wantBases (G : ms_G) (Q : ms_Q) (d : Nat) : ms_Oc G Q mX10_wantBases (d + 1) (tX10_wantBases G Q d) :=
  ms_oc1 rfl (s_iconst dX10_wantBases_0 (by decide)) <|
  ms_occ (s_istore_n rfl (by decide) dX10_wantBases_1) <|
  ms_oc1 rfl (s_iload_n rfl dX10_wantBases_2) <|
  ms_oc1 rfl (s_aload_n rfl dX10_wantBases_3) <|
  ms_oc1 rfl (s_get (r := (RX4, TX4, 6)) rfl (by decide) rfl rfl kw_128 dX10_wantBases_4) <|
  ms_oc1 rfl (s_icmpge (by decide) dX10_wantBases_7) <|
  ms_oc1 rfl (s_aload_n rfl dX10_wantBases_10) <|
  ms_oc1 rfl (s_get (r := (RX10, TX10, 1)) rfl (by decide) rfl rfl kw_272 dX10_wantBases_11) <|
  ms_oc1 rfl (s_iload_n rfl dX10_wantBases_14) <|
  ms_oc1 rfl (s_iaload dX10_wantBases_15) <|
  ms_oc1 rfl (s_iconst dX10_wantBases_16 (by decide)) <|
  ms_oc1 rfl (s_icmpne (by decide) dX10_wantBases_17) <|
  ms_oc1 rfl (s_iconst dX10_wantBases_20 (by decide)) <|
  ms_oc1 rfl (s_iret (b := true) rfl dX10_wantBases_21) <|
  ms_oc1 rfl (s_aload_n rfl dX10_wantBases_22) <|
  ms_oc1 rfl (s_get (r := (RX4, TX4, 6)) rfl (by decide) rfl rfl kw_121 dX10_wantBases_23) <|
  ms_oc1 rfl (s_iload_n rfl dX10_wantBases_26) <|
  ms_oc1 rfl (s_aload_n rfl dX10_wantBases_27) <|
  ms_oc1 rfl (s_get (r := (RX10, TX10, 1)) rfl (by decide) rfl rfl kw_272 dX10_wantBases_28) <|
  ms_oc1 rfl (s_iload_n rfl dX10_wantBases_31) <|
  ms_oc1 rfl (s_iaload dX10_wantBases_32) <|
  ms_oc1 rfl (s_iastore dX10_wantBases_33) <|
  ms_oc1 rfl (s_iinc (by decide) dX10_wantBases_34) <|
  ms_oc1 rfl (s_goto (by decide) dX10_wantBases_37) <|
  ms_oc1 rfl (s_aload_n rfl dX10_wantBases_40) <|
  ms_oc1 rfl (s_aload_n rfl dX10_wantBases_41) <|
  ms_oc1 rfl (s_get (r := (RX4, TX4, 6)) rfl (by decide) rfl rfl kw_128 dX10_wantBases_42) <|
  ms_oc1 rfl (s_put (r := (RX4, TX4, 6)) rfl (by decide) rfl rfl (ms_nar0 rfl) (Or.inl rfl) kw_134 dX10_wantBases_45) <|
  ms_oc1 rfl (s_iconst dX10_wantBases_48 (by decide)) <|
  ms_oc0 (s_iret (b := true) rfl dX10_wantBases_49)

def tJ6_numberOfLeadingZeros_0f7a4 (G : ms_G) (Q : ms_Q) (d : Nat) : List (Nat × ms_T) := [(0, (o_ld 0 0)), (1, (o_if1 G Q mJ6_numberOfLeadingZeros_0f7a4 (d + 1) (fun x => 0 < x) 15)), (4, (o_ld 0 0)), (5, (o_if1 G Q mJ6_numberOfLeadingZeros_0f7a4 (d + 1) (fun x => ¬ x = 0) 13)), (8, (o_ci 32)), (10, (o_go G Q mJ6_numberOfLeadingZeros_0f7a4 (d + 1) 14)), (13, (o_ci 0)), (100000, o_go G Q mJ6_numberOfLeadingZeros_0f7a4 (d + 1) 14), (14, (o_ret Q false)), (15, (o_ci 31)), (17, (o_st 1 0)), (18, (o_ld 0 0)), (19, (o_ci (65536))), (22, (o_if2 G Q mJ6_numberOfLeadingZeros_0f7a4 (d + 1) (fun a b => a < b) 33)), (25, (o_inc 1 (-16))), (28, (o_ld 0 0)), (29, (o_ci 16)), (31, (o_bin wushr)), (32, (o_st 0 0)), (100000, o_go G Q mJ6_numberOfLeadingZeros_0f7a4 (d + 1) 33), (33, (o_ld 0 0)), (34, (o_ci 256)), (37, (o_if2 G Q mJ6_numberOfLeadingZeros_0f7a4 (d + 1) (fun a b => a < b) 48)), (40, (o_inc 1 (-8))), (43, (o_ld 0 0)), (44, (o_ci 8)), (46, (o_bin wushr)), (47, (o_st 0 0)), (100000, o_go G Q mJ6_numberOfLeadingZeros_0f7a4 (d + 1) 48), (48, (o_ld 0 0)), (49, (o_ci 16)), (51, (o_if2 G Q mJ6_numberOfLeadingZeros_0f7a4 (d + 1) (fun a b => a < b) 61)), (54, (o_inc 1 (-4))), (57, (o_ld 0 0)), (58, (o_ci 4)), (59, (o_bin wushr)), (60, (o_st 0 0)), (100000, o_go G Q mJ6_numberOfLeadingZeros_0f7a4 (d + 1) 61), (61, (o_ld 0 0)), (62, (o_ci 4)), (63, (o_if2 G Q mJ6_numberOfLeadingZeros_0f7a4 (d + 1) (fun a b => a < b) 73)), (66, (o_inc 1 (-2))), (69, (o_ld 0 0)), (70, (o_ci 2)), (71, (o_bin wushr)), (72, (o_st 0 0)), (100000, o_go G Q mJ6_numberOfLeadingZeros_0f7a4 (d + 1) 73), (73, (o_ld 1 0)), (74, (o_ld 0 0)), (75, (o_ci 1)), (76, (o_bin wushr)), (77, (o_bin (fun a b => w32 (a - b)))), (78, (o_ret Q false))]
set_option maxRecDepth 100000 in
set_option maxHeartbeats 4000000 in
theorem kJ6_numberOfLeadingZeros_0f7a4 (G : ms_G) (Q : ms_Q) (d : Nat) : ms_Oc G Q mJ6_numberOfLeadingZeros_0f7a4 (d + 1) (tJ6_numberOfLeadingZeros_0f7a4 G Q d) :=
  ms_oc1 rfl (s_iload_n rfl dJ6_numberOfLeadingZeros_0f7a4_0) <|
  ms_oc1 rfl (s_ifgt (by decide) dJ6_numberOfLeadingZeros_0f7a4_1) <|
  ms_oc1 rfl (s_iload_n rfl dJ6_numberOfLeadingZeros_0f7a4_4) <|
  ms_oc1 rfl (s_ifne (by decide) dJ6_numberOfLeadingZeros_0f7a4_5) <|
  ms_oc1 rfl (s_bipush dJ6_numberOfLeadingZeros_0f7a4_8 (by decide) (by decide)) <|
  ms_oc1 rfl (s_goto (by decide) dJ6_numberOfLeadingZeros_0f7a4_10) <|
  ms_occ (s_iconst dJ6_numberOfLeadingZeros_0f7a4_13 (by decide)) <|
  ms_oc1 rfl (s_iret (b := false) rfl dJ6_numberOfLeadingZeros_0f7a4_14) <|
  ms_oc1 rfl (s_bipush dJ6_numberOfLeadingZeros_0f7a4_15 (by decide) (by decide)) <|
  ms_oc1 rfl (s_istore_n rfl (by decide) dJ6_numberOfLeadingZeros_0f7a4_17) <|
  ms_oc1 rfl (s_iload_n rfl dJ6_numberOfLeadingZeros_0f7a4_18) <|
  ms_oc1 rfl (s_ldcw dJ6_numberOfLeadingZeros_0f7a4_19 kw_516 (by decide) (by decide)) <|
  ms_oc1 rfl (s_icmplt (by decide) dJ6_numberOfLeadingZeros_0f7a4_22) <|
  ms_oc1 rfl (s_iinc (by decide) dJ6_numberOfLeadingZeros_0f7a4_25) <|
  ms_oc1 rfl (s_iload_n rfl dJ6_numberOfLeadingZeros_0f7a4_28) <|
  ms_oc1 rfl (s_bipush dJ6_numberOfLeadingZeros_0f7a4_29 (by decide) (by decide)) <|
  ms_oc1 rfl (s_iushr dJ6_numberOfLeadingZeros_0f7a4_31) <|
  ms_occ (s_istore_n rfl (by decide) dJ6_numberOfLeadingZeros_0f7a4_32) <|
  ms_oc1 rfl (s_iload_n rfl dJ6_numberOfLeadingZeros_0f7a4_33) <|
  ms_oc1 rfl (s_sipush dJ6_numberOfLeadingZeros_0f7a4_34 (by decide) (by decide)) <|
  ms_oc1 rfl (s_icmplt (by decide) dJ6_numberOfLeadingZeros_0f7a4_37) <|
  ms_oc1 rfl (s_iinc (by decide) dJ6_numberOfLeadingZeros_0f7a4_40) <|
  ms_oc1 rfl (s_iload_n rfl dJ6_numberOfLeadingZeros_0f7a4_43) <|
  ms_oc1 rfl (s_bipush dJ6_numberOfLeadingZeros_0f7a4_44 (by decide) (by decide)) <|
  ms_oc1 rfl (s_iushr dJ6_numberOfLeadingZeros_0f7a4_46) <|
  ms_occ (s_istore_n rfl (by decide) dJ6_numberOfLeadingZeros_0f7a4_47) <|
  ms_oc1 rfl (s_iload_n rfl dJ6_numberOfLeadingZeros_0f7a4_48) <|
  ms_oc1 rfl (s_bipush dJ6_numberOfLeadingZeros_0f7a4_49 (by decide) (by decide)) <|
  ms_oc1 rfl (s_icmplt (by decide) dJ6_numberOfLeadingZeros_0f7a4_51) <|
  ms_oc1 rfl (s_iinc (by decide) dJ6_numberOfLeadingZeros_0f7a4_54) <|
  ms_oc1 rfl (s_iload_n rfl dJ6_numberOfLeadingZeros_0f7a4_57) <|
  ms_oc1 rfl (s_iconst dJ6_numberOfLeadingZeros_0f7a4_58 (by decide)) <|
  ms_oc1 rfl (s_iushr dJ6_numberOfLeadingZeros_0f7a4_59) <|
  ms_occ (s_istore_n rfl (by decide) dJ6_numberOfLeadingZeros_0f7a4_60) <|
  ms_oc1 rfl (s_iload_n rfl dJ6_numberOfLeadingZeros_0f7a4_61) <|
  ms_oc1 rfl (s_iconst dJ6_numberOfLeadingZeros_0f7a4_62 (by decide)) <|
  ms_oc1 rfl (s_icmplt (by decide) dJ6_numberOfLeadingZeros_0f7a4_63) <|
  ms_oc1 rfl (s_iinc (by decide) dJ6_numberOfLeadingZeros_0f7a4_66) <|
  ms_oc1 rfl (s_iload_n rfl dJ6_numberOfLeadingZeros_0f7a4_69) <|
  ms_oc1 rfl (s_iconst dJ6_numberOfLeadingZeros_0f7a4_70 (by decide)) <|
  ms_oc1 rfl (s_iushr dJ6_numberOfLeadingZeros_0f7a4_71) <|
  ms_occ (s_istore_n rfl (by decide) dJ6_numberOfLeadingZeros_0f7a4_72) <|
  ms_oc1 rfl (s_iload_n rfl dJ6_numberOfLeadingZeros_0f7a4_73) <|
  ms_oc1 rfl (s_iload_n rfl dJ6_numberOfLeadingZeros_0f7a4_74) <|
  ms_oc1 rfl (s_iconst dJ6_numberOfLeadingZeros_0f7a4_75 (by decide)) <|
  ms_oc1 rfl (s_iushr dJ6_numberOfLeadingZeros_0f7a4_76) <|
  ms_oc1 rfl (s_isub dJ6_numberOfLeadingZeros_0f7a4_77) <|
  ms_oc0 (s_iret (b := false) rfl dJ6_numberOfLeadingZeros_0f7a4_78)

def tJ6_bitCount_0f7a4 (G : ms_G) (Q : ms_Q) (d : Nat) : List (Nat × ms_T) := [(0, (o_ld 0 0)), (1, (o_ld 0 0)), (2, (o_ci 1)), (3, (o_bin wushr)), (4, (o_ci (1431655765))), (7, (o_bin wand)), (8, (o_bin (fun a b => w32 (a - b)))), (9, (o_st 0 0)), (10, (o_ld 0 0)), (11, (o_ci (858993459))), (14, (o_bin wand)), (15, (o_ld 0 0)), (16, (o_ci 2)), (17, (o_bin wushr)), (18, (o_ci (858993459))), (21, (o_bin wand)), (22, (o_bin (fun a b => w32 (a + b)))), (23, (o_st 0 0)), (24, (o_ld 0 0)), (25, (o_ld 0 0)), (26, (o_ci 4)), (27, (o_bin wushr)), (28, (o_bin (fun a b => w32 (a + b)))), (29, (o_ci (252645135))), (32, (o_bin wand)), (33, (o_st 0 0)), (34, (o_ld 0 0)), (35, (o_ld 0 0)), (36, (o_ci 8)), (38, (o_bin wushr)), (39, (o_bin (fun a b => w32 (a + b)))), (40, (o_st 0 0)), (41, (o_ld 0 0)), (42, (o_ld 0 0)), (43, (o_ci 16)), (45, (o_bin wushr)), (46, (o_bin (fun a b => w32 (a + b)))), (47, (o_st 0 0)), (48, (o_ld 0 0)), (49, (o_ci 63)), (51, (o_bin wand)), (52, (o_ret Q false))]
set_option maxRecDepth 100000 in
set_option maxHeartbeats 4000000 in
theorem kJ6_bitCount_0f7a4 (G : ms_G) (Q : ms_Q) (d : Nat) : ms_Oc G Q mJ6_bitCount_0f7a4 (d + 1) (tJ6_bitCount_0f7a4 G Q d) :=
  ms_oc1 rfl (s_iload_n rfl dJ6_bitCount_0f7a4_0) <|
  ms_oc1 rfl (s_iload_n rfl dJ6_bitCount_0f7a4_1) <|
  ms_oc1 rfl (s_iconst dJ6_bitCount_0f7a4_2 (by decide)) <|
  ms_oc1 rfl (s_iushr dJ6_bitCount_0f7a4_3) <|
  ms_oc1 rfl (s_ldcw dJ6_bitCount_0f7a4_4 kw_520 (by decide) (by decide)) <|
  ms_oc1 rfl (s_iand dJ6_bitCount_0f7a4_7) <|
  ms_oc1 rfl (s_isub dJ6_bitCount_0f7a4_8) <|
  ms_oc1 rfl (s_istore_n rfl (by decide) dJ6_bitCount_0f7a4_9) <|
  ms_oc1 rfl (s_iload_n rfl dJ6_bitCount_0f7a4_10) <|
  ms_oc1 rfl (s_ldcw dJ6_bitCount_0f7a4_11 kw_521 (by decide) (by decide)) <|
  ms_oc1 rfl (s_iand dJ6_bitCount_0f7a4_14) <|
  ms_oc1 rfl (s_iload_n rfl dJ6_bitCount_0f7a4_15) <|
  ms_oc1 rfl (s_iconst dJ6_bitCount_0f7a4_16 (by decide)) <|
  ms_oc1 rfl (s_iushr dJ6_bitCount_0f7a4_17) <|
  ms_oc1 rfl (s_ldcw dJ6_bitCount_0f7a4_18 kw_521 (by decide) (by decide)) <|
  ms_oc1 rfl (s_iand dJ6_bitCount_0f7a4_21) <|
  ms_oc1 rfl (s_iadd dJ6_bitCount_0f7a4_22) <|
  ms_oc1 rfl (s_istore_n rfl (by decide) dJ6_bitCount_0f7a4_23) <|
  ms_oc1 rfl (s_iload_n rfl dJ6_bitCount_0f7a4_24) <|
  ms_oc1 rfl (s_iload_n rfl dJ6_bitCount_0f7a4_25) <|
  ms_oc1 rfl (s_iconst dJ6_bitCount_0f7a4_26 (by decide)) <|
  ms_oc1 rfl (s_iushr dJ6_bitCount_0f7a4_27) <|
  ms_oc1 rfl (s_iadd dJ6_bitCount_0f7a4_28) <|
  ms_oc1 rfl (s_ldcw dJ6_bitCount_0f7a4_29 kw_522 (by decide) (by decide)) <|
  ms_oc1 rfl (s_iand dJ6_bitCount_0f7a4_32) <|
  ms_oc1 rfl (s_istore_n rfl (by decide) dJ6_bitCount_0f7a4_33) <|
  ms_oc1 rfl (s_iload_n rfl dJ6_bitCount_0f7a4_34) <|
  ms_oc1 rfl (s_iload_n rfl dJ6_bitCount_0f7a4_35) <|
  ms_oc1 rfl (s_bipush dJ6_bitCount_0f7a4_36 (by decide) (by decide)) <|
  ms_oc1 rfl (s_iushr dJ6_bitCount_0f7a4_38) <|
  ms_oc1 rfl (s_iadd dJ6_bitCount_0f7a4_39) <|
  ms_oc1 rfl (s_istore_n rfl (by decide) dJ6_bitCount_0f7a4_40) <|
  ms_oc1 rfl (s_iload_n rfl dJ6_bitCount_0f7a4_41) <|
  ms_oc1 rfl (s_iload_n rfl dJ6_bitCount_0f7a4_42) <|
  ms_oc1 rfl (s_bipush dJ6_bitCount_0f7a4_43 (by decide) (by decide)) <|
  ms_oc1 rfl (s_iushr dJ6_bitCount_0f7a4_45) <|
  ms_oc1 rfl (s_iadd dJ6_bitCount_0f7a4_46) <|
  ms_oc1 rfl (s_istore_n rfl (by decide) dJ6_bitCount_0f7a4_47) <|
  ms_oc1 rfl (s_iload_n rfl dJ6_bitCount_0f7a4_48) <|
  ms_oc1 rfl (s_bipush dJ6_bitCount_0f7a4_49 (by decide) (by decide)) <|
  ms_oc1 rfl (s_iand dJ6_bitCount_0f7a4_51) <|
  ms_oc0 (s_iret (b := false) rfl dJ6_bitCount_0f7a4_52)

def tJ9_floorMod_7cf53 (G : ms_G) (Q : ms_Q) (d : Nat) : List (Nat × ms_T) := [(0, (o_ld 0 0)), (1, (o_ld 1 0)), (2, (o_dv wrem)), (3, (o_st 2 0)), (4, (o_ld 0 0)), (5, (o_ld 1 0)), (6, (o_bin wxor)), (7, (o_if1 G Q mJ9_floorMod_7cf53 (d + 1) (fun x => 0 ≤ x) 18)), (10, (o_ld 2 0)), (11, (o_if1 G Q mJ9_floorMod_7cf53 (d + 1) (fun x => x = 0) 18)), (14, (o_ld 2 0)), (15, (o_ld 1 0)), (16, (o_bin (fun a b => w32 (a + b)))), (17, (o_ret Q false)), (18, (o_ld 2 0)), (19, (o_ret Q false))]
set_option maxRecDepth 100000 in
set_option maxHeartbeats 4000000 in
theorem kJ9_floorMod_7cf53 (G : ms_G) (Q : ms_Q) (d : Nat) : ms_Oc G Q mJ9_floorMod_7cf53 (d + 1) (tJ9_floorMod_7cf53 G Q d) :=
  ms_oc1 rfl (s_iload_n rfl dJ9_floorMod_7cf53_0) <|
  ms_oc1 rfl (s_iload_n rfl dJ9_floorMod_7cf53_1) <|
  ms_oc1 rfl (s_irem dJ9_floorMod_7cf53_2) <|
  ms_oc1 rfl (s_istore_n rfl (by decide) dJ9_floorMod_7cf53_3) <|
  ms_oc1 rfl (s_iload_n rfl dJ9_floorMod_7cf53_4) <|
  ms_oc1 rfl (s_iload_n rfl dJ9_floorMod_7cf53_5) <|
  ms_oc1 rfl (s_ixor dJ9_floorMod_7cf53_6) <|
  ms_oc1 rfl (s_ifge (by decide) dJ9_floorMod_7cf53_7) <|
  ms_oc1 rfl (s_iload_n rfl dJ9_floorMod_7cf53_10) <|
  ms_oc1 rfl (s_ifeq (by decide) dJ9_floorMod_7cf53_11) <|
  ms_oc1 rfl (s_iload_n rfl dJ9_floorMod_7cf53_14) <|
  ms_oc1 rfl (s_iload_n rfl dJ9_floorMod_7cf53_15) <|
  ms_oc1 rfl (s_iadd dJ9_floorMod_7cf53_16) <|
  ms_oc1 rfl (s_iret (b := false) rfl dJ9_floorMod_7cf53_17) <|
  ms_oc1 rfl (s_iload_n rfl dJ9_floorMod_7cf53_18) <|
  ms_oc0 (s_iret (b := false) rfl dJ9_floorMod_7cf53_19)

def tJ9_max_7cf53 (G : ms_G) (Q : ms_Q) (d : Nat) : List (Nat × ms_T) := [(0, (o_ld 0 0)), (1, (o_ld 1 0)), (2, (o_if2 G Q mJ9_max_7cf53 (d + 1) (fun a b => a < b) 9)), (5, (o_ld 0 0)), (6, (o_go G Q mJ9_max_7cf53 (d + 1) 10)), (9, (o_ld 1 0)), (100000, o_go G Q mJ9_max_7cf53 (d + 1) 10), (10, (o_ret Q false))]
set_option maxRecDepth 100000 in
set_option maxHeartbeats 4000000 in
theorem kJ9_max_7cf53 (G : ms_G) (Q : ms_Q) (d : Nat) : ms_Oc G Q mJ9_max_7cf53 (d + 1) (tJ9_max_7cf53 G Q d) :=
  ms_oc1 rfl (s_iload_n rfl dJ9_max_7cf53_0) <|
  ms_oc1 rfl (s_iload_n rfl dJ9_max_7cf53_1) <|
  ms_oc1 rfl (s_icmplt (by decide) dJ9_max_7cf53_2) <|
  ms_oc1 rfl (s_iload_n rfl dJ9_max_7cf53_5) <|
  ms_oc1 rfl (s_goto (by decide) dJ9_max_7cf53_6) <|
  ms_occ (s_iload_n rfl dJ9_max_7cf53_9) <|
  ms_oc0 (s_iret (b := false) rfl dJ9_max_7cf53_10)

def tJ9_min_7cf53 (G : ms_G) (Q : ms_Q) (d : Nat) : List (Nat × ms_T) := [(0, (o_ld 0 0)), (1, (o_ld 1 0)), (2, (o_if2 G Q mJ9_min_7cf53 (d + 1) (fun a b => b < a) 9)), (5, (o_ld 0 0)), (6, (o_go G Q mJ9_min_7cf53 (d + 1) 10)), (9, (o_ld 1 0)), (100000, o_go G Q mJ9_min_7cf53 (d + 1) 10), (10, (o_ret Q false))]
set_option maxRecDepth 100000 in
set_option maxHeartbeats 4000000 in
theorem kJ9_min_7cf53 (G : ms_G) (Q : ms_Q) (d : Nat) : ms_Oc G Q mJ9_min_7cf53 (d + 1) (tJ9_min_7cf53 G Q d) :=
  ms_oc1 rfl (s_iload_n rfl dJ9_min_7cf53_0) <|
  ms_oc1 rfl (s_iload_n rfl dJ9_min_7cf53_1) <|
  ms_oc1 rfl (s_icmpgt (by decide) dJ9_min_7cf53_2) <|
  ms_oc1 rfl (s_iload_n rfl dJ9_min_7cf53_5) <|
  ms_oc1 rfl (s_goto (by decide) dJ9_min_7cf53_6) <|
  ms_occ (s_iload_n rfl dJ9_min_7cf53_9) <|
  ms_oc0 (s_iret (b := false) rfl dJ9_min_7cf53_10)
