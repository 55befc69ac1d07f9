def tX11_init (G : ms_G) (Q : ms_Q) (d : Nat) : List (Nat × ms_T) := [(0, (o_ld 0 2)), (1, o_oi), (4, (o_ld 0 2)), (5, (o_new 4 6)), (8, o_dup), (9, (o_invV G d mX4_init 4 0 3 132)), (12, (o_put 11 0 2)), (15, (o_ld 0 2)), (16, (o_new 4 6)), (19, o_dup), (20, (o_invV G d mX4_init 4 0 3 132)), (23, (o_put 11 1 2)), (26, (o_ld 0 2)), (27, (o_new 4 6)), (30, o_dup), (31, (o_invV G d mX4_init 4 0 3 132)), (34, (o_put 11 2 2)), (37, (o_ld 0 2)), (38, (o_ci 3)), (39, o_anew), (42, (o_put 11 3 2)), (45, (o_ld 0 2)), (46, (o_ci 3)), (47, (o_newa 103)), (49, (o_put 11 4 2)), (52, (o_ld 0 2)), (53, (o_new 3 3)), (56, o_dup), (57, (o_invV G d mX3_init 3 0 49 1668)), (60, (o_put 11 5 2)), (63, (o_ld 0 2)), (64, (o_new 6 2)), (67, o_dup), (68, (o_invV G d mX6_init 6 0 2 128)), (71, (o_put 11 6 2)), (74, (o_ld 0 2)), (75, (o_new 2 1)), (78, o_dup), (79, (o_invV G d mX2_init 2 0 1 256)), (82, (o_put 11 7 2)), (85, (o_ld 0 2)), (86, (o_new 2 1)), (89, o_dup), (90, (o_invV G d mX2_init 2 0 1 256)), (93, (o_put 11 8 2)), (96, (o_ld 0 2)), (97, (o_ci 64)), (99, (o_newa 100)), (101, (o_put 11 9 2)), (104, (o_ld 0 2)), (105, (o_ci 64)), (107, (o_newa 100)), (109, (o_put 11 10 2)), (112, (o_ld 0 2)), (113, (o_new 7 2)), (116, o_dup), (117, (o_invV G d mX7_init 7 0 1 500)), (120, (o_put 11 11 2)), (123, (o_ld 0 2)), (124, (o_new 8 4)), (127, o_dup), (128, (o_invV G d mX8_init 8 0 4 327)), (131, (o_put 11 12 2)), (134, (o_ld 0 2)), (135, (o_new 10 1)), (138, o_dup), (139, (o_invV G d mX10_init 10 0 1 64)), (142, (o_put 11 13 2)), (145, (o_ld 0 2)), (146, (o_new 1 4)), (149, o_dup), (150, (o_invV G d mX1_init 1 0 3 126)), (153, (o_put 11 14 2)), (156, (o_ld 0 2)), (157, (o_new 0 2)), (160, o_dup), (161, (o_invV G d mX0_init 0 0 1 64)), (164, (o_put 11 15 2)), (167, (o_ld 0 2)), (168, (o_new 5 6)), (171, o_dup), (172, (o_invV G d mX5_init 5 0 1 21)), (175, (o_put 11 16 2)), (178, (o_ci 0)), (179, (o_st 1 0)), (100000, o_go G Q mX11_init (d + 1) 180), (180, (o_ld 1 0)), (181, (o_ci 3)), (182, (o_if2 G Q mX11_init (d + 1) (fun a b => b ≤ a) 204)), (185, (o_ld 0 2)), (186, (o_get 11 3 2)), (189, (o_ld 1 0)), (190, (o_new 4 6)), (193, o_dup), (194, (o_invV G d mX4_init 4 0 3 132)), (197, o_aast), (198, (o_inc 1 1)), (201, (o_go G Q mX11_init (d + 1) 180)), (204, (o_vret Q))]
set_option maxRecDepth 100000 in
set_option maxHeartbeats 4000000 in
theorem kX11_init (G : ms_G) (Q : ms_Q) (d : Nat) : ms_Oc G Q mX11_init (d + 1) (tX11_init G Q d) :=
  ms_oc1 rfl (s_aload_n rfl dX11_init_0) <|
  ms_oc1 rfl (s_oi kw_101 kw_102 kw_103 dX11_init_1) <|
  ms_oc1 rfl (s_aload_n rfl dX11_init_4) <|
  ms_oc1 rfl (s_new (r := (RX4, TX4, 6)) rfl rfl (by decide) kw_104 kw_105 kw_77 dX11_init_5) <|
  ms_oc1 rfl (s_dup dX11_init_8) <|
  ms_oc1 rfl (s_invIN (by decide) rfl rfl kw_106 kw_107 kw_77 kw_108 ⟨by decide +kernel, by decide +kernel, by decide +kernel⟩ (by decide) dX11_init_9) <|
  ms_oc1 rfl (s_put (r := (RX11, TX11, 17)) rfl (by decide) rfl rfl (ms_nar2 (fun r => by cases r <;> exact ⟨rfl, rfl⟩)) (Or.inr ⟨rfl, rfl⟩) kw_338 dX11_init_12) <|
  ms_oc1 rfl (s_aload_n rfl dX11_init_15) <|
  ms_oc1 rfl (s_new (r := (RX4, TX4, 6)) rfl rfl (by decide) kw_104 kw_105 kw_77 dX11_init_16) <|
  ms_oc1 rfl (s_dup dX11_init_19) <|
  ms_oc1 rfl (s_invIN (by decide) rfl rfl kw_106 kw_107 kw_77 kw_108 ⟨by decide +kernel, by decide +kernel, by decide +kernel⟩ (by decide) dX11_init_20) <|
  ms_oc1 rfl (s_put (r := (RX11, TX11, 17)) rfl (by decide) rfl rfl (ms_nar2 (fun r => by cases r <;> exact ⟨rfl, rfl⟩)) (Or.inr ⟨rfl, rfl⟩) kw_339 dX11_init_23) <|
  ms_oc1 rfl (s_aload_n rfl dX11_init_26) <|
  ms_oc1 rfl (s_new (r := (RX4, TX4, 6)) rfl rfl (by decide) kw_104 kw_105 kw_77 dX11_init_27) <|
  ms_oc1 rfl (s_dup dX11_init_30) <|
  ms_oc1 rfl (s_invIN (by decide) rfl rfl kw_106 kw_107 kw_77 kw_108 ⟨by decide +kernel, by decide +kernel, by decide +kernel⟩ (by decide) dX11_init_31) <|
  ms_oc1 rfl (s_put (r := (RX11, TX11, 17)) rfl (by decide) rfl rfl (ms_nar2 (fun r => by cases r <;> exact ⟨rfl, rfl⟩)) (Or.inr ⟨rfl, rfl⟩) kw_340 dX11_init_34) <|
  ms_oc1 rfl (s_aload_n rfl dX11_init_37) <|
  ms_oc1 rfl (s_iconst dX11_init_38 (by decide)) <|
  ms_oc1 rfl (s_anew kw_104 dX11_init_39) <|
  ms_oc1 rfl (s_put (r := (RX11, TX11, 17)) rfl (by decide) rfl rfl (ms_nar2 (fun r => by cases r <;> exact ⟨rfl, rfl⟩)) (Or.inr ⟨rfl, rfl⟩) kw_341 dX11_init_42) <|
  ms_oc1 rfl (s_aload_n rfl dX11_init_45) <|
  ms_oc1 rfl (s_iconst dX11_init_46 (by decide)) <|
  ms_oc1 rfl (s_newa (ty := .boolean) rfl kw_174 dX11_init_47 (Or.inr (Or.inr (Or.inr ⟨rfl, rfl⟩)))) <|
  ms_oc1 rfl (s_put (r := (RX11, TX11, 17)) rfl (by decide) rfl rfl (ms_nar2 (fun r => by cases r <;> exact ⟨rfl, rfl⟩)) (Or.inr ⟨rfl, rfl⟩) kw_342 dX11_init_49) <|
  ms_oc1 rfl (s_aload_n rfl dX11_init_52) <|
  ms_oc1 rfl (s_new (r := (RX3, TX3, 3)) rfl rfl (by decide) kw_155 kw_156 kw_78 dX11_init_53) <|
  ms_oc1 rfl (s_dup dX11_init_56) <|
  ms_oc1 rfl (s_invI (by decide) rfl rfl kw_157 kw_158 kw_78 kw_159 ⟨by decide +kernel, by decide +kernel, by decide +kernel⟩ (by decide) dX11_init_57) <|
  ms_oc1 rfl (s_put (r := (RX11, TX11, 17)) rfl (by decide) rfl rfl (ms_nar2 (fun r => by cases r <;> exact ⟨rfl, rfl⟩)) (Or.inr ⟨rfl, rfl⟩) kw_343 dX11_init_60) <|
  ms_oc1 rfl (s_aload_n rfl dX11_init_63) <|
  ms_oc1 rfl (s_new (r := (RX6, TX6, 2)) rfl rfl (by decide) kw_175 kw_176 kw_79 dX11_init_64) <|
  ms_oc1 rfl (s_dup dX11_init_67) <|
  ms_oc1 rfl (s_invIN (by decide) rfl rfl kw_177 kw_178 kw_79 kw_179 ⟨by decide +kernel, by decide +kernel, by decide +kernel⟩ (by decide) dX11_init_68) <|
  ms_oc1 rfl (s_put (r := (RX11, TX11, 17)) rfl (by decide) rfl rfl (ms_nar2 (fun r => by cases r <;> exact ⟨rfl, rfl⟩)) (Or.inr ⟨rfl, rfl⟩) kw_344 dX11_init_71) <|
  ms_oc1 rfl (s_aload_n rfl dX11_init_74) <|
  ms_oc1 rfl (s_new (r := (RX2, TX2, 1)) rfl rfl (by decide) kw_190 kw_191 kw_80 dX11_init_75) <|
  ms_oc1 rfl (s_dup dX11_init_78) <|
  ms_oc1 rfl (s_invIN (by decide) rfl rfl kw_192 kw_193 kw_80 kw_194 ⟨by decide +kernel, by decide +kernel, by decide +kernel⟩ (by decide) dX11_init_79) <|
  ms_oc1 rfl (s_put (r := (RX11, TX11, 17)) rfl (by decide) rfl rfl (ms_nar2 (fun r => by cases r <;> exact ⟨rfl, rfl⟩)) (Or.inr ⟨rfl, rfl⟩) kw_345 dX11_init_82) <|
  ms_oc1 rfl (s_aload_n rfl dX11_init_85) <|
  ms_oc1 rfl (s_new (r := (RX2, TX2, 1)) rfl rfl (by decide) kw_190 kw_191 kw_80 dX11_init_86) <|
  ms_oc1 rfl (s_dup dX11_init_89) <|
  ms_oc1 rfl (s_invIN (by decide) rfl rfl kw_192 kw_193 kw_80 kw_194 ⟨by decide +kernel, by decide +kernel, by decide +kernel⟩ (by decide) dX11_init_90) <|
  ms_oc1 rfl (s_put (r := (RX11, TX11, 17)) rfl (by decide) rfl rfl (ms_nar2 (fun r => by cases r <;> exact ⟨rfl, rfl⟩)) (Or.inr ⟨rfl, rfl⟩) kw_346 dX11_init_93) <|
  ms_oc1 rfl (s_aload_n rfl dX11_init_96) <|
  ms_oc1 rfl (s_bipush dX11_init_97 (by decide) (by decide)) <|
  ms_oc1 rfl (s_newa (ty := .int) rfl kw_153 dX11_init_99 (Or.inl ⟨rfl, rfl⟩)) <|
  ms_oc1 rfl (s_put (r := (RX11, TX11, 17)) rfl (by decide) rfl rfl (ms_nar2 (fun r => by cases r <;> exact ⟨rfl, rfl⟩)) (Or.inr ⟨rfl, rfl⟩) kw_347 dX11_init_101) <|
  ms_oc1 rfl (s_aload_n rfl dX11_init_104) <|
  ms_oc1 rfl (s_bipush dX11_init_105 (by decide) (by decide)) <|
  ms_oc1 rfl (s_newa (ty := .int) rfl kw_153 dX11_init_107 (Or.inl ⟨rfl, rfl⟩)) <|
  ms_oc1 rfl (s_put (r := (RX11, TX11, 17)) rfl (by decide) rfl rfl (ms_nar2 (fun r => by cases r <;> exact ⟨rfl, rfl⟩)) (Or.inr ⟨rfl, rfl⟩) kw_348 dX11_init_109) <|
  ms_oc1 rfl (s_aload_n rfl dX11_init_112) <|
  ms_oc1 rfl (s_new (r := (RX7, TX7, 2)) rfl rfl (by decide) kw_201 kw_202 kw_81 dX11_init_113) <|
  ms_oc1 rfl (s_dup dX11_init_116) <|
  ms_oc1 rfl (s_invIN (by decide) rfl rfl kw_203 kw_204 kw_81 kw_205 ⟨by decide +kernel, by decide +kernel, by decide +kernel⟩ (by decide) dX11_init_117) <|
  ms_oc1 rfl (s_put (r := (RX11, TX11, 17)) rfl (by decide) rfl rfl (ms_nar2 (fun r => by cases r <;> exact ⟨rfl, rfl⟩)) (Or.inr ⟨rfl, rfl⟩) kw_349 dX11_init_120) <|
  ms_oc1 rfl (s_aload_n rfl dX11_init_123) <|
  ms_oc1 rfl (s_new (r := (RX8, TX8, 4)) rfl rfl (by decide) kw_217 kw_218 kw_82 dX11_init_124) <|
  ms_oc1 rfl (s_dup dX11_init_127) <|
  ms_oc1 rfl (s_invIN (by decide) rfl rfl kw_219 kw_220 kw_82 kw_221 ⟨by decide +kernel, by decide +kernel, by decide +kernel⟩ (by decide) dX11_init_128) <|
  ms_oc1 rfl (s_put (r := (RX11, TX11, 17)) rfl (by decide) rfl rfl (ms_nar2 (fun r => by cases r <;> exact ⟨rfl, rfl⟩)) (Or.inr ⟨rfl, rfl⟩) kw_350 dX11_init_131) <|
  ms_oc1 rfl (s_aload_n rfl dX11_init_134) <|
  ms_oc1 rfl (s_new (r := (RX10, TX10, 1)) rfl rfl (by decide) kw_266 kw_267 kw_84 dX11_init_135) <|
  ms_oc1 rfl (s_dup dX11_init_138) <|
  ms_oc1 rfl (s_invIN (by decide) rfl rfl kw_268 kw_269 kw_84 kw_270 ⟨by decide +kernel, by decide +kernel, by decide +kernel⟩ (by decide) dX11_init_139) <|
  ms_oc1 rfl (s_put (r := (RX11, TX11, 17)) rfl (by decide) rfl rfl (ms_nar2 (fun r => by cases r <;> exact ⟨rfl, rfl⟩)) (Or.inr ⟨rfl, rfl⟩) kw_351 dX11_init_142) <|
  ms_oc1 rfl (s_aload_n rfl dX11_init_145) <|
  ms_oc1 rfl (s_new (r := (RX1, TX1, 4)) rfl rfl (by decide) kw_276 kw_277 kw_85 dX11_init_146) <|
  ms_oc1 rfl (s_dup dX11_init_149) <|
  ms_oc1 rfl (s_invIN (by decide) rfl rfl kw_278 kw_279 kw_85 kw_280 ⟨by decide +kernel, by decide +kernel, by decide +kernel⟩ (by decide) dX11_init_150) <|
  ms_oc1 rfl (s_put (r := (RX11, TX11, 17)) rfl (by decide) rfl rfl (ms_nar2 (fun r => by cases r <;> exact ⟨rfl, rfl⟩)) (Or.inr ⟨rfl, rfl⟩) kw_352 dX11_init_153) <|
  ms_oc1 rfl (s_aload_n rfl dX11_init_156) <|
  ms_oc1 rfl (s_new (r := (RX0, TX0, 2)) rfl rfl (by decide) kw_295 kw_296 kw_86 dX11_init_157) <|
  ms_oc1 rfl (s_dup dX11_init_160) <|
  ms_oc1 rfl (s_invIN (by decide) rfl rfl kw_297 kw_298 kw_86 kw_299 ⟨by decide +kernel, by decide +kernel, by decide +kernel⟩ (by decide) dX11_init_161) <|
  ms_oc1 rfl (s_put (r := (RX11, TX11, 17)) rfl (by decide) rfl rfl (ms_nar2 (fun r => by cases r <;> exact ⟨rfl, rfl⟩)) (Or.inr ⟨rfl, rfl⟩) kw_353 dX11_init_164) <|
  ms_oc1 rfl (s_aload_n rfl dX11_init_167) <|
  ms_oc1 rfl (s_new (r := (RX5, TX5, 6)) rfl rfl (by decide) kw_310 kw_311 kw_87 dX11_init_168) <|
  ms_oc1 rfl (s_dup dX11_init_171) <|
  ms_oc1 rfl (s_invIN (by decide) rfl rfl kw_312 kw_313 kw_87 kw_314 ⟨by decide +kernel, by decide +kernel, by decide +kernel⟩ (by decide) dX11_init_172) <|
  ms_oc1 rfl (s_put (r := (RX11, TX11, 17)) rfl (by decide) rfl rfl (ms_nar2 (fun r => by cases r <;> exact ⟨rfl, rfl⟩)) (Or.inr ⟨rfl, rfl⟩) kw_354 dX11_init_175) <|
  ms_oc1 rfl (s_iconst dX11_init_178 (by decide)) <|
  ms_occ (s_istore_n rfl (by decide) dX11_init_179) <|
  ms_oc1 rfl (s_iload_n rfl dX11_init_180) <|
  ms_oc1 rfl (s_iconst dX11_init_181 (by decide)) <|
  ms_oc1 rfl (s_icmpge (by decide) dX11_init_182) <|
  ms_oc1 rfl (s_aload_n rfl dX11_init_185) <|
  ms_oc1 rfl (s_get (r := (RX11, TX11, 17)) rfl (by decide) rfl rfl kw_341 dX11_init_186) <|
  ms_oc1 rfl (s_iload_n rfl dX11_init_189) <|
  ms_oc1 rfl (s_new (r := (RX4, TX4, 6)) rfl rfl (by decide) kw_104 kw_105 kw_77 dX11_init_190) <|
  ms_oc1 rfl (s_dup dX11_init_193) <|
  ms_oc1 rfl (s_invIN (by decide) rfl rfl kw_106 kw_107 kw_77 kw_108 ⟨by decide +kernel, by decide +kernel, by decide +kernel⟩ (by decide) dX11_init_194) <|
  ms_oc1 rfl (s_aastore dX11_init_197) <|
  ms_oc1 rfl (s_iinc (by decide) dX11_init_198) <|
  ms_oc1 rfl (s_goto (by decide) dX11_init_201) <|
  ms_oc0 (s_vret rfl dX11_init_204)

def tX11_feed (G : ms_G) (Q : ms_Q) (d : Nat) : List (Nat × ms_T) := [(0, (o_ld 0 2)), (1, (o_get 11 11 2)), (4, (o_get 7 1 0)), (7, (o_ci 20)), (9, (o_bin (fun a b => w32 (a + b)))), (10, (o_ci 500)), (13, (o_if2 G Q mX11_feed (d + 1) (fun a b => a ≤ b) 18)), (16, (o_ci (-1))), (17, (o_ret Q false)), (18, (o_ld 0 2)), (19, (o_get 11 11 2)), (22, (o_ld 1 0)), (23, (o_invV G d mX7_append 7 1 0 0)), (26, (o_ld 0 2)), (27, (o_get 11 11 2)), (30, (o_ld 2 0)), (31, (o_invV G d mX7_append 7 1 0 0)), (34, (o_ld 0 2)), (35, (o_get 11 11 2)), (38, (o_ld 3 0)), (39, (o_invV G d mX7_append 7 1 0 0)), (42, (o_ld 0 2)), (43, (o_get 11 11 2)), (46, (o_ld 4 0)), (48, (o_invV G d mX7_append 7 1 0 0)), (51, (o_ld 0 2)), (52, (o_get 11 11 2)), (55, (o_ld 5 0)), (57, (o_invV G d mX7_append 7 1 0 0)), (60, (o_ld 0 2)), (61, (o_get 11 11 2)), (64, (o_get 7 1 0)), (67, (o_ret Q false))]
set_option maxRecDepth 100000 in
set_option maxHeartbeats 4000000 in
theorem kX11_feed (G : ms_G) (Q : ms_Q) (d : Nat) : ms_Oc G Q mX11_feed (d + 1) (tX11_feed G Q d) :=
  ms_oc1 rfl (s_aload_n rfl dX11_feed_0) <|
  ms_oc1 rfl (s_get (r := (RX11, TX11, 17)) rfl (by decide) rfl rfl kw_349 dX11_feed_1) <|
  ms_oc1 rfl (s_get (r := (RX7, TX7, 2)) rfl (by decide) rfl rfl kw_209 dX11_feed_4) <|
  ms_oc1 rfl (s_bipush dX11_feed_7 (by decide) (by decide)) <|
  ms_oc1 rfl (s_iadd dX11_feed_9) <|
  ms_oc1 rfl (s_sipush dX11_feed_10 (by decide) (by decide)) <|
  ms_oc1 rfl (s_icmple (by decide) dX11_feed_13) <|
  ms_oc1 rfl (s_iconst dX11_feed_16 (by decide)) <|
  ms_oc1 rfl (s_iret (b := false) rfl dX11_feed_17) <|
  ms_oc1 rfl (s_aload_n rfl dX11_feed_18) <|
  ms_oc1 rfl (s_get (r := (RX11, TX11, 17)) rfl (by decide) rfl rfl kw_349 dX11_feed_19) <|
  ms_oc1 rfl (s_iload_n rfl dX11_feed_22) <|
  ms_oc1 rfl (s_invV (r := (RX7, TX7, 2)) rfl rfl kw_394 kw_395 kw_396 kw_81 kw_397 ⟨by decide +kernel, by decide +kernel, by decide +kernel⟩ (by decide) dX11_feed_23) <|
  ms_oc1 rfl (s_aload_n rfl dX11_feed_26) <|
  ms_oc1 rfl (s_get (r := (RX11, TX11, 17)) rfl (by decide) rfl rfl kw_349 dX11_feed_27) <|
  ms_oc1 rfl (s_iload_n rfl dX11_feed_30) <|
  ms_oc1 rfl (s_invV (r := (RX7, TX7, 2)) rfl rfl kw_394 kw_395 kw_396 kw_81 kw_397 ⟨by decide +kernel, by decide +kernel, by decide +kernel⟩ (by decide) dX11_feed_31) <|
  ms_oc1 rfl (s_aload_n rfl dX11_feed_34) <|
  ms_oc1 rfl (s_get (r := (RX11, TX11, 17)) rfl (by decide) rfl rfl kw_349 dX11_feed_35) <|
  ms_oc1 rfl (s_iload_n rfl dX11_feed_38) <|
  ms_oc1 rfl (s_invV (r := (RX7, TX7, 2)) rfl rfl kw_394 kw_395 kw_396 kw_81 kw_397 ⟨by decide +kernel, by decide +kernel, by decide +kernel⟩ (by decide) dX11_feed_39) <|
  ms_oc1 rfl (s_aload_n rfl dX11_feed_42) <|
  ms_oc1 rfl (s_get (r := (RX11, TX11, 17)) rfl (by decide) rfl rfl kw_349 dX11_feed_43) <|
  ms_oc1 rfl (s_iload dX11_feed_46) <|
  ms_oc1 rfl (s_invV (r := (RX7, TX7, 2)) rfl rfl kw_394 kw_395 kw_396 kw_81 kw_397 ⟨by decide +kernel, by decide +kernel, by decide +kernel⟩ (by decide) dX11_feed_48) <|
  ms_oc1 rfl (s_aload_n rfl dX11_feed_51) <|
  ms_oc1 rfl (s_get (r := (RX11, TX11, 17)) rfl (by decide) rfl rfl kw_349 dX11_feed_52) <|
  ms_oc1 rfl (s_iload dX11_feed_55) <|
  ms_oc1 rfl (s_invV (r := (RX7, TX7, 2)) rfl rfl kw_394 kw_395 kw_396 kw_81 kw_397 ⟨by decide +kernel, by decide +kernel, by decide +kernel⟩ (by decide) dX11_feed_57) <|
  ms_oc1 rfl (s_aload_n rfl dX11_feed_60) <|
  ms_oc1 rfl (s_get (r := (RX11, TX11, 17)) rfl (by decide) rfl rfl kw_349 dX11_feed_61) <|
  ms_oc1 rfl (s_get (r := (RX7, TX7, 2)) rfl (by decide) rfl rfl kw_209 dX11_feed_64) <|
  ms_oc0 (s_iret (b := false) rfl dX11_feed_67)

def tX11_text (G : ms_G) (Q : ms_Q) (d : Nat) : List (Nat × ms_T) := [(0, (o_ld 1 0)), (1, (o_if1 G Q mX11_text (d + 1) (fun x => x < 0) 15)), (4, (o_ld 1 0)), (5, (o_ld 0 2)), (6, (o_get 11 11 2)), (9, (o_get 7 1 0)), (12, (o_if2 G Q mX11_text (d + 1) (fun a b => a ≤ b) 17)), (100000, o_go G Q mX11_text (d + 1) 15), (15, (o_ci (-1))), (16, (o_ret Q false)), (17, (o_ld 0 2)), (18, (o_get 11 11 2)), (21, (o_ci 0)), (22, (o_put 7 1 0)), (25, (o_ld 0 2)), (26, (o_get 11 12 2)), (29, (o_ld 0 2)), (30, (o_get 11 11 2)), (33, (o_get 7 0 2)), (36, (o_ld 1 0)), (37, (o_ld 0 2)), (38, (o_get 11 1 2)), (41, (o_invV G d mX8_read 8 3 0 0)), (44, (o_st 2 0)), (45, (o_ld 2 0)), (46, (o_if1 G Q mX11_text (d + 1) (fun x => ¬ x = 0) 60)), (49, (o_ld 0 2)), (50, (o_ld 0 2)), (51, (o_get 11 1 2)), (54, (o_invV G d mX11_adopt 11 1 0 0)), (57, (o_go G Q mX11_text (d + 1) 64)), (60, (o_ci (-2))), (62, (o_ld 2 0)), (63, (o_bin (fun a b => w32 (a - b)))), (100000, o_go G Q mX11_text (d + 1) 64), (64, (o_ret Q false))]
set_option maxRecDepth 100000 in
set_option maxHeartbeats 4000000 in
theorem kX11_text (G : ms_G) (Q : ms_Q) (d : Nat) : ms_Oc G Q mX11_text (d + 1) (tX11_text G Q d) :=
  ms_oc1 rfl (s_iload_n rfl dX11_text_0) <|
  ms_oc1 rfl (s_iflt (by decide) dX11_text_1) <|
  ms_oc1 rfl (s_iload_n rfl dX11_text_4) <|
  ms_oc1 rfl (s_aload_n rfl dX11_text_5) <|
  ms_oc1 rfl (s_get (r := (RX11, TX11, 17)) rfl (by decide) rfl rfl kw_349 dX11_text_6) <|
  ms_oc1 rfl (s_get (r := (RX7, TX7, 2)) rfl (by decide) rfl rfl kw_209 dX11_text_9) <|
  ms_occ (s_icmple (by decide) dX11_text_12) <|
  ms_oc1 rfl (s_iconst dX11_text_15 (by decide)) <|
  ms_oc1 rfl (s_iret (b := false) rfl dX11_text_16) <|
  ms_oc1 rfl (s_aload_n rfl dX11_text_17) <|
  ms_oc1 rfl (s_get (r := (RX11, TX11, 17)) rfl (by decide) rfl rfl kw_349 dX11_text_18) <|
  ms_oc1 rfl (s_iconst dX11_text_21 (by decide)) <|
  ms_oc1 rfl (s_put (r := (RX7, TX7, 2)) rfl (by decide) rfl rfl (ms_nar0 rfl) (Or.inl rfl) kw_209 dX11_text_22) <|
  ms_oc1 rfl (s_aload_n rfl dX11_text_25) <|
  ms_oc1 rfl (s_get (r := (RX11, TX11, 17)) rfl (by decide) rfl rfl kw_350 dX11_text_26) <|
  ms_oc1 rfl (s_aload_n rfl dX11_text_29) <|
  ms_oc1 rfl (s_get (r := (RX11, TX11, 17)) rfl (by decide) rfl rfl kw_349 dX11_text_30) <|
  ms_oc1 rfl (s_get (r := (RX7, TX7, 2)) rfl (by decide) rfl rfl kw_208 dX11_text_33) <|
  ms_oc1 rfl (s_iload_n rfl dX11_text_36) <|
  ms_oc1 rfl (s_aload_n rfl dX11_text_37) <|
  ms_oc1 rfl (s_get (r := (RX11, TX11, 17)) rfl (by decide) rfl rfl kw_339 dX11_text_38) <|
  ms_oc1 rfl (s_invV (r := (RX8, TX8, 4)) rfl rfl kw_402 kw_403 kw_404 kw_82 kw_405 ⟨by decide +kernel, by decide +kernel, by decide +kernel⟩ (by decide) dX11_text_41) <|
  ms_oc1 rfl (s_istore_n rfl (by decide) dX11_text_44) <|
  ms_oc1 rfl (s_iload_n rfl dX11_text_45) <|
  ms_oc1 rfl (s_ifne (by decide) dX11_text_46) <|
  ms_oc1 rfl (s_aload_n rfl dX11_text_49) <|
  ms_oc1 rfl (s_aload_n rfl dX11_text_50) <|
  ms_oc1 rfl (s_get (r := (RX11, TX11, 17)) rfl (by decide) rfl rfl kw_339 dX11_text_51) <|
  ms_oc1 rfl (s_invV (r := (RX11, TX11, 17)) rfl rfl kw_523 kw_525 kw_16 kw_76 kw_526 ⟨by decide +kernel, by decide +kernel, by decide +kernel⟩ (by decide) dX11_text_54) <|
  ms_oc1 rfl (s_goto (by decide) dX11_text_57) <|
  ms_oc1 rfl (s_bipush dX11_text_60 (by decide) (by decide)) <|
  ms_oc1 rfl (s_iload_n rfl dX11_text_62) <|
  ms_occ (s_isub dX11_text_63) <|
  ms_oc0 (s_iret (b := false) rfl dX11_text_64)

def tX11_count (G : ms_G) (Q : ms_Q) (d : Nat) : List (Nat × ms_T) := [(0, (o_ld 1 0)), (1, (o_sw G Q mX11_count (d + 1) (0) 12 [68, 76, 84, 92, 101, 110, 119, 131, 143, 151, 156, 164, 172] 180)), (68, (o_ld 0 2)), (69, (o_get 11 0 2)), (72, (o_get 4 3 0)), (75, (o_ret Q false)), (76, (o_ld 0 2)), (77, (o_get 11 0 2)), (80, (o_get 4 4 0)), (83, (o_ret Q false)), (84, (o_ld 0 2)), (85, (o_get 11 0 2)), (88, (o_get 4 5 0)), (91, (o_ret Q false)), (92, (o_ld 0 2)), (93, (o_get 11 0 2)), (96, (o_ci 0)), (97, (o_invV G d mX4_stepsOfKind 4 1 0 0)), (100, (o_ret Q false)), (101, (o_ld 0 2)), (102, (o_get 11 0 2)), (105, (o_ci 1)), (106, (o_invV G d mX4_stepsOfKind 4 1 0 0)), (109, (o_ret Q false)), (110, (o_ld 0 2)), (111, (o_get 11 0 2)), (114, (o_ci 2)), (115, (o_invV G d mX4_stepsOfKind 4 1 0 0)), (118, (o_ret Q false)), (119, (o_ld 0 2)), (120, (o_get 11 6 2)), (123, (o_ld 0 2)), (124, (o_get 11 0 2)), (127, (o_invV G d mX6_neededSteps 6 1 0 0)), (130, (o_ret Q false)), (131, (o_ld 0 2)), (132, (o_get 11 6 2)), (135, (o_ld 0 2)), (136, (o_get 11 0 2)), (139, (o_invV G d mX6_greatestDepth 6 1 0 0)), (142, (o_ret Q false)), (143, (o_ld 0 2)), (144, (o_get 11 5 2)), (147, (o_get 3 2 0)), (150, (o_ret Q false)), (151, (o_ld 0 2)), (152, (o_invV G d mX11_filledShelves 11 0 0 0)), (155, (o_ret Q false)), (156, (o_ld 0 2)), (157, (o_get 11 11 2)), (160, (o_get 7 1 0)), (163, (o_ret Q false)), (164, (o_ld 0 2)), (165, (o_get 11 16 2)), (168, (o_get 5 1 0)), (171, (o_ret Q false)), (172, (o_ld 0 2)), (173, (o_get 11 16 2)), (176, (o_get 5 2 0)), (179, (o_ret Q false)), (180, (o_ci (-1))), (181, (o_ret Q false))]
set_option maxRecDepth 100000 in
set_option maxHeartbeats 4000000 in
theorem kX11_count (G : ms_G) (Q : ms_Q) (d : Nat) : ms_Oc G Q mX11_count (d + 1) (tX11_count G Q d) :=
  ms_oc1 rfl (s_iload_n rfl dX11_count_0) <|
  ms_oc1 rfl (s_tsw dX11_count_1 (by decide) (by decide) (by decide)) <|
  ms_oc1 rfl (s_aload_n rfl dX11_count_68) <|
  ms_oc1 rfl (s_get (r := (RX11, TX11, 17)) rfl (by decide) rfl rfl kw_338 dX11_count_69) <|
  ms_oc1 rfl (s_get (r := (RX4, TX4, 6)) rfl (by decide) rfl rfl kw_130 dX11_count_72) <|
  ms_oc1 rfl (s_iret (b := false) rfl dX11_count_75) <|
  ms_oc1 rfl (s_aload_n rfl dX11_count_76) <|
  ms_oc1 rfl (s_get (r := (RX11, TX11, 17)) rfl (by decide) rfl rfl kw_338 dX11_count_77) <|
  ms_oc1 rfl (s_get (r := (RX4, TX4, 6)) rfl (by decide) rfl rfl kw_132 dX11_count_80) <|
  ms_oc1 rfl (s_iret (b := false) rfl dX11_count_83) <|
  ms_oc1 rfl (s_aload_n rfl dX11_count_84) <|
  ms_oc1 rfl (s_get (r := (RX11, TX11, 17)) rfl (by decide) rfl rfl kw_338 dX11_count_85) <|
  ms_oc1 rfl (s_get (r := (RX4, TX4, 6)) rfl (by decide) rfl rfl kw_137 dX11_count_88) <|
  ms_oc1 rfl (s_iret (b := false) rfl dX11_count_91) <|
  ms_oc1 rfl (s_aload_n rfl dX11_count_92) <|
  ms_oc1 rfl (s_get (r := (RX11, TX11, 17)) rfl (by decide) rfl rfl kw_338 dX11_count_93) <|
  ms_oc1 rfl (s_iconst dX11_count_96 (by decide)) <|
  ms_oc1 rfl (s_invV (r := (RX4, TX4, 6)) rfl rfl kw_543 kw_544 kw_545 kw_77 kw_546 ⟨by decide +kernel, by decide +kernel, by decide +kernel⟩ (by decide) dX11_count_97) <|
  ms_oc1 rfl (s_iret (b := false) rfl dX11_count_100) <|
  ms_oc1 rfl (s_aload_n rfl dX11_count_101) <|
  ms_oc1 rfl (s_get (r := (RX11, TX11, 17)) rfl (by decide) rfl rfl kw_338 dX11_count_102) <|
  ms_oc1 rfl (s_iconst dX11_count_105 (by decide)) <|
  ms_oc1 rfl (s_invV (r := (RX4, TX4, 6)) rfl rfl kw_543 kw_544 kw_545 kw_77 kw_546 ⟨by decide +kernel, by decide +kernel, by decide +kernel⟩ (by decide) dX11_count_106) <|
  ms_oc1 rfl (s_iret (b := false) rfl dX11_count_109) <|
  ms_oc1 rfl (s_aload_n rfl dX11_count_110) <|
  ms_oc1 rfl (s_get (r := (RX11, TX11, 17)) rfl (by decide) rfl rfl kw_338 dX11_count_111) <|
  ms_oc1 rfl (s_iconst dX11_count_114 (by decide)) <|
  ms_oc1 rfl (s_invV (r := (RX4, TX4, 6)) rfl rfl kw_543 kw_544 kw_545 kw_77 kw_546 ⟨by decide +kernel, by decide +kernel, by decide +kernel⟩ (by decide) dX11_count_115) <|
  ms_oc1 rfl (s_iret (b := false) rfl dX11_count_118) <|
  ms_oc1 rfl (s_aload_n rfl dX11_count_119) <|
  ms_oc1 rfl (s_get (r := (RX11, TX11, 17)) rfl (by decide) rfl rfl kw_344 dX11_count_120) <|
  ms_oc1 rfl (s_aload_n rfl dX11_count_123) <|
  ms_oc1 rfl (s_get (r := (RX11, TX11, 17)) rfl (by decide) rfl rfl kw_338 dX11_count_124) <|
  ms_oc1 rfl (s_invV (r := (RX6, TX6, 2)) rfl rfl kw_555 kw_556 kw_557 kw_79 kw_558 ⟨by decide +kernel, by decide +kernel, by decide +kernel⟩ (by decide) dX11_count_127) <|
  ms_oc1 rfl (s_iret (b := false) rfl dX11_count_130) <|
  ms_oc1 rfl (s_aload_n rfl dX11_count_131) <|
  ms_oc1 rfl (s_get (r := (RX11, TX11, 17)) rfl (by decide) rfl rfl kw_344 dX11_count_132) <|
  ms_oc1 rfl (s_aload_n rfl dX11_count_135) <|
  ms_oc1 rfl (s_get (r := (RX11, TX11, 17)) rfl (by decide) rfl rfl kw_338 dX11_count_136) <|
  ms_oc1 rfl (s_invV (r := (RX6, TX6, 2)) rfl rfl kw_564 kw_565 kw_566 kw_79 kw_567 ⟨by decide +kernel, by decide +kernel, by decide +kernel⟩ (by decide) dX11_count_139) <|
  ms_oc1 rfl (s_iret (b := false) rfl dX11_count_142) <|
  ms_oc1 rfl (s_aload_n rfl dX11_count_143) <|
  ms_oc1 rfl (s_get (r := (RX11, TX11, 17)) rfl (by decide) rfl rfl kw_343 dX11_count_144) <|
  ms_oc1 rfl (s_get (r := (RX3, TX3, 3)) rfl (by decide) rfl rfl kw_166 dX11_count_147) <|
  ms_oc1 rfl (s_iret (b := false) rfl dX11_count_150) <|
  ms_oc1 rfl (s_aload_n rfl dX11_count_151) <|
  ms_oc1 rfl (s_invV (r := (RX11, TX11, 17)) rfl rfl kw_576 kw_578 kw_17 kw_76 kw_579 ⟨by decide +kernel, by decide +kernel, by decide +kernel⟩ (by decide) dX11_count_152) <|
  ms_oc1 rfl (s_iret (b := false) rfl dX11_count_155) <|
  ms_oc1 rfl (s_aload_n rfl dX11_count_156) <|
  ms_oc1 rfl (s_get (r := (RX11, TX11, 17)) rfl (by decide) rfl rfl kw_349 dX11_count_157) <|
  ms_oc1 rfl (s_get (r := (RX7, TX7, 2)) rfl (by decide) rfl rfl kw_209 dX11_count_160) <|
  ms_oc1 rfl (s_iret (b := false) rfl dX11_count_163) <|
  ms_oc1 rfl (s_aload_n rfl dX11_count_164) <|
  ms_oc1 rfl (s_get (r := (RX11, TX11, 17)) rfl (by decide) rfl rfl kw_354 dX11_count_165) <|
  ms_oc1 rfl (s_get (r := (RX5, TX5, 6)) rfl (by decide) rfl rfl kw_319 dX11_count_168) <|
  ms_oc1 rfl (s_iret (b := false) rfl dX11_count_171) <|
  ms_oc1 rfl (s_aload_n rfl dX11_count_172) <|
  ms_oc1 rfl (s_get (r := (RX11, TX11, 17)) rfl (by decide) rfl rfl kw_354 dX11_count_173) <|
  ms_oc1 rfl (s_get (r := (RX5, TX5, 6)) rfl (by decide) rfl rfl kw_321 dX11_count_176) <|
  ms_oc1 rfl (s_iret (b := false) rfl dX11_count_179) <|
  ms_oc1 rfl (s_iconst dX11_count_180 (by decide)) <|
  ms_oc0 (s_iret (b := false) rfl dX11_count_181)

def tX11_node (G : ms_G) (Q : ms_Q) (d : Nat) : List (Nat × ms_T) := [(0, (o_ld 0 2)), (1, (o_get 11 0 2)), (4, (o_ld 1 0)), (5, (o_invV G d mX4_has 4 1 0 0)), (8, (o_if1 G Q mX11_node (d + 1) (fun x => x = 0) 21)), (11, (o_ld 2 0)), (12, (o_if1 G Q mX11_node (d + 1) (fun x => x < 0) 21)), (15, (o_ld 2 0)), (16, (o_ci 6)), (18, (o_if2 G Q mX11_node (d + 1) (fun a b => a ≤ b) 29)), (100000, o_go G Q mX11_node (d + 1) 21), (21, o_bad), (24, o_dup), (25, o_bad), (28, o_bad), (29, (o_ld 2 0)), (30, (o_sw G Q mX11_node (d + 1) (0) 5 [68, 93, 118, 127, 148, 177] 197)), (68, (o_ld 0 2)), (69, (o_get 11 0 2)), (72, (o_ld 1 0)), (73, (o_invV G d mX4_isBase 4 1 0 0)), (76, (o_if1 G Q mX11_node (d + 1) (fun x => x = 0) 83)), (79, (o_ci (-1))), (80, (o_go G Q mX11_node (d + 1) 92)), (83, (o_ld 0 2)), (84, (o_get 11 0 2)), (87, (o_get 4 0 2)), (90, (o_ld 1 0)), (91, (o_ald 100 0)), (100000, o_go G Q mX11_node (d + 1) 92), (92, (o_ret Q false)), (93, (o_ld 0 2)), (94, (o_get 11 0 2)), (97, (o_ld 1 0)), (98, (o_invV G d mX4_isBase 4 1 0 0)), (101, (o_if1 G Q mX11_node (d + 1) (fun x => x = 0) 108)), (104, (o_ci (-1))), (105, (o_go G Q mX11_node (d + 1) 117)), (108, (o_ld 0 2)), (109, (o_get 11 0 2)), (112, (o_get 4 1 2)), (115, (o_ld 1 0)), (116, (o_ald 100 0)), (100000, o_go G Q mX11_node (d + 1) 117), (117, (o_ret Q false)), (118, (o_ld 0 2)), (119, (o_get 11 0 2)), (122, (o_ld 1 0)), (123, (o_invV G d mX4_kind 4 1 0 0)), (126, (o_ret Q false)), (127, (o_ld 0 2)), (128, (o_get 11 6 2)), (131, (o_ld 0 2)), (132, (o_get 11 0 2)), (135, (o_invV G d mX6_measureDepths 6 1 0 0)), (138, (o_ld 0 2)), (139, (o_get 11 6 2)), (142, (o_get 6 0 2)), (145, (o_ld 1 0)), (146, (o_ald 100 0)), (147, (o_ret Q false)), (148, (o_ld 0 2)), (149, (o_get 11 6 2)), (152, (o_ld 0 2)), (153, (o_get 11 0 2)), (156, (o_invV G d mX6_markNeeded 6 1 0 0)), (159, (o_ld 0 2)), (160, (o_get 11 6 2)), (163, (o_get 6 1 2)), (166, (o_ld 1 0)), (167, o_bald), (168, (o_if1 G Q mX11_node (d + 1) (fun x => x = 0) 175)), (171, (o_ci 1)), (172, (o_go G Q mX11_node (d + 1) 176)), (175, (o_ci 0)), (100000, o_go G Q mX11_node (d + 1) 176), (176, (o_ret Q false)), (177, (o_ld 0 2)), (178, (o_get 11 7 2)), (181, (o_ld 0 2)), (182, (o_get 11 0 2)), (185, (o_invV G d mX2_measure 2 1 0 0)), (188, (o_ld 0 2)), (189, (o_get 11 7 2)), (192, (o_ld 1 0)), (193, (o_invV G d mX2_firstAlike 2 1 0 0)), (196, (o_ret Q false)), (197, (o_ld 0 2)), (198, (o_get 11 0 2)), (201, (o_ld 1 0)), (202, (o_invV G d mX4_uses 4 1 0 0)), (205, (o_ret Q false))]
set_option maxRecDepth 100000 in
set_option maxHeartbeats 4000000 in
theorem kX11_node (G : ms_G) (Q : ms_Q) (d : Nat) : ms_Oc G Q mX11_node (d + 1) (tX11_node G Q d) :=
  ms_oc1 rfl (s_aload_n rfl dX11_node_0) <|
  ms_oc1 rfl (s_get (r := (RX11, TX11, 17)) rfl (by decide) rfl rfl kw_338 dX11_node_1) <|
  ms_oc1 rfl (s_iload_n rfl dX11_node_4) <|
  ms_oc1 rfl (s_invV (r := (RX4, TX4, 6)) rfl rfl kw_584 kw_585 kw_586 kw_77 kw_587 ⟨by decide +kernel, by decide +kernel, by decide +kernel⟩ (by decide) dX11_node_5) <|
  ms_oc1 rfl (s_ifeq (by decide) dX11_node_8) <|
  ms_oc1 rfl (s_iload_n rfl dX11_node_11) <|
  ms_oc1 rfl (s_iflt (by decide) dX11_node_12) <|
  ms_oc1 rfl (s_iload_n rfl dX11_node_15) <|
  ms_oc1 rfl (s_bipush dX11_node_16 (by decide) (by decide)) <|
  ms_occ (s_icmple (by decide) dX11_node_18) <|
  ms_oc1 rfl (s_bad) <|
  ms_oc1 rfl (s_dup dX11_node_24) <|
  ms_oc1 rfl (s_bad) <|
  ms_oc1 rfl (s_bad) <|
  ms_oc1 rfl (s_iload_n rfl dX11_node_29) <|
  ms_oc1 rfl (s_tsw dX11_node_30 (by decide) (by decide) (by decide)) <|
  ms_oc1 rfl (s_aload_n rfl dX11_node_68) <|
  ms_oc1 rfl (s_get (r := (RX11, TX11, 17)) rfl (by decide) rfl rfl kw_338 dX11_node_69) <|
  ms_oc1 rfl (s_iload_n rfl dX11_node_72) <|
  ms_oc1 rfl (s_invV (r := (RX4, TX4, 6)) rfl rfl kw_627 kw_552 kw_553 kw_77 kw_554 ⟨by decide +kernel, by decide +kernel, by decide +kernel⟩ (by decide) dX11_node_73) <|
  ms_oc1 rfl (s_ifeq (by decide) dX11_node_76) <|
  ms_oc1 rfl (s_iconst dX11_node_79 (by decide)) <|
  ms_oc1 rfl (s_goto (by decide) dX11_node_80) <|
  ms_oc1 rfl (s_aload_n rfl dX11_node_83) <|
  ms_oc1 rfl (s_get (r := (RX11, TX11, 17)) rfl (by decide) rfl rfl kw_338 dX11_node_84) <|
  ms_oc1 rfl (s_get (r := (RX4, TX4, 6)) rfl (by decide) rfl rfl kw_114 dX11_node_87) <|
  ms_oc1 rfl (s_iload_n rfl dX11_node_90) <|
  ms_occ (s_iaload dX11_node_91) <|
  ms_oc1 rfl (s_iret (b := false) rfl dX11_node_92) <|
  ms_oc1 rfl (s_aload_n rfl dX11_node_93) <|
  ms_oc1 rfl (s_get (r := (RX11, TX11, 17)) rfl (by decide) rfl rfl kw_338 dX11_node_94) <|
  ms_oc1 rfl (s_iload_n rfl dX11_node_97) <|
  ms_oc1 rfl (s_invV (r := (RX4, TX4, 6)) rfl rfl kw_627 kw_552 kw_553 kw_77 kw_554 ⟨by decide +kernel, by decide +kernel, by decide +kernel⟩ (by decide) dX11_node_98) <|
  ms_oc1 rfl (s_ifeq (by decide) dX11_node_101) <|
  ms_oc1 rfl (s_iconst dX11_node_104 (by decide)) <|
  ms_oc1 rfl (s_goto (by decide) dX11_node_105) <|
  ms_oc1 rfl (s_aload_n rfl dX11_node_108) <|
  ms_oc1 rfl (s_get (r := (RX11, TX11, 17)) rfl (by decide) rfl rfl kw_338 dX11_node_109) <|
  ms_oc1 rfl (s_get (r := (RX4, TX4, 6)) rfl (by decide) rfl rfl kw_119 dX11_node_112) <|
  ms_oc1 rfl (s_iload_n rfl dX11_node_115) <|
  ms_occ (s_iaload dX11_node_116) <|
  ms_oc1 rfl (s_iret (b := false) rfl dX11_node_117) <|
  ms_oc1 rfl (s_aload_n rfl dX11_node_118) <|
  ms_oc1 rfl (s_get (r := (RX11, TX11, 17)) rfl (by decide) rfl rfl kw_338 dX11_node_119) <|
  ms_oc1 rfl (s_iload_n rfl dX11_node_122) <|
  ms_oc1 rfl (s_invV (r := (RX4, TX4, 6)) rfl rfl kw_898 kw_548 kw_549 kw_77 kw_550 ⟨by decide +kernel, by decide +kernel, by decide +kernel⟩ (by decide) dX11_node_123) <|
  ms_oc1 rfl (s_iret (b := false) rfl dX11_node_126) <|
  ms_oc1 rfl (s_aload_n rfl dX11_node_127) <|
  ms_oc1 rfl (s_get (r := (RX11, TX11, 17)) rfl (by decide) rfl rfl kw_344 dX11_node_128) <|
  ms_oc1 rfl (s_aload_n rfl dX11_node_131) <|
  ms_oc1 rfl (s_get (r := (RX11, TX11, 17)) rfl (by decide) rfl rfl kw_338 dX11_node_132) <|
  ms_oc1 rfl (s_invV (r := (RX6, TX6, 2)) rfl rfl kw_899 kw_569 kw_570 kw_79 kw_571 ⟨by decide +kernel, by decide +kernel, by decide +kernel⟩ (by decide) dX11_node_135) <|
  ms_oc1 rfl (s_aload_n rfl dX11_node_138) <|
  ms_oc1 rfl (s_get (r := (RX11, TX11, 17)) rfl (by decide) rfl rfl kw_344 dX11_node_139) <|
  ms_oc1 rfl (s_get (r := (RX6, TX6, 2)) rfl (by decide) rfl rfl kw_182 dX11_node_142) <|
  ms_oc1 rfl (s_iload_n rfl dX11_node_145) <|
  ms_oc1 rfl (s_iaload dX11_node_146) <|
  ms_oc1 rfl (s_iret (b := false) rfl dX11_node_147) <|
  ms_oc1 rfl (s_aload_n rfl dX11_node_148) <|
  ms_oc1 rfl (s_get (r := (RX11, TX11, 17)) rfl (by decide) rfl rfl kw_344 dX11_node_149) <|
  ms_oc1 rfl (s_aload_n rfl dX11_node_152) <|
  ms_oc1 rfl (s_get (r := (RX11, TX11, 17)) rfl (by decide) rfl rfl kw_338 dX11_node_153) <|
  ms_oc1 rfl (s_invV (r := (RX6, TX6, 2)) rfl rfl kw_625 kw_560 kw_561 kw_79 kw_562 ⟨by decide +kernel, by decide +kernel, by decide +kernel⟩ (by decide) dX11_node_156) <|
  ms_oc1 rfl (s_aload_n rfl dX11_node_159) <|
  ms_oc1 rfl (s_get (r := (RX11, TX11, 17)) rfl (by decide) rfl rfl kw_344 dX11_node_160) <|
  ms_oc1 rfl (s_get (r := (RX6, TX6, 2)) rfl (by decide) rfl rfl kw_184 dX11_node_163) <|
  ms_oc1 rfl (s_iload_n rfl dX11_node_166) <|
  ms_oc1 rfl (s_baload dX11_node_167) <|
  ms_oc1 rfl (s_ifeq (by decide) dX11_node_168) <|
  ms_oc1 rfl (s_iconst dX11_node_171 (by decide)) <|
  ms_oc1 rfl (s_goto (by decide) dX11_node_172) <|
  ms_occ (s_iconst dX11_node_175 (by decide)) <|
  ms_oc1 rfl (s_iret (b := false) rfl dX11_node_176) <|
  ms_oc1 rfl (s_aload_n rfl dX11_node_177) <|
  ms_oc1 rfl (s_get (r := (RX11, TX11, 17)) rfl (by decide) rfl rfl kw_345 dX11_node_178) <|
  ms_oc1 rfl (s_aload_n rfl dX11_node_181) <|
  ms_oc1 rfl (s_get (r := (RX11, TX11, 17)) rfl (by decide) rfl rfl kw_338 dX11_node_182) <|
  ms_oc1 rfl (s_invV (r := (RX2, TX2, 1)) rfl rfl kw_589 kw_590 kw_591 kw_80 kw_592 ⟨by decide +kernel, by decide +kernel, by decide +kernel⟩ (by decide) dX11_node_185) <|
  ms_oc1 rfl (s_aload_n rfl dX11_node_188) <|
  ms_oc1 rfl (s_get (r := (RX11, TX11, 17)) rfl (by decide) rfl rfl kw_345 dX11_node_189) <|
  ms_oc1 rfl (s_iload_n rfl dX11_node_192) <|
  ms_oc1 rfl (s_invV (r := (RX2, TX2, 1)) rfl rfl kw_640 kw_641 kw_642 kw_80 kw_643 ⟨by decide +kernel, by decide +kernel, by decide +kernel⟩ (by decide) dX11_node_193) <|
  ms_oc1 rfl (s_iret (b := false) rfl dX11_node_196) <|
  ms_oc1 rfl (s_aload_n rfl dX11_node_197) <|
  ms_oc1 rfl (s_get (r := (RX11, TX11, 17)) rfl (by decide) rfl rfl kw_338 dX11_node_198) <|
  ms_oc1 rfl (s_iload_n rfl dX11_node_201) <|
  ms_oc1 rfl (s_invV (r := (RX4, TX4, 6)) rfl rfl kw_900 kw_901 kw_902 kw_77 kw_903 ⟨by decide +kernel, by decide +kernel, by decide +kernel⟩ (by decide) dX11_node_202) <|
  ms_oc0 (s_iret (b := false) rfl dX11_node_205)

def tX11_exponent (G : ms_G) (Q : ms_Q) (d : Nat) : List (Nat × ms_T) := [(0, (o_ld 0 2)), (1, (o_get 11 0 2)), (4, (o_ld 1 0)), (5, (o_invV G d mX4_has 4 1 0 0)), (8, (o_if1 G Q mX11_exponent (d + 1) (fun x => x = 0) 26)), (11, (o_ld 2 0)), (12, (o_if1 G Q mX11_exponent (d + 1) (fun x => x < 0) 26)), (15, (o_ld 2 0)), (16, (o_ld 0 2)), (17, (o_get 11 0 2)), (20, (o_get 4 3 0)), (23, (o_if2 G Q mX11_exponent (d + 1) (fun a b => a < b) 30)), (100000, o_go G Q mX11_exponent (d + 1) 26), (26, (o_cl (-1))), (29, (o_lret Q)), (30, (o_ld 0 2)), (31, (o_get 11 7 2)), (34, (o_ld 0 2)), (35, (o_get 11 0 2)), (38, (o_invV G d mX2_measure 2 1 0 0)), (41, (o_ld 0 2)), (42, (o_get 11 7 2)), (45, (o_ld 1 0)), (46, (o_ld 2 0)), (47, (o_invV G d mX2_of 2 2 0 0)), (50, (o_lret Q))]
set_option maxRecDepth 100000 in
set_option maxHeartbeats 4000000 in
theorem kX11_exponent (G : ms_G) (Q : ms_Q) (d : Nat) : ms_Oc G Q mX11_exponent (d + 1) (tX11_exponent G Q d) :=
  ms_oc1 rfl (s_aload_n rfl dX11_exponent_0) <|
  ms_oc1 rfl (s_get (r := (RX11, TX11, 17)) rfl (by decide) rfl rfl kw_338 dX11_exponent_1) <|
  ms_oc1 rfl (s_iload_n rfl dX11_exponent_4) <|
  ms_oc1 rfl (s_invV (r := (RX4, TX4, 6)) rfl rfl kw_584 kw_585 kw_586 kw_77 kw_587 ⟨by decide +kernel, by decide +kernel, by decide +kernel⟩ (by decide) dX11_exponent_5) <|
  ms_oc1 rfl (s_ifeq (by decide) dX11_exponent_8) <|
  ms_oc1 rfl (s_iload_n rfl dX11_exponent_11) <|
  ms_oc1 rfl (s_iflt (by decide) dX11_exponent_12) <|
  ms_oc1 rfl (s_iload_n rfl dX11_exponent_15) <|
  ms_oc1 rfl (s_aload_n rfl dX11_exponent_16) <|
  ms_oc1 rfl (s_get (r := (RX11, TX11, 17)) rfl (by decide) rfl rfl kw_338 dX11_exponent_17) <|
  ms_oc1 rfl (s_get (r := (RX4, TX4, 6)) rfl (by decide) rfl rfl kw_130 dX11_exponent_20) <|
  ms_occ (s_icmplt (by decide) dX11_exponent_23) <|
  ms_oc1 rfl (s_ldc2 dX11_exponent_26 kw_588 (by decide) (by decide)) <|
  ms_oc1 rfl (s_lret rfl dX11_exponent_29) <|
  ms_oc1 rfl (s_aload_n rfl dX11_exponent_30) <|
  ms_oc1 rfl (s_get (r := (RX11, TX11, 17)) rfl (by decide) rfl rfl kw_345 dX11_exponent_31) <|
  ms_oc1 rfl (s_aload_n rfl dX11_exponent_34) <|
  ms_oc1 rfl (s_get (r := (RX11, TX11, 17)) rfl (by decide) rfl rfl kw_338 dX11_exponent_35) <|
  ms_oc1 rfl (s_invV (r := (RX2, TX2, 1)) rfl rfl kw_589 kw_590 kw_591 kw_80 kw_592 ⟨by decide +kernel, by decide +kernel, by decide +kernel⟩ (by decide) dX11_exponent_38) <|
  ms_oc1 rfl (s_aload_n rfl dX11_exponent_41) <|
  ms_oc1 rfl (s_get (r := (RX11, TX11, 17)) rfl (by decide) rfl rfl kw_345 dX11_exponent_42) <|
  ms_oc1 rfl (s_iload_n rfl dX11_exponent_45) <|
  ms_oc1 rfl (s_iload_n rfl dX11_exponent_46) <|
  ms_oc1 rfl (s_invV (r := (RX2, TX2, 1)) rfl rfl kw_597 kw_489 kw_490 kw_80 kw_491 ⟨by decide +kernel, by decide +kernel, by decide +kernel⟩ (by decide) dX11_exponent_47) <|
  ms_oc0 (s_lret rfl dX11_exponent_50)

def tX11_wanted (G : ms_G) (Q : ms_Q) (d : Nat) : List (Nat × ms_T) := [(0, (o_ld 1 0)), (1, (o_if1 G Q mX11_wanted (d + 1) (fun x => x < 0) 27)), (4, (o_ld 1 0)), (5, (o_ld 0 2)), (6, (o_get 11 0 2)), (9, (o_get 4 5 0)), (12, (o_if2 G Q mX11_wanted (d + 1) (fun a b => b ≤ a) 27)), (15, (o_ld 0 2)), (16, (o_get 11 0 2)), (19, (o_get 4 2 2)), (22, (o_ld 1 0)), (23, (o_ald 100 0)), (24, (o_go G Q mX11_wanted (d + 1) 28)), (27, (o_ci (-1))), (100000, o_go G Q mX11_wanted (d + 1) 28), (28, (o_ret Q false))]
set_option maxRecDepth 100000 in
set_option maxHeartbeats 4000000 in
theorem kX11_wanted (G : ms_G) (Q : ms_Q) (d : Nat) : ms_Oc G Q mX11_wanted (d + 1) (tX11_wanted G Q d) :=
  ms_oc1 rfl (s_iload_n rfl dX11_wanted_0) <|
  ms_oc1 rfl (s_iflt (by decide) dX11_wanted_1) <|
  ms_oc1 rfl (s_iload_n rfl dX11_wanted_4) <|
  ms_oc1 rfl (s_aload_n rfl dX11_wanted_5) <|
  ms_oc1 rfl (s_get (r := (RX11, TX11, 17)) rfl (by decide) rfl rfl kw_338 dX11_wanted_6) <|
  ms_oc1 rfl (s_get (r := (RX4, TX4, 6)) rfl (by decide) rfl rfl kw_137 dX11_wanted_9) <|
  ms_oc1 rfl (s_icmpge (by decide) dX11_wanted_12) <|
  ms_oc1 rfl (s_aload_n rfl dX11_wanted_15) <|
  ms_oc1 rfl (s_get (r := (RX11, TX11, 17)) rfl (by decide) rfl rfl kw_338 dX11_wanted_16) <|
  ms_oc1 rfl (s_get (r := (RX4, TX4, 6)) rfl (by decide) rfl rfl kw_124 dX11_wanted_19) <|
  ms_oc1 rfl (s_iload_n rfl dX11_wanted_22) <|
  ms_oc1 rfl (s_iaload dX11_wanted_23) <|
  ms_oc1 rfl (s_goto (by decide) dX11_wanted_24) <|
  ms_occ (s_iconst dX11_wanted_27 (by decide)) <|
  ms_oc0 (s_iret (b := false) rfl dX11_wanted_28)

def tX11_run (G : ms_G) (Q : ms_Q) (d : Nat) : List (Nat × ms_T) := [(0, (o_ld 0 2)), (1, (o_get 11 0 2)), (4, (o_ld 1 0)), (5, (o_invV G d mX4_has 4 1 0 0)), (8, (o_if1 G Q mX11_run (d + 1) (fun x => x = 0) 22)), (11, (o_ld 2 0)), (12, (o_ci 2)), (13, (o_if2 G Q mX11_run (d + 1) (fun a b => a < b) 22)), (16, (o_ld 2 0)), (17, (o_ci (1000000000))), (19, (o_if2 G Q mX11_run (d + 1) (fun a b => a ≤ b) 24)), (100000, o_go G Q mX11_run (d + 1) 22), (22, (o_ci (-1))), (23, (o_ret Q false)), (24, (o_ld 0 2)), (25, (o_get 11 10 2)), (28, (o_ci 0)), (29, (o_ld 3 0)), (30, (o_ld 2 0)), (31, (o_invS G d mJ9_floorMod_7cf53 2 0 0)), (34, (o_ast 100 0 (fun x => x))), (35, (o_ld 0 2)), (36, (o_get 11 10 2)), (39, (o_ci 1)), (40, (o_ld 4 0)), (42, (o_ld 2 0)), (43, (o_invS G d mJ9_floorMod_7cf53 2 0 0)), (46, (o_ast 100 0 (fun x => x))), (47, (o_ld 0 2)), (48, (o_get 11 10 2)), (51, (o_ci 2)), (52, (o_ld 5 0)), (54, (o_ld 2 0)), (55, (o_invS G d mJ9_floorMod_7cf53 2 0 0)), (58, (o_ast 100 0 (fun x => x))), (59, (o_ld 0 2)), (60, (o_get 11 10 2)), (63, (o_ci 3)), (64, (o_ld 6 0)), (66, (o_ld 2 0)), (67, (o_invS G d mJ9_floorMod_7cf53 2 0 0)), (70, (o_ast 100 0 (fun x => x))), (71, (o_ld 0 2)), (72, (o_get 11 0 2)), (75, (o_get 4 3 0)), (78, (o_st 7 0)), (100000, o_go G Q mX11_run (d + 1) 80), (80, (o_ld 7 0)), (82, (o_ld 1 0)), (83, (o_if2 G Q mX11_run (d + 1) (fun a b => b < a) 140)), (86, (o_ld 0 2)), (87, (o_get 11 10 2)), (90, (o_ld 0 2)), (91, (o_get 11 0 2)), (94, (o_get 4 0 2)), (97, (o_ld 7 0)), (99, (o_ald 100 0)), (100, (o_ald 100 0)), (101, (o_un 0 1 (fun a => a))), (102, (o_ld 0 2)), (103, (o_get 11 10 2)), (106, (o_ld 0 2)), (107, (o_get 11 0 2)), (110, (o_get 4 1 2)), (113, (o_ld 7 0)), (115, (o_ald 100 0)), (116, (o_ald 100 0)), (117, (o_un 0 1 (fun a => a))), (118, (o_lbin (fun a b => w64 (a * b)))), (119, (o_lst 8)), (121, (o_ld 0 2)), (122, (o_get 11 10 2)), (125, (o_ld 7 0)), (127, (o_ld 8 1)), (129, (o_ld 2 0)), (130, (o_un 0 1 (fun a => a))), (131, (o_ldv wlrem)), (132, (o_un 1 0 w32)), (133, (o_ast 100 0 (fun x => x))), (134, (o_inc 7 1)), (137, (o_go G Q mX11_run (d + 1) 80)), (140, (o_ld 0 2)), (141, (o_get 11 10 2)), (144, (o_ld 1 0)), (145, (o_ald 100 0)), (146, (o_ret Q false))]
set_option maxRecDepth 100000 in
set_option maxHeartbeats 4000000 in
theorem kX11_run (G : ms_G) (Q : ms_Q) (d : Nat) : ms_Oc G Q mX11_run (d + 1) (tX11_run G Q d) :=
  ms_oc1 rfl (s_aload_n rfl dX11_run_0) <|
  ms_oc1 rfl (s_get (r := (RX11, TX11, 17)) rfl (by decide) rfl rfl kw_338 dX11_run_1) <|
  ms_oc1 rfl (s_iload_n rfl dX11_run_4) <|
  ms_oc1 rfl (s_invV (r := (RX4, TX4, 6)) rfl rfl kw_584 kw_585 kw_586 kw_77 kw_587 ⟨by decide +kernel, by decide +kernel, by decide +kernel⟩ (by decide) dX11_run_5) <|
  ms_oc1 rfl (s_ifeq (by decide) dX11_run_8) <|
  ms_oc1 rfl (s_iload_n rfl dX11_run_11) <|
  ms_oc1 rfl (s_iconst dX11_run_12 (by decide)) <|
  ms_oc1 rfl (s_icmplt (by decide) dX11_run_13) <|
  ms_oc1 rfl (s_iload_n rfl dX11_run_16) <|
  ms_oc1 rfl (s_ldc dX11_run_17 kw_606 (by decide) (by decide)) <|
  ms_occ (s_icmple (by decide) dX11_run_19) <|
  ms_oc1 rfl (s_iconst dX11_run_22 (by decide)) <|
  ms_oc1 rfl (s_iret (b := false) rfl dX11_run_23) <|
  ms_oc1 rfl (s_aload_n rfl dX11_run_24) <|
  ms_oc1 rfl (s_get (r := (RX11, TX11, 17)) rfl (by decide) rfl rfl kw_348 dX11_run_25) <|
  ms_oc1 rfl (s_iconst dX11_run_28 (by decide)) <|
  ms_oc1 rfl (s_iload_n rfl dX11_run_29) <|
  ms_oc1 rfl (s_iload_n rfl dX11_run_30) <|
  ms_oc1 rfl (s_invS kw_607 kw_608 kw_91 kw_609 ⟨by decide +kernel, by decide +kernel, by decide +kernel⟩ (by decide) dX11_run_31) <|
  ms_oc1 rfl (s_iastore dX11_run_34) <|
  ms_oc1 rfl (s_aload_n rfl dX11_run_35) <|
  ms_oc1 rfl (s_get (r := (RX11, TX11, 17)) rfl (by decide) rfl rfl kw_348 dX11_run_36) <|
  ms_oc1 rfl (s_iconst dX11_run_39 (by decide)) <|
  ms_oc1 rfl (s_iload dX11_run_40) <|
  ms_oc1 rfl (s_iload_n rfl dX11_run_42) <|
  ms_oc1 rfl (s_invS kw_607 kw_608 kw_91 kw_609 ⟨by decide +kernel, by decide +kernel, by decide +kernel⟩ (by decide) dX11_run_43) <|
  ms_oc1 rfl (s_iastore dX11_run_46) <|
  ms_oc1 rfl (s_aload_n rfl dX11_run_47) <|
  ms_oc1 rfl (s_get (r := (RX11, TX11, 17)) rfl (by decide) rfl rfl kw_348 dX11_run_48) <|
  ms_oc1 rfl (s_iconst dX11_run_51 (by decide)) <|
  ms_oc1 rfl (s_iload dX11_run_52) <|
  ms_oc1 rfl (s_iload_n rfl dX11_run_54) <|
  ms_oc1 rfl (s_invS kw_607 kw_608 kw_91 kw_609 ⟨by decide +kernel, by decide +kernel, by decide +kernel⟩ (by decide) dX11_run_55) <|
  ms_oc1 rfl (s_iastore dX11_run_58) <|
  ms_oc1 rfl (s_aload_n rfl dX11_run_59) <|
  ms_oc1 rfl (s_get (r := (RX11, TX11, 17)) rfl (by decide) rfl rfl kw_348 dX11_run_60) <|
  ms_oc1 rfl (s_iconst dX11_run_63 (by decide)) <|
  ms_oc1 rfl (s_iload dX11_run_64) <|
  ms_oc1 rfl (s_iload_n rfl dX11_run_66) <|
  ms_oc1 rfl (s_invS kw_607 kw_608 kw_91 kw_609 ⟨by decide +kernel, by decide +kernel, by decide +kernel⟩ (by decide) dX11_run_67) <|
  ms_oc1 rfl (s_iastore dX11_run_70) <|
  ms_oc1 rfl (s_aload_n rfl dX11_run_71) <|
  ms_oc1 rfl (s_get (r := (RX11, TX11, 17)) rfl (by decide) rfl rfl kw_338 dX11_run_72) <|
  ms_oc1 rfl (s_get (r := (RX4, TX4, 6)) rfl (by decide) rfl rfl kw_130 dX11_run_75) <|
  ms_occ (s_istore (by decide) dX11_run_78) <|
  ms_oc1 rfl (s_iload dX11_run_80) <|
  ms_oc1 rfl (s_iload_n rfl dX11_run_82) <|
  ms_oc1 rfl (s_icmpgt (by decide) dX11_run_83) <|
  ms_oc1 rfl (s_aload_n rfl dX11_run_86) <|
  ms_oc1 rfl (s_get (r := (RX11, TX11, 17)) rfl (by decide) rfl rfl kw_348 dX11_run_87) <|
  ms_oc1 rfl (s_aload_n rfl dX11_run_90) <|
  ms_oc1 rfl (s_get (r := (RX11, TX11, 17)) rfl (by decide) rfl rfl kw_338 dX11_run_91) <|
  ms_oc1 rfl (s_get (r := (RX4, TX4, 6)) rfl (by decide) rfl rfl kw_114 dX11_run_94) <|
  ms_oc1 rfl (s_iload dX11_run_97) <|
  ms_oc1 rfl (s_iaload dX11_run_99) <|
  ms_oc1 rfl (s_iaload dX11_run_100) <|
  ms_oc1 rfl (s_i2l dX11_run_101) <|
  ms_oc1 rfl (s_aload_n rfl dX11_run_102) <|
  ms_oc1 rfl (s_get (r := (RX11, TX11, 17)) rfl (by decide) rfl rfl kw_348 dX11_run_103) <|
  ms_oc1 rfl (s_aload_n rfl dX11_run_106) <|
  ms_oc1 rfl (s_get (r := (RX11, TX11, 17)) rfl (by decide) rfl rfl kw_338 dX11_run_107) <|
  ms_oc1 rfl (s_get (r := (RX4, TX4, 6)) rfl (by decide) rfl rfl kw_119 dX11_run_110) <|
  ms_oc1 rfl (s_iload dX11_run_113) <|
  ms_oc1 rfl (s_iaload dX11_run_115) <|
  ms_oc1 rfl (s_iaload dX11_run_116) <|
  ms_oc1 rfl (s_i2l dX11_run_117) <|
  ms_oc1 rfl (s_lmul dX11_run_118) <|
  ms_oc1 rfl (s_lstore (by decide) dX11_run_119) <|
  ms_oc1 rfl (s_aload_n rfl dX11_run_121) <|
  ms_oc1 rfl (s_get (r := (RX11, TX11, 17)) rfl (by decide) rfl rfl kw_348 dX11_run_122) <|
  ms_oc1 rfl (s_iload dX11_run_125) <|
  ms_oc1 rfl (s_lload dX11_run_127) <|
  ms_oc1 rfl (s_iload_n rfl dX11_run_129) <|
  ms_oc1 rfl (s_i2l dX11_run_130) <|
  ms_oc1 rfl (s_lrem dX11_run_131) <|
  ms_oc1 rfl (s_l2i dX11_run_132) <|
  ms_oc1 rfl (s_iastore dX11_run_133) <|
  ms_oc1 rfl (s_iinc (by decide) dX11_run_134) <|
  ms_oc1 rfl (s_goto (by decide) dX11_run_137) <|
  ms_oc1 rfl (s_aload_n rfl dX11_run_140) <|
  ms_oc1 rfl (s_get (r := (RX11, TX11, 17)) rfl (by decide) rfl rfl kw_348 dX11_run_141) <|
  ms_oc1 rfl (s_iload_n rfl dX11_run_144) <|
  ms_oc1 rfl (s_iaload dX11_run_145) <|
  ms_oc0 (s_iret (b := false) rfl dX11_run_146)

def tX11_add (G : ms_G) (Q : ms_Q) (d : Nat) : List (Nat × ms_T) := [(0, (o_ld 0 2)), (1, (o_get 11 0 2)), (4, (o_ld 1 0)), (5, (o_invV G d mX4_has 4 1 0 0)), (8, (o_if1 G Q mX11_add (d + 1) (fun x => x = 0) 34)), (11, (o_ld 0 2)), (12, (o_get 11 0 2)), (15, (o_ld 2 0)), (16, (o_invV G d mX4_has 4 1 0 0)), (19, (o_if1 G Q mX11_add (d + 1) (fun x => x = 0) 34)), (22, (o_ld 0 2)), (23, (o_get 11 0 2)), (26, (o_get 4 4 0)), (29, (o_ci 60)), (31, (o_if2 G Q mX11_add (d + 1) (fun a b => a < b) 36)), (100000, o_go G Q mX11_add (d + 1) 34), (34, (o_ci (-1))), (35, (o_ret Q false)), (36, (o_ld 0 2)), (37, (o_get 11 7 2)), (40, (o_ld 0 2)), (41, (o_get 11 0 2)), (44, (o_invV G d mX2_measure 2 1 0 0)), (47, (o_ld 0 2)), (48, (o_get 11 7 2)), (51, (o_ld 1 0)), (52, (o_ld 2 0)), (53, (o_invV G d mX2_fit 2 2 0 0)), (56, (o_if1 G Q mX11_add (d + 1) (fun x => ¬ x = 0) 62)), (59, (o_ci (-2))), (61, (o_ret Q false)), (62, (o_ld 0 2)), (63, (o_get 11 5 2)), (66, (o_ld 0 2)), (67, (o_get 11 0 2)), (70, (o_invV G d mX3_remember 3 1 0 0)), (73, (o_ld 0 2)), (74, (o_get 11 0 2)), (77, (o_ld 1 0)), (78, (o_ld 2 0)), (79, (o_invV G d mX4_append 4 2 0 0)), (82, (o_ret Q false))]
set_option maxRecDepth 100000 in
set_option maxHeartbeats 4000000 in
theorem kX11_add (G : ms_G) (Q : ms_Q) (d : Nat) : ms_Oc G Q mX11_add (d + 1) (tX11_add G Q d) :=
  ms_oc1 rfl (s_aload_n rfl dX11_add_0) <|
  ms_oc1 rfl (s_get (r := (RX11, TX11, 17)) rfl (by decide) rfl rfl kw_338 dX11_add_1) <|
  ms_oc1 rfl (s_iload_n rfl dX11_add_4) <|
  ms_oc1 rfl (s_invV (r := (RX4, TX4, 6)) rfl rfl kw_584 kw_585 kw_586 kw_77 kw_587 ⟨by decide +kernel, by decide +kernel, by decide +kernel⟩ (by decide) dX11_add_5) <|
  ms_oc1 rfl (s_ifeq (by decide) dX11_add_8) <|
  ms_oc1 rfl (s_aload_n rfl dX11_add_11) <|
  ms_oc1 rfl (s_get (r := (RX11, TX11, 17)) rfl (by decide) rfl rfl kw_338 dX11_add_12) <|
  ms_oc1 rfl (s_iload_n rfl dX11_add_15) <|
  ms_oc1 rfl (s_invV (r := (RX4, TX4, 6)) rfl rfl kw_584 kw_585 kw_586 kw_77 kw_587 ⟨by decide +kernel, by decide +kernel, by decide +kernel⟩ (by decide) dX11_add_16) <|
  ms_oc1 rfl (s_ifeq (by decide) dX11_add_19) <|
  ms_oc1 rfl (s_aload_n rfl dX11_add_22) <|
  ms_oc1 rfl (s_get (r := (RX11, TX11, 17)) rfl (by decide) rfl rfl kw_338 dX11_add_23) <|
  ms_oc1 rfl (s_get (r := (RX4, TX4, 6)) rfl (by decide) rfl rfl kw_132 dX11_add_26) <|
  ms_oc1 rfl (s_bipush dX11_add_29 (by decide) (by decide)) <|
  ms_occ (s_icmplt (by decide) dX11_add_31) <|
  ms_oc1 rfl (s_iconst dX11_add_34 (by decide)) <|
  ms_oc1 rfl (s_iret (b := false) rfl dX11_add_35) <|
  ms_oc1 rfl (s_aload_n rfl dX11_add_36) <|
  ms_oc1 rfl (s_get (r := (RX11, TX11, 17)) rfl (by decide) rfl rfl kw_345 dX11_add_37) <|
  ms_oc1 rfl (s_aload_n rfl dX11_add_40) <|
  ms_oc1 rfl (s_get (r := (RX11, TX11, 17)) rfl (by decide) rfl rfl kw_338 dX11_add_41) <|
  ms_oc1 rfl (s_invV (r := (RX2, TX2, 1)) rfl rfl kw_589 kw_590 kw_591 kw_80 kw_592 ⟨by decide +kernel, by decide +kernel, by decide +kernel⟩ (by decide) dX11_add_44) <|
  ms_oc1 rfl (s_aload_n rfl dX11_add_47) <|
  ms_oc1 rfl (s_get (r := (RX11, TX11, 17)) rfl (by decide) rfl rfl kw_345 dX11_add_48) <|
  ms_oc1 rfl (s_iload_n rfl dX11_add_51) <|
  ms_oc1 rfl (s_iload_n rfl dX11_add_52) <|
  ms_oc1 rfl (s_invV (r := (RX2, TX2, 1)) rfl rfl kw_614 kw_485 kw_486 kw_80 kw_487 ⟨by decide +kernel, by decide +kernel, by decide +kernel⟩ (by decide) dX11_add_53) <|
  ms_oc1 rfl (s_ifne (by decide) dX11_add_56) <|
  ms_oc1 rfl (s_bipush dX11_add_59 (by decide) (by decide)) <|
  ms_oc1 rfl (s_iret (b := false) rfl dX11_add_61) <|
  ms_oc1 rfl (s_aload_n rfl dX11_add_62) <|
  ms_oc1 rfl (s_get (r := (RX11, TX11, 17)) rfl (by decide) rfl rfl kw_343 dX11_add_63) <|
  ms_oc1 rfl (s_aload_n rfl dX11_add_66) <|
  ms_oc1 rfl (s_get (r := (RX11, TX11, 17)) rfl (by decide) rfl rfl kw_338 dX11_add_67) <|
  ms_oc1 rfl (s_invV (r := (RX3, TX3, 3)) rfl rfl kw_527 kw_528 kw_529 kw_78 kw_530 ⟨by decide +kernel, by decide +kernel, by decide +kernel⟩ (by decide) dX11_add_70) <|
  ms_oc1 rfl (s_aload_n rfl dX11_add_73) <|
  ms_oc1 rfl (s_get (r := (RX11, TX11, 17)) rfl (by decide) rfl rfl kw_338 dX11_add_74) <|
  ms_oc1 rfl (s_iload_n rfl dX11_add_77) <|
  ms_oc1 rfl (s_iload_n rfl dX11_add_78) <|
  ms_oc1 rfl (s_invV (r := (RX4, TX4, 6)) rfl rfl kw_615 kw_494 kw_495 kw_77 kw_496 ⟨by decide +kernel, by decide +kernel, by decide +kernel⟩ (by decide) dX11_add_79) <|
  ms_oc0 (s_iret (b := false) rfl dX11_add_82)

def tX11_want (G : ms_G) (Q : ms_Q) (d : Nat) : List (Nat × ms_T) := [(0, (o_ld 1 0)), (1, (o_if1 G Q mX11_want (d + 1) (fun x => x < 0) 31)), (4, (o_ld 1 0)), (5, (o_ld 0 2)), (6, (o_get 11 0 2)), (9, (o_get 4 5 0)), (12, (o_if2 G Q mX11_want (d + 1) (fun a b => b < a) 31)), (15, (o_ld 1 0)), (16, (o_ci 4)), (17, (o_if2 G Q mX11_want (d + 1) (fun a b => b ≤ a) 31)), (20, (o_ld 0 2)), (21, (o_get 11 0 2)), (24, (o_ld 2 0)), (25, (o_invV G d mX4_has 4 1 0 0)), (28, (o_if1 G Q mX11_want (d + 1) (fun x => ¬ x = 0) 33)), (100000, o_go G Q mX11_want (d + 1) 31), (31, (o_ci (-1))), (32, (o_ret Q false)), (33, (o_ld 0 2)), (34, (o_get 11 5 2)), (37, (o_ld 0 2)), (38, (o_get 11 0 2)), (41, (o_invV G d mX3_remember 3 1 0 0)), (44, (o_ld 0 2)), (45, (o_get 11 0 2)), (48, (o_get 4 2 2)), (51, (o_ld 1 0)), (52, (o_ld 2 0)), (53, (o_ast 100 0 (fun x => x))), (54, (o_ld 0 2)), (55, (o_get 11 0 2)), (58, (o_ld 0 2)), (59, (o_get 11 0 2)), (62, (o_get 4 5 0)), (65, (o_ld 1 0)), (66, (o_ci 1)), (67, (o_bin (fun a b => w32 (a + b)))), (68, (o_mx (fun a b => if a < b then b else a))), (71, (o_put 4 5 0)), (74, (o_ld 0 2)), (75, (o_get 11 0 2)), (78, (o_get 4 5 0)), (81, (o_ret Q false))]
set_option maxRecDepth 100000 in
set_option maxHeartbeats 4000000 in
theorem kX11_want (G : ms_G) (Q : ms_Q) (d : Nat) : ms_Oc G Q mX11_want (d + 1) (tX11_want G Q d) :=
  ms_oc1 rfl (s_iload_n rfl dX11_want_0) <|
  ms_oc1 rfl (s_iflt (by decide) dX11_want_1) <|
  ms_oc1 rfl (s_iload_n rfl dX11_want_4) <|
  ms_oc1 rfl (s_aload_n rfl dX11_want_5) <|
  ms_oc1 rfl (s_get (r := (RX11, TX11, 17)) rfl (by decide) rfl rfl kw_338 dX11_want_6) <|
  ms_oc1 rfl (s_get (r := (RX4, TX4, 6)) rfl (by decide) rfl rfl kw_137 dX11_want_9) <|
  ms_oc1 rfl (s_icmpgt (by decide) dX11_want_12) <|
  ms_oc1 rfl (s_iload_n rfl dX11_want_15) <|
  ms_oc1 rfl (s_iconst dX11_want_16 (by decide)) <|
  ms_oc1 rfl (s_icmpge (by decide) dX11_want_17) <|
  ms_oc1 rfl (s_aload_n rfl dX11_want_20) <|
  ms_oc1 rfl (s_get (r := (RX11, TX11, 17)) rfl (by decide) rfl rfl kw_338 dX11_want_21) <|
  ms_oc1 rfl (s_iload_n rfl dX11_want_24) <|
  ms_oc1 rfl (s_invV (r := (RX4, TX4, 6)) rfl rfl kw_584 kw_585 kw_586 kw_77 kw_587 ⟨by decide +kernel, by decide +kernel, by decide +kernel⟩ (by decide) dX11_want_25) <|
  ms_occ (s_ifne (by decide) dX11_want_28) <|
  ms_oc1 rfl (s_iconst dX11_want_31 (by decide)) <|
  ms_oc1 rfl (s_iret (b := false) rfl dX11_want_32) <|
  ms_oc1 rfl (s_aload_n rfl dX11_want_33) <|
  ms_oc1 rfl (s_get (r := (RX11, TX11, 17)) rfl (by decide) rfl rfl kw_343 dX11_want_34) <|
  ms_oc1 rfl (s_aload_n rfl dX11_want_37) <|
  ms_oc1 rfl (s_get (r := (RX11, TX11, 17)) rfl (by decide) rfl rfl kw_338 dX11_want_38) <|
  ms_oc1 rfl (s_invV (r := (RX3, TX3, 3)) rfl rfl kw_527 kw_528 kw_529 kw_78 kw_530 ⟨by decide +kernel, by decide +kernel, by decide +kernel⟩ (by decide) dX11_want_41) <|
  ms_oc1 rfl (s_aload_n rfl dX11_want_44) <|
  ms_oc1 rfl (s_get (r := (RX11, TX11, 17)) rfl (by decide) rfl rfl kw_338 dX11_want_45) <|
  ms_oc1 rfl (s_get (r := (RX4, TX4, 6)) rfl (by decide) rfl rfl kw_124 dX11_want_48) <|
  ms_oc1 rfl (s_iload_n rfl dX11_want_51) <|
  ms_oc1 rfl (s_iload_n rfl dX11_want_52) <|
  ms_oc1 rfl (s_iastore dX11_want_53) <|
  ms_oc1 rfl (s_aload_n rfl dX11_want_54) <|
  ms_oc1 rfl (s_get (r := (RX11, TX11, 17)) rfl (by decide) rfl rfl kw_338 dX11_want_55) <|
  ms_oc1 rfl (s_aload_n rfl dX11_want_58) <|
  ms_oc1 rfl (s_get (r := (RX11, TX11, 17)) rfl (by decide) rfl rfl kw_338 dX11_want_59) <|
  ms_oc1 rfl (s_get (r := (RX4, TX4, 6)) rfl (by decide) rfl rfl kw_137 dX11_want_62) <|
  ms_oc1 rfl (s_iload_n rfl dX11_want_65) <|
  ms_oc1 rfl (s_iconst dX11_want_66 (by decide)) <|
  ms_oc1 rfl (s_iadd dX11_want_67) <|
  ms_oc1 rfl (s_mmax kw_620 kw_574 kw_91 kw_575 dX11_want_68) <|
  ms_oc1 rfl (s_put (r := (RX4, TX4, 6)) rfl (by decide) rfl rfl (ms_nar0 rfl) (Or.inl rfl) kw_137 dX11_want_71) <|
  ms_oc1 rfl (s_aload_n rfl dX11_want_74) <|
  ms_oc1 rfl (s_get (r := (RX11, TX11, 17)) rfl (by decide) rfl rfl kw_338 dX11_want_75) <|
  ms_oc1 rfl (s_get (r := (RX4, TX4, 6)) rfl (by decide) rfl rfl kw_137 dX11_want_78) <|
  ms_oc0 (s_iret (b := false) rfl dX11_want_81)

def tX11_prune (G : ms_G) (Q : ms_Q) (d : Nat) : List (Nat × ms_T) := [(0, (o_ld 0 2)), (1, (o_get 11 6 2)), (4, (o_ld 0 2)), (5, (o_get 11 0 2)), (8, (o_invV G d mX6_markNeeded 6 1 0 0)), (11, (o_ci 0)), (12, (o_st 1 0)), (100000, o_go G Q mX11_prune (d + 1) 13), (13, (o_ld 1 0)), (14, (o_ld 0 2)), (15, (o_get 11 0 2)), (18, (o_invV G d mX4_size 4 0 0 0)), (21, (o_if2 G Q mX11_prune (d + 1) (fun a b => b ≤ a) 64)), (24, (o_ld 0 2)), (25, (o_get 11 9 2)), (28, (o_ld 1 0)), (29, (o_ld 0 2)), (30, (o_get 11 0 2)), (33, (o_ld 1 0)), (34, (o_invV G d mX4_isBase 4 1 0 0)), (37, (o_if1 G Q mX11_prune (d + 1) (fun x => ¬ x = 0) 52)), (40, (o_ld 0 2)), (41, (o_get 11 6 2)), (44, (o_get 6 1 2)), (47, (o_ld 1 0)), (48, o_bald), (49, (o_if1 G Q mX11_prune (d + 1) (fun x => x = 0) 56)), (100000, o_go G Q mX11_prune (d + 1) 52), (52, (o_ld 1 0)), (53, (o_go G Q mX11_prune (d + 1) 57)), (56, (o_ci (-1))), (100000, o_go G Q mX11_prune (d + 1) 57), (57, (o_ast 100 0 (fun x => x))), (58, (o_inc 1 1)), (61, (o_go G Q mX11_prune (d + 1) 13)), (64, (o_ld 0 2)), (65, (o_invV G d mX11_dropSteps 11 0 0 0)), (68, (o_ret Q false))]
set_option maxRecDepth 100000 in
set_option maxHeartbeats 4000000 in
theorem kX11_prune (G : ms_G) (Q : ms_Q) (d : Nat) : ms_Oc G Q mX11_prune (d + 1) (tX11_prune G Q d) :=
  ms_oc1 rfl (s_aload_n rfl dX11_prune_0) <|
  ms_oc1 rfl (s_get (r := (RX11, TX11, 17)) rfl (by decide) rfl rfl kw_344 dX11_prune_1) <|
  ms_oc1 rfl (s_aload_n rfl dX11_prune_4) <|
  ms_oc1 rfl (s_get (r := (RX11, TX11, 17)) rfl (by decide) rfl rfl kw_338 dX11_prune_5) <|
  ms_oc1 rfl (s_invV (r := (RX6, TX6, 2)) rfl rfl kw_625 kw_560 kw_561 kw_79 kw_562 ⟨by decide +kernel, by decide +kernel, by decide +kernel⟩ (by decide) dX11_prune_8) <|
  ms_oc1 rfl (s_iconst dX11_prune_11 (by decide)) <|
  ms_occ (s_istore_n rfl (by decide) dX11_prune_12) <|
  ms_oc1 rfl (s_iload_n rfl dX11_prune_13) <|
  ms_oc1 rfl (s_aload_n rfl dX11_prune_14) <|
  ms_oc1 rfl (s_get (r := (RX11, TX11, 17)) rfl (by decide) rfl rfl kw_338 dX11_prune_15) <|
  ms_oc1 rfl (s_invV (r := (RX4, TX4, 6)) rfl rfl kw_626 kw_449 kw_450 kw_77 kw_451 ⟨by decide +kernel, by decide +kernel, by decide +kernel⟩ (by decide) dX11_prune_18) <|
  ms_oc1 rfl (s_icmpge (by decide) dX11_prune_21) <|
  ms_oc1 rfl (s_aload_n rfl dX11_prune_24) <|
  ms_oc1 rfl (s_get (r := (RX11, TX11, 17)) rfl (by decide) rfl rfl kw_347 dX11_prune_25) <|
  ms_oc1 rfl (s_iload_n rfl dX11_prune_28) <|
  ms_oc1 rfl (s_aload_n rfl dX11_prune_29) <|
  ms_oc1 rfl (s_get (r := (RX11, TX11, 17)) rfl (by decide) rfl rfl kw_338 dX11_prune_30) <|
  ms_oc1 rfl (s_iload_n rfl dX11_prune_33) <|
  ms_oc1 rfl (s_invV (r := (RX4, TX4, 6)) rfl rfl kw_627 kw_552 kw_553 kw_77 kw_554 ⟨by decide +kernel, by decide +kernel, by decide +kernel⟩ (by decide) dX11_prune_34) <|
  ms_oc1 rfl (s_ifne (by decide) dX11_prune_37) <|
  ms_oc1 rfl (s_aload_n rfl dX11_prune_40) <|
  ms_oc1 rfl (s_get (r := (RX11, TX11, 17)) rfl (by decide) rfl rfl kw_344 dX11_prune_41) <|
  ms_oc1 rfl (s_get (r := (RX6, TX6, 2)) rfl (by decide) rfl rfl kw_184 dX11_prune_44) <|
  ms_oc1 rfl (s_iload_n rfl dX11_prune_47) <|
  ms_oc1 rfl (s_baload dX11_prune_48) <|
  ms_occ (s_ifeq (by decide) dX11_prune_49) <|
  ms_oc1 rfl (s_iload_n rfl dX11_prune_52) <|
  ms_oc1 rfl (s_goto (by decide) dX11_prune_53) <|
  ms_occ (s_iconst dX11_prune_56 (by decide)) <|
  ms_oc1 rfl (s_iastore dX11_prune_57) <|
  ms_oc1 rfl (s_iinc (by decide) dX11_prune_58) <|
  ms_oc1 rfl (s_goto (by decide) dX11_prune_61) <|
  ms_oc1 rfl (s_aload_n rfl dX11_prune_64) <|
  ms_oc1 rfl (s_invV (r := (RX11, TX11, 17)) rfl rfl kw_628 kw_630 kw_18 kw_76 kw_631 ⟨by decide +kernel, by decide +kernel, by decide +kernel⟩ (by decide) dX11_prune_65) <|
  ms_oc0 (s_iret (b := false) rfl dX11_prune_68)

def tX11_fold (G : ms_G) (Q : ms_Q) (d : Nat) : List (Nat × ms_T) := [(0, (o_ld 0 2)), (1, (o_get 11 7 2)), (4, (o_ld 0 2)), (5, (o_get 11 0 2)), (8, (o_invV G d mX2_measure 2 1 0 0)), (11, (o_ci 0)), (12, (o_st 1 0)), (100000, o_go G Q mX11_fold (d + 1) 13), (13, (o_ld 1 0)), (14, (o_ld 0 2)), (15, (o_get 11 0 2)), (18, (o_invV G d mX4_size 4 0 0 0)), (21, (o_if2 G Q mX11_fold (d + 1) (fun a b => b ≤ a) 44)), (24, (o_ld 0 2)), (25, (o_get 11 9 2)), (28, (o_ld 1 0)), (29, (o_ld 0 2)), (30, (o_get 11 7 2)), (33, (o_ld 1 0)), (34, (o_invV G d mX2_firstAlike 2 1 0 0)), (37, (o_ast 100 0 (fun x => x))), (38, (o_inc 1 1)), (41, (o_go G Q mX11_fold (d + 1) 13)), (44, (o_ld 0 2)), (45, (o_invV G d mX11_dropSteps 11 0 0 0)), (48, (o_ret Q false))]
set_option maxRecDepth 100000 in
set_option maxHeartbeats 4000000 in
theorem kX11_fold (G : ms_G) (Q : ms_Q) (d : Nat) : ms_Oc G Q mX11_fold (d + 1) (tX11_fold G Q d) :=
  ms_oc1 rfl (s_aload_n rfl dX11_fold_0) <|
  ms_oc1 rfl (s_get (r := (RX11, TX11, 17)) rfl (by decide) rfl rfl kw_345 dX11_fold_1) <|
  ms_oc1 rfl (s_aload_n rfl dX11_fold_4) <|
  ms_oc1 rfl (s_get (r := (RX11, TX11, 17)) rfl (by decide) rfl rfl kw_338 dX11_fold_5) <|
  ms_oc1 rfl (s_invV (r := (RX2, TX2, 1)) rfl rfl kw_589 kw_590 kw_591 kw_80 kw_592 ⟨by decide +kernel, by decide +kernel, by decide +kernel⟩ (by decide) dX11_fold_8) <|
  ms_oc1 rfl (s_iconst dX11_fold_11 (by decide)) <|
  ms_occ (s_istore_n rfl (by decide) dX11_fold_12) <|
  ms_oc1 rfl (s_iload_n rfl dX11_fold_13) <|
  ms_oc1 rfl (s_aload_n rfl dX11_fold_14) <|
  ms_oc1 rfl (s_get (r := (RX11, TX11, 17)) rfl (by decide) rfl rfl kw_338 dX11_fold_15) <|
  ms_oc1 rfl (s_invV (r := (RX4, TX4, 6)) rfl rfl kw_626 kw_449 kw_450 kw_77 kw_451 ⟨by decide +kernel, by decide +kernel, by decide +kernel⟩ (by decide) dX11_fold_18) <|
  ms_oc1 rfl (s_icmpge (by decide) dX11_fold_21) <|
  ms_oc1 rfl (s_aload_n rfl dX11_fold_24) <|
  ms_oc1 rfl (s_get (r := (RX11, TX11, 17)) rfl (by decide) rfl rfl kw_347 dX11_fold_25) <|
  ms_oc1 rfl (s_iload_n rfl dX11_fold_28) <|
  ms_oc1 rfl (s_aload_n rfl dX11_fold_29) <|
  ms_oc1 rfl (s_get (r := (RX11, TX11, 17)) rfl (by decide) rfl rfl kw_345 dX11_fold_30) <|
  ms_oc1 rfl (s_iload_n rfl dX11_fold_33) <|
  ms_oc1 rfl (s_invV (r := (RX2, TX2, 1)) rfl rfl kw_640 kw_641 kw_642 kw_80 kw_643 ⟨by decide +kernel, by decide +kernel, by decide +kernel⟩ (by decide) dX11_fold_34) <|
  ms_oc1 rfl (s_iastore dX11_fold_37) <|
  ms_oc1 rfl (s_iinc (by decide) dX11_fold_38) <|
  ms_oc1 rfl (s_goto (by decide) dX11_fold_41) <|
  ms_oc1 rfl (s_aload_n rfl dX11_fold_44) <|
  ms_oc1 rfl (s_invV (r := (RX11, TX11, 17)) rfl rfl kw_628 kw_630 kw_18 kw_76 kw_631 ⟨by decide +kernel, by decide +kernel, by decide +kernel⟩ (by decide) dX11_fold_45) <|
  ms_oc0 (s_iret (b := false) rfl dX11_fold_48)

def tX11_dual (G : ms_G) (Q : ms_Q) (d : Nat) : List (Nat × ms_T) := [(0, (o_ld 0 2)), (1, (o_get 11 13 2)), (4, (o_ld 0 2)), (5, (o_get 11 0 2)), (8, (o_ld 0 2)), (9, (o_get 11 1 2)), (12, (o_invV G d mX10_turn 10 2 0 0)), (15, (o_if1 G Q mX11_dual (d + 1) (fun x => x = 0) 29)), (18, (o_ld 0 2)), (19, (o_ld 0 2)), (20, (o_get 11 1 2)), (23, (o_invV G d mX11_adopt 11 1 0 0)), (26, (o_go G Q mX11_dual (d + 1) 30)), (29, (o_ci (-1))), (100000, o_go G Q mX11_dual (d + 1) 30), (30, (o_ret Q false))]
set_option maxRecDepth 100000 in
set_option maxHeartbeats 4000000 in
theorem kX11_dual (G : ms_G) (Q : ms_Q) (d : Nat) : ms_Oc G Q mX11_dual (d + 1) (tX11_dual G Q d) :=
  ms_oc1 rfl (s_aload_n rfl dX11_dual_0) <|
  ms_oc1 rfl (s_get (r := (RX11, TX11, 17)) rfl (by decide) rfl rfl kw_351 dX11_dual_1) <|
  ms_oc1 rfl (s_aload_n rfl dX11_dual_4) <|
  ms_oc1 rfl (s_get (r := (RX11, TX11, 17)) rfl (by decide) rfl rfl kw_338 dX11_dual_5) <|
  ms_oc1 rfl (s_aload_n rfl dX11_dual_8) <|
  ms_oc1 rfl (s_get (r := (RX11, TX11, 17)) rfl (by decide) rfl rfl kw_339 dX11_dual_9) <|
  ms_oc1 rfl (s_invV (r := (RX10, TX10, 1)) rfl rfl kw_652 kw_653 kw_654 kw_84 kw_655 ⟨by decide +kernel, by decide +kernel, by decide +kernel⟩ (by decide) dX11_dual_12) <|
  ms_oc1 rfl (s_ifeq (by decide) dX11_dual_15) <|
  ms_oc1 rfl (s_aload_n rfl dX11_dual_18) <|
  ms_oc1 rfl (s_aload_n rfl dX11_dual_19) <|
  ms_oc1 rfl (s_get (r := (RX11, TX11, 17)) rfl (by decide) rfl rfl kw_339 dX11_dual_20) <|
  ms_oc1 rfl (s_invV (r := (RX11, TX11, 17)) rfl rfl kw_523 kw_525 kw_16 kw_76 kw_526 ⟨by decide +kernel, by decide +kernel, by decide +kernel⟩ (by decide) dX11_dual_23) <|
  ms_oc1 rfl (s_goto (by decide) dX11_dual_26) <|
  ms_occ (s_iconst dX11_dual_29 (by decide)) <|
  ms_oc0 (s_iret (b := false) rfl dX11_dual_30)

def tX11_dualLong (G : ms_G) (Q : ms_Q) (d : Nat) : List (Nat × ms_T) := [(0, (o_ld 0 2)), (1, (o_get 11 13 2)), (4, (o_ld 0 2)), (5, (o_get 11 0 2)), (8, (o_ld 0 2)), (9, (o_get 11 1 2)), (12, (o_invV G d mX10_turn 10 2 0 0)), (15, (o_if1 G Q mX11_dualLong (d + 1) (fun x => x = 0) 28)), (18, (o_ld 0 2)), (19, (o_get 11 1 2)), (22, (o_get 4 4 0)), (25, (o_go G Q mX11_dualLong (d + 1) 29)), (28, (o_ci (-1))), (100000, o_go G Q mX11_dualLong (d + 1) 29), (29, (o_ret Q false))]
set_option maxRecDepth 100000 in
set_option maxHeartbeats 4000000 in
theorem kX11_dualLong (G : ms_G) (Q : ms_Q) (d : Nat) : ms_Oc G Q mX11_dualLong (d + 1) (tX11_dualLong G Q d) :=
  ms_oc1 rfl (s_aload_n rfl dX11_dualLong_0) <|
  ms_oc1 rfl (s_get (r := (RX11, TX11, 17)) rfl (by decide) rfl rfl kw_351 dX11_dualLong_1) <|
  ms_oc1 rfl (s_aload_n rfl dX11_dualLong_4) <|
  ms_oc1 rfl (s_get (r := (RX11, TX11, 17)) rfl (by decide) rfl rfl kw_338 dX11_dualLong_5) <|
  ms_oc1 rfl (s_aload_n rfl dX11_dualLong_8) <|
  ms_oc1 rfl (s_get (r := (RX11, TX11, 17)) rfl (by decide) rfl rfl kw_339 dX11_dualLong_9) <|
  ms_oc1 rfl (s_invV (r := (RX10, TX10, 1)) rfl rfl kw_652 kw_653 kw_654 kw_84 kw_655 ⟨by decide +kernel, by decide +kernel, by decide +kernel⟩ (by decide) dX11_dualLong_12) <|
  ms_oc1 rfl (s_ifeq (by decide) dX11_dualLong_15) <|
  ms_oc1 rfl (s_aload_n rfl dX11_dualLong_18) <|
  ms_oc1 rfl (s_get (r := (RX11, TX11, 17)) rfl (by decide) rfl rfl kw_339 dX11_dualLong_19) <|
  ms_oc1 rfl (s_get (r := (RX4, TX4, 6)) rfl (by decide) rfl rfl kw_132 dX11_dualLong_22) <|
  ms_oc1 rfl (s_goto (by decide) dX11_dualLong_25) <|
  ms_occ (s_iconst dX11_dualLong_28 (by decide)) <|
  ms_oc0 (s_iret (b := false) rfl dX11_dualLong_29)

def tX11_sequence (G : ms_G) (Q : ms_Q) (d : Nat) : List (Nat × ms_T) := [(0, (o_ld 0 2)), (1, (o_get 11 14 2)), (4, (o_ld 2 0)), (5, (o_ld 3 0)), (6, (o_ld 4 0)), (8, (o_ld 5 0)), (10, (o_invV G d mX1_tell 1 4 0 0)), (13, (o_ld 0 2)), (14, (o_get 11 14 2)), (17, (o_ld 1 0)), (18, (o_ld 0 2)), (19, (o_get 11 1 2)), (22, (o_invV G d mX1_build 1 2 0 0)), (25, (o_if1 G Q mX11_sequence (d + 1) (fun x => x = 0) 39)), (28, (o_ld 0 2)), (29, (o_ld 0 2)), (30, (o_get 11 1 2)), (33, (o_invV G d mX11_adopt 11 1 0 0)), (36, (o_go G Q mX11_sequence (d + 1) 40)), (39, (o_ci (-1))), (100000, o_go G Q mX11_sequence (d + 1) 40), (40, (o_ret Q false))]
set_option maxRecDepth 100000 in
set_option maxHeartbeats 4000000 in
theorem kX11_sequence (G : ms_G) (Q : ms_Q) (d : Nat) : ms_Oc G Q mX11_sequence (d + 1) (tX11_sequence G Q d) :=
  ms_oc1 rfl (s_aload_n rfl dX11_sequence_0) <|
  ms_oc1 rfl (s_get (r := (RX11, TX11, 17)) rfl (by decide) rfl rfl kw_352 dX11_sequence_1) <|
  ms_oc1 rfl (s_iload_n rfl dX11_sequence_4) <|
  ms_oc1 rfl (s_iload_n rfl dX11_sequence_5) <|
  ms_oc1 rfl (s_iload dX11_sequence_6) <|
  ms_oc1 rfl (s_iload dX11_sequence_8) <|
  ms_oc1 rfl (s_invV (r := (RX1, TX1, 4)) rfl rfl kw_684 kw_685 kw_686 kw_85 kw_687 ⟨by decide +kernel, by decide +kernel, by decide +kernel⟩ (by decide) dX11_sequence_10) <|
  ms_oc1 rfl (s_aload_n rfl dX11_sequence_13) <|
  ms_oc1 rfl (s_get (r := (RX11, TX11, 17)) rfl (by decide) rfl rfl kw_352 dX11_sequence_14) <|
  ms_oc1 rfl (s_iload_n rfl dX11_sequence_17) <|
  ms_oc1 rfl (s_aload_n rfl dX11_sequence_18) <|
  ms_oc1 rfl (s_get (r := (RX11, TX11, 17)) rfl (by decide) rfl rfl kw_339 dX11_sequence_19) <|
  ms_oc1 rfl (s_invV (r := (RX1, TX1, 4)) rfl rfl kw_688 kw_689 kw_690 kw_85 kw_691 ⟨by decide +kernel, by decide +kernel, by decide +kernel⟩ (by decide) dX11_sequence_22) <|
  ms_oc1 rfl (s_ifeq (by decide) dX11_sequence_25) <|
  ms_oc1 rfl (s_aload_n rfl dX11_sequence_28) <|
  ms_oc1 rfl (s_aload_n rfl dX11_sequence_29) <|
  ms_oc1 rfl (s_get (r := (RX11, TX11, 17)) rfl (by decide) rfl rfl kw_339 dX11_sequence_30) <|
  ms_oc1 rfl (s_invV (r := (RX11, TX11, 17)) rfl rfl kw_523 kw_525 kw_16 kw_76 kw_526 ⟨by decide +kernel, by decide +kernel, by decide +kernel⟩ (by decide) dX11_sequence_33) <|
  ms_oc1 rfl (s_goto (by decide) dX11_sequence_36) <|
  ms_occ (s_iconst dX11_sequence_39 (by decide)) <|
  ms_oc0 (s_iret (b := false) rfl dX11_sequence_40)

def tX11_vector (G : ms_G) (Q : ms_Q) (d : Nat) : List (Nat × ms_T) := [(0, (o_ld 0 2)), (1, (o_get 11 14 2)), (4, (o_ld 2 0)), (5, (o_ld 3 0)), (6, (o_ld 4 0)), (8, (o_ld 5 0)), (10, (o_invV G d mX1_tell 1 4 0 0)), (13, (o_ld 0 2)), (14, (o_get 11 14 2)), (17, (o_ld 1 0)), (18, (o_ld 0 2)), (19, (o_get 11 2 2)), (22, (o_invV G d mX1_build 1 2 0 0)), (25, (o_if1 G Q mX11_vector (d + 1) (fun x => x = 0) 57)), (28, (o_ld 0 2)), (29, (o_get 11 13 2)), (32, (o_ld 0 2)), (33, (o_get 11 2 2)), (36, (o_ld 0 2)), (37, (o_get 11 1 2)), (40, (o_invV G d mX10_turn 10 2 0 0)), (43, (o_if1 G Q mX11_vector (d + 1) (fun x => x = 0) 57)), (46, (o_ld 0 2)), (47, (o_ld 0 2)), (48, (o_get 11 1 2)), (51, (o_invV G d mX11_adopt 11 1 0 0)), (54, (o_go G Q mX11_vector (d + 1) 58)), (57, (o_ci (-1))), (100000, o_go G Q mX11_vector (d + 1) 58), (58, (o_ret Q false))]
set_option maxRecDepth 100000 in
set_option maxHeartbeats 4000000 in
theorem kX11_vector (G : ms_G) (Q : ms_Q) (d : Nat) : ms_Oc G Q mX11_vector (d + 1) (tX11_vector G Q d) :=
  ms_oc1 rfl (s_aload_n rfl dX11_vector_0) <|
  ms_oc1 rfl (s_get (r := (RX11, TX11, 17)) rfl (by decide) rfl rfl kw_352 dX11_vector_1) <|
  ms_oc1 rfl (s_iload_n rfl dX11_vector_4) <|
  ms_oc1 rfl (s_iload_n rfl dX11_vector_5) <|
  ms_oc1 rfl (s_iload dX11_vector_6) <|
  ms_oc1 rfl (s_iload dX11_vector_8) <|
  ms_oc1 rfl (s_invV (r := (RX1, TX1, 4)) rfl rfl kw_684 kw_685 kw_686 kw_85 kw_687 ⟨by decide +kernel, by decide +kernel, by decide +kernel⟩ (by decide) dX11_vector_10) <|
  ms_oc1 rfl (s_aload_n rfl dX11_vector_13) <|
  ms_oc1 rfl (s_get (r := (RX11, TX11, 17)) rfl (by decide) rfl rfl kw_352 dX11_vector_14) <|
  ms_oc1 rfl (s_iload_n rfl dX11_vector_17) <|
  ms_oc1 rfl (s_aload_n rfl dX11_vector_18) <|
  ms_oc1 rfl (s_get (r := (RX11, TX11, 17)) rfl (by decide) rfl rfl kw_340 dX11_vector_19) <|
  ms_oc1 rfl (s_invV (r := (RX1, TX1, 4)) rfl rfl kw_688 kw_689 kw_690 kw_85 kw_691 ⟨by decide +kernel, by decide +kernel, by decide +kernel⟩ (by decide) dX11_vector_22) <|
  ms_oc1 rfl (s_ifeq (by decide) dX11_vector_25) <|
  ms_oc1 rfl (s_aload_n rfl dX11_vector_28) <|
  ms_oc1 rfl (s_get (r := (RX11, TX11, 17)) rfl (by decide) rfl rfl kw_351 dX11_vector_29) <|
  ms_oc1 rfl (s_aload_n rfl dX11_vector_32) <|
  ms_oc1 rfl (s_get (r := (RX11, TX11, 17)) rfl (by decide) rfl rfl kw_340 dX11_vector_33) <|
  ms_oc1 rfl (s_aload_n rfl dX11_vector_36) <|
  ms_oc1 rfl (s_get (r := (RX11, TX11, 17)) rfl (by decide) rfl rfl kw_339 dX11_vector_37) <|
  ms_oc1 rfl (s_invV (r := (RX10, TX10, 1)) rfl rfl kw_652 kw_653 kw_654 kw_84 kw_655 ⟨by decide +kernel, by decide +kernel, by decide +kernel⟩ (by decide) dX11_vector_40) <|
  ms_oc1 rfl (s_ifeq (by decide) dX11_vector_43) <|
  ms_oc1 rfl (s_aload_n rfl dX11_vector_46) <|
  ms_oc1 rfl (s_aload_n rfl dX11_vector_47) <|
  ms_oc1 rfl (s_get (r := (RX11, TX11, 17)) rfl (by decide) rfl rfl kw_339 dX11_vector_48) <|
  ms_oc1 rfl (s_invV (r := (RX11, TX11, 17)) rfl rfl kw_523 kw_525 kw_16 kw_76 kw_526 ⟨by decide +kernel, by decide +kernel, by decide +kernel⟩ (by decide) dX11_vector_51) <|
  ms_oc1 rfl (s_goto (by decide) dX11_vector_54) <|
  ms_occ (s_iconst dX11_vector_57 (by decide)) <|
  ms_oc0 (s_iret (b := false) rfl dX11_vector_58)

def tX11_save (G : ms_G) (Q : ms_Q) (d : Nat) : List (Nat × ms_T) := [(0, (o_ld 1 0)), (1, (o_if1 G Q mX11_save (d + 1) (fun x => x < 0) 9)), (4, (o_ld 1 0)), (5, (o_ci 3)), (6, (o_if2 G Q mX11_save (d + 1) (fun a b => a < b) 11)), (100000, o_go G Q mX11_save (d + 1) 9), (9, (o_ci (-1))), (10, (o_ret Q false)), (11, (o_ld 0 2)), (12, (o_get 11 3 2)), (15, (o_ld 1 0)), (16, (o_ald 104 2)), (17, (o_ld 0 2)), (18, (o_get 11 0 2)), (21, (o_invV G d mX4_copyFrom 4 1 0 0)), (24, (o_ld 0 2)), (25, (o_get 11 4 2)), (28, (o_ld 1 0)), (29, (o_ci 1)), (30, o_bast), (31, (o_ld 0 2)), (32, (o_get 11 0 2)), (35, (o_get 4 4 0)), (38, (o_ret Q false))]
set_option maxRecDepth 100000 in
set_option maxHeartbeats 4000000 in
theorem kX11_save (G : ms_G) (Q : ms_Q) (d : Nat) : ms_Oc G Q mX11_save (d + 1) (tX11_save G Q d) :=
  ms_oc1 rfl (s_iload_n rfl dX11_save_0) <|
  ms_oc1 rfl (s_iflt (by decide) dX11_save_1) <|
  ms_oc1 rfl (s_iload_n rfl dX11_save_4) <|
  ms_oc1 rfl (s_iconst dX11_save_5 (by decide)) <|
  ms_occ (s_icmplt (by decide) dX11_save_6) <|
  ms_oc1 rfl (s_iconst dX11_save_9 (by decide)) <|
  ms_oc1 rfl (s_iret (b := false) rfl dX11_save_10) <|
  ms_oc1 rfl (s_aload_n rfl dX11_save_11) <|
  ms_oc1 rfl (s_get (r := (RX11, TX11, 17)) rfl (by decide) rfl rfl kw_341 dX11_save_12) <|
  ms_oc1 rfl (s_iload_n rfl dX11_save_15) <|
  ms_oc1 rfl (s_aaload dX11_save_16) <|
  ms_oc1 rfl (s_aload_n rfl dX11_save_17) <|
  ms_oc1 rfl (s_get (r := (RX11, TX11, 17)) rfl (by decide) rfl rfl kw_338 dX11_save_18) <|
  ms_oc1 rfl (s_invV (r := (RX4, TX4, 6)) rfl rfl kw_538 kw_532 kw_533 kw_77 kw_534 ⟨by decide +kernel, by decide +kernel, by decide +kernel⟩ (by decide) dX11_save_21) <|
  ms_oc1 rfl (s_aload_n rfl dX11_save_24) <|
  ms_oc1 rfl (s_get (r := (RX11, TX11, 17)) rfl (by decide) rfl rfl kw_342 dX11_save_25) <|
  ms_oc1 rfl (s_iload_n rfl dX11_save_28) <|
  ms_oc1 rfl (s_iconst dX11_save_29 (by decide)) <|
  ms_oc1 rfl (s_bastore dX11_save_30) <|
  ms_oc1 rfl (s_aload_n rfl dX11_save_31) <|
  ms_oc1 rfl (s_get (r := (RX11, TX11, 17)) rfl (by decide) rfl rfl kw_338 dX11_save_32) <|
  ms_oc1 rfl (s_get (r := (RX4, TX4, 6)) rfl (by decide) rfl rfl kw_132 dX11_save_35) <|
  ms_oc0 (s_iret (b := false) rfl dX11_save_38)

def tX11_load (G : ms_G) (Q : ms_Q) (d : Nat) : List (Nat × ms_T) := [(0, (o_ld 0 2)), (1, (o_ld 1 0)), (2, (o_invV G d mX11_holds 11 1 0 0)), (5, (o_if1 G Q mX11_load (d + 1) (fun x => x = 0) 21)), (8, (o_ld 0 2)), (9, (o_ld 0 2)), (10, (o_get 11 3 2)), (13, (o_ld 1 0)), (14, (o_ald 104 2)), (15, (o_invV G d mX11_adopt 11 1 0 0)), (18, (o_go G Q mX11_load (d + 1) 22)), (21, (o_ci (-1))), (100000, o_go G Q mX11_load (d + 1) 22), (22, (o_ret Q false))]
set_option maxRecDepth 100000 in
set_option maxHeartbeats 4000000 in
theorem kX11_load (G : ms_G) (Q : ms_Q) (d : Nat) : ms_Oc G Q mX11_load (d + 1) (tX11_load G Q d) :=
  ms_oc1 rfl (s_aload_n rfl dX11_load_0) <|
  ms_oc1 rfl (s_iload_n rfl dX11_load_1) <|
  ms_oc1 rfl (s_invV (r := (RX11, TX11, 17)) rfl rfl kw_725 kw_727 kw_28 kw_76 kw_728 ⟨by decide +kernel, by decide +kernel, by decide +kernel⟩ (by decide) dX11_load_2) <|
  ms_oc1 rfl (s_ifeq (by decide) dX11_load_5) <|
  ms_oc1 rfl (s_aload_n rfl dX11_load_8) <|
  ms_oc1 rfl (s_aload_n rfl dX11_load_9) <|
  ms_oc1 rfl (s_get (r := (RX11, TX11, 17)) rfl (by decide) rfl rfl kw_341 dX11_load_10) <|
  ms_oc1 rfl (s_iload_n rfl dX11_load_13) <|
  ms_oc1 rfl (s_aaload dX11_load_14) <|
  ms_oc1 rfl (s_invV (r := (RX11, TX11, 17)) rfl rfl kw_523 kw_525 kw_16 kw_76 kw_526 ⟨by decide +kernel, by decide +kernel, by decide +kernel⟩ (by decide) dX11_load_15) <|
  ms_oc1 rfl (s_goto (by decide) dX11_load_18) <|
  ms_occ (s_iconst dX11_load_21 (by decide)) <|
  ms_oc0 (s_iret (b := false) rfl dX11_load_22)

def tX11_same (G : ms_G) (Q : ms_Q) (d : Nat) : List (Nat × ms_T) := [(0, (o_ld 0 2)), (1, (o_ld 1 0)), (2, (o_invV G d mX11_holds 11 1 0 0)), (5, (o_if1 G Q mX11_same (d + 1) (fun x => ¬ x = 0) 10)), (8, (o_ci (-1))), (9, (o_ret Q false)), (10, (o_ld 0 2)), (11, (o_get 11 7 2)), (14, (o_ld 0 2)), (15, (o_get 11 0 2)), (18, (o_invV G d mX2_measure 2 1 0 0)), (21, (o_ld 0 2)), (22, (o_get 11 8 2)), (25, (o_ld 0 2)), (26, (o_get 11 3 2)), (29, (o_ld 1 0)), (30, (o_ald 104 2)), (31, (o_invV G d mX2_measure 2 1 0 0)), (34, (o_ld 0 2)), (35, (o_ld 0 2)), (36, (o_get 11 3 2)), (39, (o_ld 1 0)), (40, (o_ald 104 2)), (41, (o_invV G d mX11_comesToTheSame 11 1 0 0)), (44, (o_if1 G Q mX11_same (d + 1) (fun x => x = 0) 51)), (47, (o_ci 1)), (48, (o_go G Q mX11_same (d + 1) 52)), (51, (o_ci 0)), (100000, o_go G Q mX11_same (d + 1) 52), (52, (o_ret Q false))]
set_option maxRecDepth 100000 in
set_option maxHeartbeats 4000000 in
theorem kX11_same (G : ms_G) (Q : ms_Q) (d : Nat) : ms_Oc G Q mX11_same (d + 1) (tX11_same G Q d) :=
  ms_oc1 rfl (s_aload_n rfl dX11_same_0) <|
  ms_oc1 rfl (s_iload_n rfl dX11_same_1) <|
  ms_oc1 rfl (s_invV (r := (RX11, TX11, 17)) rfl rfl kw_725 kw_727 kw_28 kw_76 kw_728 ⟨by decide +kernel, by decide +kernel, by decide +kernel⟩ (by decide) dX11_same_2) <|
  ms_oc1 rfl (s_ifne (by decide) dX11_same_5) <|
  ms_oc1 rfl (s_iconst dX11_same_8 (by decide)) <|
  ms_oc1 rfl (s_iret (b := false) rfl dX11_same_9) <|
  ms_oc1 rfl (s_aload_n rfl dX11_same_10) <|
  ms_oc1 rfl (s_get (r := (RX11, TX11, 17)) rfl (by decide) rfl rfl kw_345 dX11_same_11) <|
  ms_oc1 rfl (s_aload_n rfl dX11_same_14) <|
  ms_oc1 rfl (s_get (r := (RX11, TX11, 17)) rfl (by decide) rfl rfl kw_338 dX11_same_15) <|
  ms_oc1 rfl (s_invV (r := (RX2, TX2, 1)) rfl rfl kw_589 kw_590 kw_591 kw_80 kw_592 ⟨by decide +kernel, by decide +kernel, by decide +kernel⟩ (by decide) dX11_same_18) <|
  ms_oc1 rfl (s_aload_n rfl dX11_same_21) <|
  ms_oc1 rfl (s_get (r := (RX11, TX11, 17)) rfl (by decide) rfl rfl kw_346 dX11_same_22) <|
  ms_oc1 rfl (s_aload_n rfl dX11_same_25) <|
  ms_oc1 rfl (s_get (r := (RX11, TX11, 17)) rfl (by decide) rfl rfl kw_341 dX11_same_26) <|
  ms_oc1 rfl (s_iload_n rfl dX11_same_29) <|
  ms_oc1 rfl (s_aaload dX11_same_30) <|
  ms_oc1 rfl (s_invV (r := (RX2, TX2, 1)) rfl rfl kw_589 kw_590 kw_591 kw_80 kw_592 ⟨by decide +kernel, by decide +kernel, by decide +kernel⟩ (by decide) dX11_same_31) <|
  ms_oc1 rfl (s_aload_n rfl dX11_same_34) <|
  ms_oc1 rfl (s_aload_n rfl dX11_same_35) <|
  ms_oc1 rfl (s_get (r := (RX11, TX11, 17)) rfl (by decide) rfl rfl kw_341 dX11_same_36) <|
  ms_oc1 rfl (s_iload_n rfl dX11_same_39) <|
  ms_oc1 rfl (s_aaload dX11_same_40) <|
  ms_oc1 rfl (s_invV (r := (RX11, TX11, 17)) rfl rfl kw_733 kw_735 kw_29 kw_76 kw_736 ⟨by decide +kernel, by decide +kernel, by decide +kernel⟩ (by decide) dX11_same_41) <|
  ms_oc1 rfl (s_ifeq (by decide) dX11_same_44) <|
  ms_oc1 rfl (s_iconst dX11_same_47 (by decide)) <|
  ms_oc1 rfl (s_goto (by decide) dX11_same_48) <|
  ms_occ (s_iconst dX11_same_51 (by decide)) <|
  ms_oc0 (s_iret (b := false) rfl dX11_same_52)

def tX11_undo (G : ms_G) (Q : ms_Q) (d : Nat) : List (Nat × ms_T) := [(0, (o_ld 0 2)), (1, (o_get 11 5 2)), (4, (o_ld 0 2)), (5, (o_get 11 0 2)), (8, (o_invV G d mX3_takeBack 3 1 0 0)), (11, (o_ret Q false))]
set_option maxRecDepth 100000 in
set_option maxHeartbeats 4000000 in
theorem kX11_undo (G : ms_G) (Q : ms_Q) (d : Nat) : ms_Oc G Q mX11_undo (d + 1) (tX11_undo G Q d) :=
  ms_oc1 rfl (s_aload_n rfl dX11_undo_0) <|
  ms_oc1 rfl (s_get (r := (RX11, TX11, 17)) rfl (by decide) rfl rfl kw_343 dX11_undo_1) <|
  ms_oc1 rfl (s_aload_n rfl dX11_undo_4) <|
  ms_oc1 rfl (s_get (r := (RX11, TX11, 17)) rfl (by decide) rfl rfl kw_338 dX11_undo_5) <|
  ms_oc1 rfl (s_invV (r := (RX3, TX3, 3)) rfl rfl kw_741 kw_742 kw_743 kw_78 kw_744 ⟨by decide +kernel, by decide +kernel, by decide +kernel⟩ (by decide) dX11_undo_8) <|
  ms_oc0 (s_iret (b := false) rfl dX11_undo_11)

def tX11_method (G : ms_G) (Q : ms_Q) (d : Nat) : List (Nat × ms_T) := [(0, (o_ld 0 2)), (1, (o_get 11 15 2)), (4, (o_ld 1 0)), (5, (o_ld 2 0)), (6, (o_invV G d mX0_make 0 2 0 0)), (9, (o_if1 G Q mX11_method (d + 1) (fun x => x = 0) 24)), (12, (o_ld 0 2)), (13, (o_get 11 15 2)), (16, (o_get 0 1 0)), (19, (o_ci 1)), (20, (o_bin (fun a b => w32 (a - b)))), (21, (o_go G Q mX11_method (d + 1) 25)), (24, (o_ci (-1))), (100000, o_go G Q mX11_method (d + 1) 25), (25, (o_ret Q false))]
set_option maxRecDepth 100000 in
set_option maxHeartbeats 4000000 in
theorem kX11_method (G : ms_G) (Q : ms_Q) (d : Nat) : ms_Oc G Q mX11_method (d + 1) (tX11_method G Q d) :=
  ms_oc1 rfl (s_aload_n rfl dX11_method_0) <|
  ms_oc1 rfl (s_get (r := (RX11, TX11, 17)) rfl (by decide) rfl rfl kw_353 dX11_method_1) <|
  ms_oc1 rfl (s_iload_n rfl dX11_method_4) <|
  ms_oc1 rfl (s_iload_n rfl dX11_method_5) <|
  ms_oc1 rfl (s_invV (r := (RX0, TX0, 2)) rfl rfl kw_749 kw_750 kw_751 kw_86 kw_752 ⟨by decide +kernel, by decide +kernel, by decide +kernel⟩ (by decide) dX11_method_6) <|
  ms_oc1 rfl (s_ifeq (by decide) dX11_method_9) <|
  ms_oc1 rfl (s_aload_n rfl dX11_method_12) <|
  ms_oc1 rfl (s_get (r := (RX11, TX11, 17)) rfl (by decide) rfl rfl kw_353 dX11_method_13) <|
  ms_oc1 rfl (s_get (r := (RX0, TX0, 2)) rfl (by decide) rfl rfl kw_304 dX11_method_16) <|
  ms_oc1 rfl (s_iconst dX11_method_19 (by decide)) <|
  ms_oc1 rfl (s_isub dX11_method_20) <|
  ms_oc1 rfl (s_goto (by decide) dX11_method_21) <|
  ms_occ (s_iconst dX11_method_24 (by decide)) <|
  ms_oc0 (s_iret (b := false) rfl dX11_method_25)

def tX11_chain (G : ms_G) (Q : ms_Q) (d : Nat) : List (Nat × ms_T) := [(0, (o_ld 0 2)), (1, (o_get 11 15 2)), (4, (o_ld 1 0)), (5, (o_ld 2 0)), (6, (o_invV G d mX0_make 0 2 0 0)), (9, (o_if1 G Q mX11_chain (d + 1) (fun x => ¬ x = 0) 14)), (12, (o_ci (-1))), (13, (o_ret Q false)), (14, (o_ld 3 0)), (15, (o_if1 G Q mX11_chain (d + 1) (fun x => x < 0) 41)), (18, (o_ld 3 0)), (19, (o_ld 0 2)), (20, (o_get 11 15 2)), (23, (o_get 0 1 0)), (26, (o_if2 G Q mX11_chain (d + 1) (fun a b => b ≤ a) 41)), (29, (o_ld 0 2)), (30, (o_get 11 15 2)), (33, (o_get 0 0 2)), (36, (o_ld 3 0)), (37, (o_ald 100 0)), (38, (o_go G Q mX11_chain (d + 1) 43)), (41, (o_ci (-2))), (100000, o_go G Q mX11_chain (d + 1) 43), (43, (o_ret Q false))]
set_option maxRecDepth 100000 in
set_option maxHeartbeats 4000000 in
theorem kX11_chain (G : ms_G) (Q : ms_Q) (d : Nat) : ms_Oc G Q mX11_chain (d + 1) (tX11_chain G Q d) :=
  ms_oc1 rfl (s_aload_n rfl dX11_chain_0) <|
  ms_oc1 rfl (s_get (r := (RX11, TX11, 17)) rfl (by decide) rfl rfl kw_353 dX11_chain_1) <|
  ms_oc1 rfl (s_iload_n rfl dX11_chain_4) <|
  ms_oc1 rfl (s_iload_n rfl dX11_chain_5) <|
  ms_oc1 rfl (s_invV (r := (RX0, TX0, 2)) rfl rfl kw_749 kw_750 kw_751 kw_86 kw_752 ⟨by decide +kernel, by decide +kernel, by decide +kernel⟩ (by decide) dX11_chain_6) <|
  ms_oc1 rfl (s_ifne (by decide) dX11_chain_9) <|
  ms_oc1 rfl (s_iconst dX11_chain_12 (by decide)) <|
  ms_oc1 rfl (s_iret (b := false) rfl dX11_chain_13) <|
  ms_oc1 rfl (s_iload_n rfl dX11_chain_14) <|
  ms_oc1 rfl (s_iflt (by decide) dX11_chain_15) <|
  ms_oc1 rfl (s_iload_n rfl dX11_chain_18) <|
  ms_oc1 rfl (s_aload_n rfl dX11_chain_19) <|
  ms_oc1 rfl (s_get (r := (RX11, TX11, 17)) rfl (by decide) rfl rfl kw_353 dX11_chain_20) <|
  ms_oc1 rfl (s_get (r := (RX0, TX0, 2)) rfl (by decide) rfl rfl kw_304 dX11_chain_23) <|
  ms_oc1 rfl (s_icmpge (by decide) dX11_chain_26) <|
  ms_oc1 rfl (s_aload_n rfl dX11_chain_29) <|
  ms_oc1 rfl (s_get (r := (RX11, TX11, 17)) rfl (by decide) rfl rfl kw_353 dX11_chain_30) <|
  ms_oc1 rfl (s_get (r := (RX0, TX0, 2)) rfl (by decide) rfl rfl kw_302 dX11_chain_33) <|
  ms_oc1 rfl (s_iload_n rfl dX11_chain_36) <|
  ms_oc1 rfl (s_iaload dX11_chain_37) <|
  ms_oc1 rfl (s_goto (by decide) dX11_chain_38) <|
  ms_occ (s_bipush dX11_chain_41 (by decide) (by decide)) <|
  ms_oc0 (s_iret (b := false) rfl dX11_chain_43)

def tX11_best (G : ms_G) (Q : ms_Q) (d : Nat) : List (Nat × ms_T) := [(0, (o_ci (-1))), (1, (o_st 2 0)), (2, (o_ci 0)), (3, (o_st 3 0)), (4, (o_ci 0)), (5, (o_st 4 0)), (100000, o_go G Q mX11_best (d + 1) 7), (7, (o_ld 4 0)), (9, (o_ci 4)), (10, (o_if2 G Q mX11_best (d + 1) (fun a b => b ≤ a) 59)), (13, (o_ld 0 2)), (14, (o_get 11 15 2)), (17, (o_ld 1 0)), (18, (o_ld 4 0)), (20, (o_invV G d mX0_make 0 2 0 0)), (23, (o_if1 G Q mX11_best (d + 1) (fun x => x = 0) 53)), (26, (o_ld 2 0)), (27, (o_ci (-1))), (28, (o_if2 G Q mX11_best (d + 1) (fun a b => a = b) 42)), (31, (o_ld 0 2)), (32, (o_get 11 15 2)), (35, (o_get 0 1 0)), (38, (o_ld 3 0)), (39, (o_if2 G Q mX11_best (d + 1) (fun a b => b ≤ a) 53)), (100000, o_go G Q mX11_best (d + 1) 42), (42, (o_ld 4 0)), (44, (o_st 2 0)), (45, (o_ld 0 2)), (46, (o_get 11 15 2)), (49, (o_get 0 1 0)), (52, (o_st 3 0)), (100000, o_go G Q mX11_best (d + 1) 53), (53, (o_inc 4 1)), (56, (o_go G Q mX11_best (d + 1) 7)), (59, (o_ld 2 0)), (60, (o_ret Q false))]
set_option maxRecDepth 100000 in
set_option maxHeartbeats 4000000 in
theorem kX11_best (G : ms_G) (Q : ms_Q) (d : Nat) : ms_Oc G Q mX11_best (d + 1) (tX11_best G Q d) :=
  ms_oc1 rfl (s_iconst dX11_best_0 (by decide)) <|
  ms_oc1 rfl (s_istore_n rfl (by decide) dX11_best_1) <|
  ms_oc1 rfl (s_iconst dX11_best_2 (by decide)) <|
  ms_oc1 rfl (s_istore_n rfl (by decide) dX11_best_3) <|
  ms_oc1 rfl (s_iconst dX11_best_4 (by decide)) <|
  ms_occ (s_istore (by decide) dX11_best_5) <|
  ms_oc1 rfl (s_iload dX11_best_7) <|
  ms_oc1 rfl (s_iconst dX11_best_9 (by decide)) <|
  ms_oc1 rfl (s_icmpge (by decide) dX11_best_10) <|
  ms_oc1 rfl (s_aload_n rfl dX11_best_13) <|
  ms_oc1 rfl (s_get (r := (RX11, TX11, 17)) rfl (by decide) rfl rfl kw_353 dX11_best_14) <|
  ms_oc1 rfl (s_iload_n rfl dX11_best_17) <|
  ms_oc1 rfl (s_iload dX11_best_18) <|
  ms_oc1 rfl (s_invV (r := (RX0, TX0, 2)) rfl rfl kw_749 kw_750 kw_751 kw_86 kw_752 ⟨by decide +kernel, by decide +kernel, by decide +kernel⟩ (by decide) dX11_best_20) <|
  ms_oc1 rfl (s_ifeq (by decide) dX11_best_23) <|
  ms_oc1 rfl (s_iload_n rfl dX11_best_26) <|
  ms_oc1 rfl (s_iconst dX11_best_27 (by decide)) <|
  ms_oc1 rfl (s_icmpeq (by decide) dX11_best_28) <|
  ms_oc1 rfl (s_aload_n rfl dX11_best_31) <|
  ms_oc1 rfl (s_get (r := (RX11, TX11, 17)) rfl (by decide) rfl rfl kw_353 dX11_best_32) <|
  ms_oc1 rfl (s_get (r := (RX0, TX0, 2)) rfl (by decide) rfl rfl kw_304 dX11_best_35) <|
  ms_oc1 rfl (s_iload_n rfl dX11_best_38) <|
  ms_occ (s_icmpge (by decide) dX11_best_39) <|
  ms_oc1 rfl (s_iload dX11_best_42) <|
  ms_oc1 rfl (s_istore_n rfl (by decide) dX11_best_44) <|
  ms_oc1 rfl (s_aload_n rfl dX11_best_45) <|
  ms_oc1 rfl (s_get (r := (RX11, TX11, 17)) rfl (by decide) rfl rfl kw_353 dX11_best_46) <|
  ms_oc1 rfl (s_get (r := (RX0, TX0, 2)) rfl (by decide) rfl rfl kw_304 dX11_best_49) <|
  ms_occ (s_istore_n rfl (by decide) dX11_best_52) <|
  ms_oc1 rfl (s_iinc (by decide) dX11_best_53) <|
  ms_oc1 rfl (s_goto (by decide) dX11_best_56) <|
  ms_oc1 rfl (s_iload_n rfl dX11_best_59) <|
  ms_oc0 (s_iret (b := false) rfl dX11_best_60)

def tX11_star (G : ms_G) (Q : ms_Q) (d : Nat) : List (Nat × ms_T) := [(0, (o_ld 0 2)), (1, (o_get 11 15 2)), (4, (o_ld 1 0)), (5, (o_ld 2 0)), (6, (o_invV G d mX0_make 0 2 0 0)), (9, (o_if1 G Q mX11_star (d + 1) (fun x => ¬ x = 0) 14)), (12, (o_ci (-1))), (13, (o_ret Q false)), (14, (o_ld 0 2)), (15, (o_get 11 15 2)), (18, (o_invV G d mX0_eachIsOfTheOneAhead 0 0 0 0)), (21, (o_if1 G Q mX11_star (d + 1) (fun x => x = 0) 28)), (24, (o_ci 1)), (25, (o_go G Q mX11_star (d + 1) 29)), (28, (o_ci 0)), (100000, o_go G Q mX11_star (d + 1) 29), (29, (o_ret Q false))]
set_option maxRecDepth 100000 in
set_option maxHeartbeats 4000000 in
theorem kX11_star (G : ms_G) (Q : ms_Q) (d : Nat) : ms_Oc G Q mX11_star (d + 1) (tX11_star G Q d) :=
  ms_oc1 rfl (s_aload_n rfl dX11_star_0) <|
  ms_oc1 rfl (s_get (r := (RX11, TX11, 17)) rfl (by decide) rfl rfl kw_353 dX11_star_1) <|
  ms_oc1 rfl (s_iload_n rfl dX11_star_4) <|
  ms_oc1 rfl (s_iload_n rfl dX11_star_5) <|
  ms_oc1 rfl (s_invV (r := (RX0, TX0, 2)) rfl rfl kw_749 kw_750 kw_751 kw_86 kw_752 ⟨by decide +kernel, by decide +kernel, by decide +kernel⟩ (by decide) dX11_star_6) <|
  ms_oc1 rfl (s_ifne (by decide) dX11_star_9) <|
  ms_oc1 rfl (s_iconst dX11_star_12 (by decide)) <|
  ms_oc1 rfl (s_iret (b := false) rfl dX11_star_13) <|
  ms_oc1 rfl (s_aload_n rfl dX11_star_14) <|
  ms_oc1 rfl (s_get (r := (RX11, TX11, 17)) rfl (by decide) rfl rfl kw_353 dX11_star_15) <|
  ms_oc1 rfl (s_invV (r := (RX0, TX0, 2)) rfl rfl kw_788 kw_789 kw_790 kw_86 kw_791 ⟨by decide +kernel, by decide +kernel, by decide +kernel⟩ (by decide) dX11_star_18) <|
  ms_oc1 rfl (s_ifeq (by decide) dX11_star_21) <|
  ms_oc1 rfl (s_iconst dX11_star_24 (by decide)) <|
  ms_oc1 rfl (s_goto (by decide) dX11_star_25) <|
  ms_occ (s_iconst dX11_star_28 (by decide)) <|
  ms_oc0 (s_iret (b := false) rfl dX11_star_29)

def tX11_lower (G : ms_G) (Q : ms_Q) (d : Nat) : List (Nat × ms_T) := [(0, (o_ld 1 0)), (1, (o_ci 1)), (2, (o_if2 G Q mX11_lower (d + 1) (fun a b => a < b) 29)), (5, (o_ld 1 0)), (6, (o_ci 9999)), (9, (o_if2 G Q mX11_lower (d + 1) (fun a b => b < a) 29)), (12, (o_ld 2 0)), (13, (o_if1 G Q mX11_lower (d + 1) (fun x => x < 0) 29)), (16, (o_ld 2 0)), (17, (o_ci 2)), (18, (o_if2 G Q mX11_lower (d + 1) (fun a b => b < a) 29)), (21, (o_ld 1 0)), (22, (o_ld 2 0)), (23, (o_invS G d mX11_bound 2 0 0)), (26, (o_go G Q mX11_lower (d + 1) 30)), (29, (o_ci (-1))), (100000, o_go G Q mX11_lower (d + 1) 30), (30, (o_ret Q false))]
set_option maxRecDepth 100000 in
set_option maxHeartbeats 4000000 in
theorem kX11_lower (G : ms_G) (Q : ms_Q) (d : Nat) : ms_Oc G Q mX11_lower (d + 1) (tX11_lower G Q d) :=
  ms_oc1 rfl (s_iload_n rfl dX11_lower_0) <|
  ms_oc1 rfl (s_iconst dX11_lower_1 (by decide)) <|
  ms_oc1 rfl (s_icmplt (by decide) dX11_lower_2) <|
  ms_oc1 rfl (s_iload_n rfl dX11_lower_5) <|
  ms_oc1 rfl (s_sipush dX11_lower_6 (by decide) (by decide)) <|
  ms_oc1 rfl (s_icmpgt (by decide) dX11_lower_9) <|
  ms_oc1 rfl (s_iload_n rfl dX11_lower_12) <|
  ms_oc1 rfl (s_iflt (by decide) dX11_lower_13) <|
  ms_oc1 rfl (s_iload_n rfl dX11_lower_16) <|
  ms_oc1 rfl (s_iconst dX11_lower_17 (by decide)) <|
  ms_oc1 rfl (s_icmpgt (by decide) dX11_lower_18) <|
  ms_oc1 rfl (s_iload_n rfl dX11_lower_21) <|
  ms_oc1 rfl (s_iload_n rfl dX11_lower_22) <|
  ms_oc1 rfl (s_invS kw_800 kw_801 kw_76 kw_802 ⟨by decide +kernel, by decide +kernel, by decide +kernel⟩ (by decide) dX11_lower_23) <|
  ms_oc1 rfl (s_goto (by decide) dX11_lower_26) <|
  ms_occ (s_iconst dX11_lower_29 (by decide)) <|
  ms_oc0 (s_iret (b := false) rfl dX11_lower_30)

def tX11_search (G : ms_G) (Q : ms_Q) (d : Nat) : List (Nat × ms_T) := [(0, (o_ld 1 0)), (1, (o_ci 1)), (2, (o_if2 G Q mX11_search (d + 1) (fun a b => a < b) 24)), (5, (o_ld 1 0)), (6, (o_ci 2047)), (9, (o_if2 G Q mX11_search (d + 1) (fun a b => b < a) 24)), (12, (o_ld 2 0)), (13, (o_ci 1)), (14, (o_if2 G Q mX11_search (d + 1) (fun a b => a < b) 24)), (17, (o_ld 2 0)), (18, (o_ci (100000))), (21, (o_if2 G Q mX11_search (d + 1) (fun a b => a ≤ b) 26)), (100000, o_go G Q mX11_search (d + 1) 24), (24, (o_ci (-1))), (25, (o_ret Q false)), (26, (o_ld 0 2)), (27, (o_get 11 16 2)), (30, (o_ld 1 0)), (31, (o_ld 2 0)), (32, (o_invV G d mX5_seek 5 2 0 0)), (35, (o_if1 G Q mX11_search (d + 1) (fun x => x = 0) 48)), (38, (o_ld 0 2)), (39, (o_get 11 16 2)), (42, (o_get 5 2 0)), (45, (o_go G Q mX11_search (d + 1) 50)), (48, (o_ci (-2))), (100000, o_go G Q mX11_search (d + 1) 50), (50, (o_ret Q false))]
set_option maxRecDepth 100000 in
set_option maxHeartbeats 4000000 in
theorem kX11_search (G : ms_G) (Q : ms_Q) (d : Nat) : ms_Oc G Q mX11_search (d + 1) (tX11_search G Q d) :=
  ms_oc1 rfl (s_iload_n rfl dX11_search_0) <|
  ms_oc1 rfl (s_iconst dX11_search_1 (by decide)) <|
  ms_oc1 rfl (s_icmplt (by decide) dX11_search_2) <|
  ms_oc1 rfl (s_iload_n rfl dX11_search_5) <|
  ms_oc1 rfl (s_sipush dX11_search_6 (by decide) (by decide)) <|
  ms_oc1 rfl (s_icmpgt (by decide) dX11_search_9) <|
  ms_oc1 rfl (s_iload_n rfl dX11_search_12) <|
  ms_oc1 rfl (s_iconst dX11_search_13 (by decide)) <|
  ms_oc1 rfl (s_icmplt (by decide) dX11_search_14) <|
  ms_oc1 rfl (s_iload_n rfl dX11_search_17) <|
  ms_oc1 rfl (s_ldcw dX11_search_18 kw_809 (by decide) (by decide)) <|
  ms_occ (s_icmple (by decide) dX11_search_21) <|
  ms_oc1 rfl (s_iconst dX11_search_24 (by decide)) <|
  ms_oc1 rfl (s_iret (b := false) rfl dX11_search_25) <|
  ms_oc1 rfl (s_aload_n rfl dX11_search_26) <|
  ms_oc1 rfl (s_get (r := (RX11, TX11, 17)) rfl (by decide) rfl rfl kw_354 dX11_search_27) <|
  ms_oc1 rfl (s_iload_n rfl dX11_search_30) <|
  ms_oc1 rfl (s_iload_n rfl dX11_search_31) <|
  ms_oc1 rfl (s_invV (r := (RX5, TX5, 6)) rfl rfl kw_810 kw_811 kw_812 kw_87 kw_813 ⟨by decide +kernel, by decide +kernel, by decide +kernel⟩ (by decide) dX11_search_32) <|
  ms_oc1 rfl (s_ifeq (by decide) dX11_search_35) <|
  ms_oc1 rfl (s_aload_n rfl dX11_search_38) <|
  ms_oc1 rfl (s_get (r := (RX11, TX11, 17)) rfl (by decide) rfl rfl kw_354 dX11_search_39) <|
  ms_oc1 rfl (s_get (r := (RX5, TX5, 6)) rfl (by decide) rfl rfl kw_321 dX11_search_42) <|
  ms_oc1 rfl (s_goto (by decide) dX11_search_45) <|
  ms_occ (s_bipush dX11_search_48 (by decide) (by decide)) <|
  ms_oc0 (s_iret (b := false) rfl dX11_search_50)

def tX11_found (G : ms_G) (Q : ms_Q) (d : Nat) : List (Nat × ms_T) := [(0, (o_ld 1 0)), (1, (o_if1 G Q mX11_found (d + 1) (fun x => x < 0) 27)), (4, (o_ld 1 0)), (5, (o_ld 0 2)), (6, (o_get 11 16 2)), (9, (o_get 5 2 0)), (12, (o_if2 G Q mX11_found (d + 1) (fun a b => b < a) 27)), (15, (o_ld 0 2)), (16, (o_get 11 16 2)), (19, (o_get 5 0 2)), (22, (o_ld 1 0)), (23, (o_ald 100 0)), (24, (o_go G Q mX11_found (d + 1) 28)), (27, (o_ci (-1))), (100000, o_go G Q mX11_found (d + 1) 28), (28, (o_ret Q false))]
set_option maxRecDepth 100000 in
set_option maxHeartbeats 4000000 in
theorem kX11_found (G : ms_G) (Q : ms_Q) (d : Nat) : ms_Oc G Q mX11_found (d + 1) (tX11_found G Q d) :=
  ms_oc1 rfl (s_iload_n rfl dX11_found_0) <|
  ms_oc1 rfl (s_iflt (by decide) dX11_found_1) <|
  ms_oc1 rfl (s_iload_n rfl dX11_found_4) <|
  ms_oc1 rfl (s_aload_n rfl dX11_found_5) <|
  ms_oc1 rfl (s_get (r := (RX11, TX11, 17)) rfl (by decide) rfl rfl kw_354 dX11_found_6) <|
  ms_oc1 rfl (s_get (r := (RX5, TX5, 6)) rfl (by decide) rfl rfl kw_321 dX11_found_9) <|
  ms_oc1 rfl (s_icmpgt (by decide) dX11_found_12) <|
  ms_oc1 rfl (s_aload_n rfl dX11_found_15) <|
  ms_oc1 rfl (s_get (r := (RX11, TX11, 17)) rfl (by decide) rfl rfl kw_354 dX11_found_16) <|
  ms_oc1 rfl (s_get (r := (RX5, TX5, 6)) rfl (by decide) rfl rfl kw_317 dX11_found_19) <|
  ms_oc1 rfl (s_iload_n rfl dX11_found_22) <|
  ms_oc1 rfl (s_iaload dX11_found_23) <|
  ms_oc1 rfl (s_goto (by decide) dX11_found_24) <|
  ms_occ (s_iconst dX11_found_27 (by decide)) <|
  ms_oc0 (s_iret (b := false) rfl dX11_found_28)

def tX11_isChain (G : ms_G) (Q : ms_Q) (d : Nat) : List (Nat × ms_T) := [(0, (o_ld 1 0)), (1, (o_ci 1)), (2, (o_if2 G Q mX11_isChain (d + 1) (fun a b => a < b) 11)), (5, (o_ld 1 0)), (6, (o_ci 6)), (8, (o_if2 G Q mX11_isChain (d + 1) (fun a b => a ≤ b) 13)), (100000, o_go G Q mX11_isChain (d + 1) 11), (11, (o_ci (-1))), (12, (o_ret Q false)), (13, (o_ci 6)), (15, (o_newa 100)), (17, o_dup), (18, (o_ci 0)), (19, (o_ci 1)), (20, (o_ast 100 0 (fun x => x))), (21, o_dup), (22, (o_ci 1)), (23, (o_ld 2 0)), (24, (o_ast 100 0 (fun x => x))), (25, o_dup), (26, (o_ci 2)), (27, (o_ld 3 0)), (28, (o_ast 100 0 (fun x => x))), (29, o_dup), (30, (o_ci 3)), (31, (o_ld 4 0)), (33, (o_ast 100 0 (fun x => x))), (34, o_dup), (35, (o_ci 4)), (36, (o_ld 5 0)), (38, (o_ast 100 0 (fun x => x))), (39, o_dup), (40, (o_ci 5)), (41, (o_ld 6 0)), (43, (o_ast 100 0 (fun x => x))), (44, (o_st 7 2)), (46, (o_ci 1)), (47, (o_st 8 0)), (100000, o_go G Q mX11_isChain (d + 1) 49), (49, (o_ld 8 0)), (51, (o_ld 1 0)), (52, (o_if2 G Q mX11_isChain (d + 1) (fun a b => b ≤ a) 88)), (55, (o_ld 7 2)), (57, (o_ld 8 0)), (59, (o_ald 100 0)), (60, (o_ld 7 2)), (62, (o_ld 8 0)), (64, (o_ci 1)), (65, (o_bin (fun a b => w32 (a - b)))), (66, (o_ald 100 0)), (67, (o_if2 G Q mX11_isChain (d + 1) (fun a b => a ≤ b) 80)), (70, (o_ld 7 2)), (72, (o_ld 8 0)), (74, (o_invS G d mX11_isSumOfTwoAhead 2 0 0)), (77, (o_if1 G Q mX11_isChain (d + 1) (fun x => ¬ x = 0) 82)), (100000, o_go G Q mX11_isChain (d + 1) 80), (80, (o_ci 0)), (81, (o_ret Q false)), (82, (o_inc 8 1)), (85, (o_go G Q mX11_isChain (d + 1) 49)), (88, (o_ci 1)), (89, (o_ret Q false))]
set_option maxRecDepth 100000 in
set_option maxHeartbeats 4000000 in
theorem kX11_isChain (G : ms_G) (Q : ms_Q) (d : Nat) : ms_Oc G Q mX11_isChain (d + 1) (tX11_isChain G Q d) :=
  ms_oc1 rfl (s_iload_n rfl dX11_isChain_0) <|
  ms_oc1 rfl (s_iconst dX11_isChain_1 (by decide)) <|
  ms_oc1 rfl (s_icmplt (by decide) dX11_isChain_2) <|
  ms_oc1 rfl (s_iload_n rfl dX11_isChain_5) <|
  ms_oc1 rfl (s_bipush dX11_isChain_6 (by decide) (by decide)) <|
  ms_occ (s_icmple (by decide) dX11_isChain_8) <|
  ms_oc1 rfl (s_iconst dX11_isChain_11 (by decide)) <|
  ms_oc1 rfl (s_iret (b := false) rfl dX11_isChain_12) <|
  ms_oc1 rfl (s_bipush dX11_isChain_13 (by decide) (by decide)) <|
  ms_oc1 rfl (s_newa (ty := .int) rfl kw_153 dX11_isChain_15 (Or.inl ⟨rfl, rfl⟩)) <|
  ms_oc1 rfl (s_dup dX11_isChain_17) <|
  ms_oc1 rfl (s_iconst dX11_isChain_18 (by decide)) <|
  ms_oc1 rfl (s_iconst dX11_isChain_19 (by decide)) <|
  ms_oc1 rfl (s_iastore dX11_isChain_20) <|
  ms_oc1 rfl (s_dup dX11_isChain_21) <|
  ms_oc1 rfl (s_iconst dX11_isChain_22 (by decide)) <|
  ms_oc1 rfl (s_iload_n rfl dX11_isChain_23) <|
  ms_oc1 rfl (s_iastore dX11_isChain_24) <|
  ms_oc1 rfl (s_dup dX11_isChain_25) <|
  ms_oc1 rfl (s_iconst dX11_isChain_26 (by decide)) <|
  ms_oc1 rfl (s_iload_n rfl dX11_isChain_27) <|
  ms_oc1 rfl (s_iastore dX11_isChain_28) <|
  ms_oc1 rfl (s_dup dX11_isChain_29) <|
  ms_oc1 rfl (s_iconst dX11_isChain_30 (by decide)) <|
  ms_oc1 rfl (s_iload dX11_isChain_31) <|
  ms_oc1 rfl (s_iastore dX11_isChain_33) <|
  ms_oc1 rfl (s_dup dX11_isChain_34) <|
  ms_oc1 rfl (s_iconst dX11_isChain_35 (by decide)) <|
  ms_oc1 rfl (s_iload dX11_isChain_36) <|
  ms_oc1 rfl (s_iastore dX11_isChain_38) <|
  ms_oc1 rfl (s_dup dX11_isChain_39) <|
  ms_oc1 rfl (s_iconst dX11_isChain_40 (by decide)) <|
  ms_oc1 rfl (s_iload dX11_isChain_41) <|
  ms_oc1 rfl (s_iastore dX11_isChain_43) <|
  ms_oc1 rfl (s_astore (by decide) dX11_isChain_44) <|
  ms_oc1 rfl (s_iconst dX11_isChain_46 (by decide)) <|
  ms_occ (s_istore (by decide) dX11_isChain_47) <|
  ms_oc1 rfl (s_iload dX11_isChain_49) <|
  ms_oc1 rfl (s_iload_n rfl dX11_isChain_51) <|
  ms_oc1 rfl (s_icmpge (by decide) dX11_isChain_52) <|
  ms_oc1 rfl (s_aload dX11_isChain_55) <|
  ms_oc1 rfl (s_iload dX11_isChain_57) <|
  ms_oc1 rfl (s_iaload dX11_isChain_59) <|
  ms_oc1 rfl (s_aload dX11_isChain_60) <|
  ms_oc1 rfl (s_iload dX11_isChain_62) <|
  ms_oc1 rfl (s_iconst dX11_isChain_64 (by decide)) <|
  ms_oc1 rfl (s_isub dX11_isChain_65) <|
  ms_oc1 rfl (s_iaload dX11_isChain_66) <|
  ms_oc1 rfl (s_icmple (by decide) dX11_isChain_67) <|
  ms_oc1 rfl (s_aload dX11_isChain_70) <|
  ms_oc1 rfl (s_iload dX11_isChain_72) <|
  ms_oc1 rfl (s_invS kw_826 kw_827 kw_76 kw_828 ⟨by decide +kernel, by decide +kernel, by decide +kernel⟩ (by decide) dX11_isChain_74) <|
  ms_occ (s_ifne (by decide) dX11_isChain_77) <|
  ms_oc1 rfl (s_iconst dX11_isChain_80 (by decide)) <|
  ms_oc1 rfl (s_iret (b := false) rfl dX11_isChain_81) <|
  ms_oc1 rfl (s_iinc (by decide) dX11_isChain_82) <|
  ms_oc1 rfl (s_goto (by decide) dX11_isChain_85) <|
  ms_oc1 rfl (s_iconst dX11_isChain_88 (by decide)) <|
  ms_oc0 (s_iret (b := false) rfl dX11_isChain_89)

def tX11_adopt (G : ms_G) (Q : ms_Q) (d : Nat) : List (Nat × ms_T) := [(0, (o_ld 0 2)), (1, (o_get 11 5 2)), (4, (o_ld 0 2)), (5, (o_get 11 0 2)), (8, (o_invV G d mX3_remember 3 1 0 0)), (11, (o_ld 0 2)), (12, (o_get 11 0 2)), (15, (o_ld 1 2)), (16, (o_invV G d mX4_copyFrom 4 1 0 0)), (19, (o_ld 0 2)), (20, (o_get 11 0 2)), (23, (o_get 4 4 0)), (26, (o_ret Q false))]
set_option maxRecDepth 100000 in
set_option maxHeartbeats 4000000 in
theorem kX11_adopt (G : ms_G) (Q : ms_Q) (d : Nat) : ms_Oc G Q mX11_adopt (d + 1) (tX11_adopt G Q d) :=
  ms_oc1 rfl (s_aload_n rfl dX11_adopt_0) <|
  ms_oc1 rfl (s_get (r := (RX11, TX11, 17)) rfl (by decide) rfl rfl kw_343 dX11_adopt_1) <|
  ms_oc1 rfl (s_aload_n rfl dX11_adopt_4) <|
  ms_oc1 rfl (s_get (r := (RX11, TX11, 17)) rfl (by decide) rfl rfl kw_338 dX11_adopt_5) <|
  ms_oc1 rfl (s_invV (r := (RX3, TX3, 3)) rfl rfl kw_527 kw_528 kw_529 kw_78 kw_530 ⟨by decide +kernel, by decide +kernel, by decide +kernel⟩ (by decide) dX11_adopt_8) <|
  ms_oc1 rfl (s_aload_n rfl dX11_adopt_11) <|
  ms_oc1 rfl (s_get (r := (RX11, TX11, 17)) rfl (by decide) rfl rfl kw_338 dX11_adopt_12) <|
  ms_oc1 rfl (s_aload_n rfl dX11_adopt_15) <|
  ms_oc1 rfl (s_invV (r := (RX4, TX4, 6)) rfl rfl kw_538 kw_532 kw_533 kw_77 kw_534 ⟨by decide +kernel, by decide +kernel, by decide +kernel⟩ (by decide) dX11_adopt_16) <|
  ms_oc1 rfl (s_aload_n rfl dX11_adopt_19) <|
  ms_oc1 rfl (s_get (r := (RX11, TX11, 17)) rfl (by decide) rfl rfl kw_338 dX11_adopt_20) <|
  ms_oc1 rfl (s_get (r := (RX4, TX4, 6)) rfl (by decide) rfl rfl kw_132 dX11_adopt_23) <|
  ms_oc0 (s_iret (b := false) rfl dX11_adopt_26)

def tX11_dropSteps (G : ms_G) (Q : ms_Q) (d : Nat) : List (Nat × ms_T) := [(0, (o_ld 0 2)), (1, (o_get 11 1 2)), (4, (o_ld 0 2)), (5, (o_get 11 0 2)), (8, (o_invV G d mX4_copyFrom 4 1 0 0)), (11, (o_ld 0 2)), (12, (o_get 11 1 2)), (15, (o_ld 0 2)), (16, (o_get 11 9 2)), (19, (o_invV G d mX4_compact 4 1 0 0)), (22, (o_st 1 0)), (23, (o_ld 1 0)), (24, (o_if1 G Q mX11_dropSteps (d + 1) (fun x => x ≤ 0) 36)), (27, (o_ld 0 2)), (28, (o_ld 0 2)), (29, (o_get 11 1 2)), (32, (o_invV G d mX11_adopt 11 1 0 0)), (35, o_pop), (100000, o_go G Q mX11_dropSteps (d + 1) 36), (36, (o_ld 1 0)), (37, (o_ret Q false))]
set_option maxRecDepth 100000 in
set_option maxHeartbeats 4000000 in
theorem kX11_dropSteps (G : ms_G) (Q : ms_Q) (d : Nat) : ms_Oc G Q mX11_dropSteps (d + 1) (tX11_dropSteps G Q d) :=
  ms_oc1 rfl (s_aload_n rfl dX11_dropSteps_0) <|
  ms_oc1 rfl (s_get (r := (RX11, TX11, 17)) rfl (by decide) rfl rfl kw_339 dX11_dropSteps_1) <|
  ms_oc1 rfl (s_aload_n rfl dX11_dropSteps_4) <|
  ms_oc1 rfl (s_get (r := (RX11, TX11, 17)) rfl (by decide) rfl rfl kw_338 dX11_dropSteps_5) <|
  ms_oc1 rfl (s_invV (r := (RX4, TX4, 6)) rfl rfl kw_538 kw_532 kw_533 kw_77 kw_534 ⟨by decide +kernel, by decide +kernel, by decide +kernel⟩ (by decide) dX11_dropSteps_8) <|
  ms_oc1 rfl (s_aload_n rfl dX11_dropSteps_11) <|
  ms_oc1 rfl (s_get (r := (RX11, TX11, 17)) rfl (by decide) rfl rfl kw_339 dX11_dropSteps_12) <|
  ms_oc1 rfl (s_aload_n rfl dX11_dropSteps_15) <|
  ms_oc1 rfl (s_get (r := (RX11, TX11, 17)) rfl (by decide) rfl rfl kw_347 dX11_dropSteps_16) <|
  ms_oc1 rfl (s_invV (r := (RX4, TX4, 6)) rfl rfl kw_632 kw_633 kw_634 kw_77 kw_635 ⟨by decide +kernel, by decide +kernel, by decide +kernel⟩ (by decide) dX11_dropSteps_19) <|
  ms_oc1 rfl (s_istore_n rfl (by decide) dX11_dropSteps_22) <|
  ms_oc1 rfl (s_iload_n rfl dX11_dropSteps_23) <|
  ms_oc1 rfl (s_ifle (by decide) dX11_dropSteps_24) <|
  ms_oc1 rfl (s_aload_n rfl dX11_dropSteps_27) <|
  ms_oc1 rfl (s_aload_n rfl dX11_dropSteps_28) <|
  ms_oc1 rfl (s_get (r := (RX11, TX11, 17)) rfl (by decide) rfl rfl kw_339 dX11_dropSteps_29) <|
  ms_oc1 rfl (s_invV (r := (RX11, TX11, 17)) rfl rfl kw_523 kw_525 kw_16 kw_76 kw_526 ⟨by decide +kernel, by decide +kernel, by decide +kernel⟩ (by decide) dX11_dropSteps_32) <|
  ms_occ (s_pop dX11_dropSteps_35) <|
  ms_oc1 rfl (s_iload_n rfl dX11_dropSteps_36) <|
  ms_oc0 (s_iret (b := false) rfl dX11_dropSteps_37)

def tX11_holds (G : ms_G) (Q : ms_Q) (d : Nat) : List (Nat × ms_T) := [(0, (o_ld 1 0)), (1, (o_if1 G Q mX11_holds (d + 1) (fun x => x < 0) 22)), (4, (o_ld 1 0)), (5, (o_ci 3)), (6, (o_if2 G Q mX11_holds (d + 1) (fun a b => b ≤ a) 22)), (9, (o_ld 0 2)), (10, (o_get 11 4 2)), (13, (o_ld 1 0)), (14, o_bald), (15, (o_if1 G Q mX11_holds (d + 1) (fun x => x = 0) 22)), (18, (o_ci 1)), (19, (o_go G Q mX11_holds (d + 1) 23)), (22, (o_ci 0)), (100000, o_go G Q mX11_holds (d + 1) 23), (23, (o_ret Q true))]
set_option maxRecDepth 100000 in
set_option maxHeartbeats 4000000 in
theorem kX11_holds (G : ms_G) (Q : ms_Q) (d : Nat) : ms_Oc G Q mX11_holds (d + 1) (tX11_holds G Q d) :=
  ms_oc1 rfl (s_iload_n rfl dX11_holds_0) <|
  ms_oc1 rfl (s_iflt (by decide) dX11_holds_1) <|
  ms_oc1 rfl (s_iload_n rfl dX11_holds_4) <|
  ms_oc1 rfl (s_iconst dX11_holds_5 (by decide)) <|
  ms_oc1 rfl (s_icmpge (by decide) dX11_holds_6) <|
  ms_oc1 rfl (s_aload_n rfl dX11_holds_9) <|
  ms_oc1 rfl (s_get (r := (RX11, TX11, 17)) rfl (by decide) rfl rfl kw_342 dX11_holds_10) <|
  ms_oc1 rfl (s_iload_n rfl dX11_holds_13) <|
  ms_oc1 rfl (s_baload dX11_holds_14) <|
  ms_oc1 rfl (s_ifeq (by decide) dX11_holds_15) <|
  ms_oc1 rfl (s_iconst dX11_holds_18 (by decide)) <|
  ms_oc1 rfl (s_goto (by decide) dX11_holds_19) <|
  ms_occ (s_iconst dX11_holds_22 (by decide)) <|
  ms_oc0 (s_iret (b := true) rfl dX11_holds_23)

def tX11_filledShelves (G : ms_G) (Q : ms_Q) (d : Nat) : List (Nat × ms_T) := [(0, (o_ci 0)), (1, (o_st 1 0)), (2, (o_ci 0)), (3, (o_st 2 0)), (100000, o_go G Q mX11_filledShelves (d + 1) 4), (4, (o_ld 2 0)), (5, (o_ci 3)), (6, (o_if2 G Q mX11_filledShelves (d + 1) (fun a b => b ≤ a) 27)), (9, (o_ld 0 2)), (10, (o_get 11 4 2)), (13, (o_ld 2 0)), (14, o_bald), (15, (o_if1 G Q mX11_filledShelves (d + 1) (fun x => x = 0) 21)), (18, (o_inc 1 1)), (100000, o_go G Q mX11_filledShelves (d + 1) 21), (21, (o_inc 2 1)), (24, (o_go G Q mX11_filledShelves (d + 1) 4)), (27, (o_ld 1 0)), (28, (o_ret Q false))]
set_option maxRecDepth 100000 in
set_option maxHeartbeats 4000000 in
theorem kX11_filledShelves (G : ms_G) (Q : ms_Q) (d : Nat) : ms_Oc G Q mX11_filledShelves (d + 1) (tX11_filledShelves G Q d) :=
  ms_oc1 rfl (s_iconst dX11_filledShelves_0 (by decide)) <|
  ms_oc1 rfl (s_istore_n rfl (by decide) dX11_filledShelves_1) <|
  ms_oc1 rfl (s_iconst dX11_filledShelves_2 (by decide)) <|
  ms_occ (s_istore_n rfl (by decide) dX11_filledShelves_3) <|
  ms_oc1 rfl (s_iload_n rfl dX11_filledShelves_4) <|
  ms_oc1 rfl (s_iconst dX11_filledShelves_5 (by decide)) <|
  ms_oc1 rfl (s_icmpge (by decide) dX11_filledShelves_6) <|
  ms_oc1 rfl (s_aload_n rfl dX11_filledShelves_9) <|
  ms_oc1 rfl (s_get (r := (RX11, TX11, 17)) rfl (by decide) rfl rfl kw_342 dX11_filledShelves_10) <|
  ms_oc1 rfl (s_iload_n rfl dX11_filledShelves_13) <|
  ms_oc1 rfl (s_baload dX11_filledShelves_14) <|
  ms_oc1 rfl (s_ifeq (by decide) dX11_filledShelves_15) <|
  ms_occ (s_iinc (by decide) dX11_filledShelves_18) <|
  ms_oc1 rfl (s_iinc (by decide) dX11_filledShelves_21) <|
  ms_oc1 rfl (s_goto (by decide) dX11_filledShelves_24) <|
  ms_oc1 rfl (s_iload_n rfl dX11_filledShelves_27) <|
  ms_oc0 (s_iret (b := false) rfl dX11_filledShelves_28)

def tX11_comesToTheSame (G : ms_G) (Q : ms_Q) (d : Nat) : List (Nat × ms_T) := [(0, (o_ld 0 2)), (1, (o_get 11 0 2)), (4, (o_get 4 3 0)), (7, (o_ld 1 2)), (8, (o_get 4 3 0)), (11, (o_if2 G Q mX11_comesToTheSame (d + 1) (fun a b => ¬ a = b) 28)), (14, (o_ld 0 2)), (15, (o_get 11 0 2)), (18, (o_get 4 5 0)), (21, (o_ld 1 2)), (22, (o_get 4 5 0)), (25, (o_if2 G Q mX11_comesToTheSame (d + 1) (fun a b => a = b) 30)), (100000, o_go G Q mX11_comesToTheSame (d + 1) 28), (28, (o_ci 0)), (29, (o_ret Q true)), (30, (o_ci 0)), (31, (o_st 2 0)), (100000, o_go G Q mX11_comesToTheSame (d + 1) 32), (32, (o_ld 2 0)), (33, (o_ld 0 2)), (34, (o_get 11 0 2)), (37, (o_get 4 5 0)), (40, (o_if2 G Q mX11_comesToTheSame (d + 1) (fun a b => b ≤ a) 109)), (43, (o_ci 0)), (44, (o_st 3 0)), (100000, o_go G Q mX11_comesToTheSame (d + 1) 45), (45, (o_ld 3 0)), (46, (o_ld 0 2)), (47, (o_get 11 0 2)), (50, (o_get 4 3 0)), (53, (o_if2 G Q mX11_comesToTheSame (d + 1) (fun a b => b ≤ a) 103)), (56, (o_ld 0 2)), (57, (o_get 11 7 2)), (60, (o_ld 0 2)), (61, (o_get 11 0 2)), (64, (o_get 4 2 2)), (67, (o_ld 2 0)), (68, (o_ald 100 0)), (69, (o_ld 3 0)), (70, (o_invV G d mX2_of 2 2 0 0)), (73, (o_lst 4)), (75, (o_ld 4 1)), (77, (o_ld 0 2)), (78, (o_get 11 8 2)), (81, (o_ld 1 2)), (82, (o_get 4 2 2)), (85, (o_ld 2 0)), (86, (o_ald 100 0)), (87, (o_ld 3 0)), (88, (o_invV G d mX2_of 2 2 0 0)), (91, o_lcmp), (92, (o_if1 G Q mX11_comesToTheSame (d + 1) (fun x => x = 0) 97)), (95, (o_ci 0)), (96, (o_ret Q true)), (97, (o_inc 3 1)), (100, (o_go G Q mX11_comesToTheSame (d + 1) 45)), (103, (o_inc 2 1)), (106, (o_go G Q mX11_comesToTheSame (d + 1) 32)), (109, (o_ci 1)), (110, (o_ret Q true))]
set_option maxRecDepth 100000 in
set_option maxHeartbeats 4000000 in
theorem kX11_comesToTheSame (G : ms_G) (Q : ms_Q) (d : Nat) : ms_Oc G Q mX11_comesToTheSame (d + 1) (tX11_comesToTheSame G Q d) :=
  ms_oc1 rfl (s_aload_n rfl dX11_comesToTheSame_0) <|
  ms_oc1 rfl (s_get (r := (RX11, TX11, 17)) rfl (by decide) rfl rfl kw_338 dX11_comesToTheSame_1) <|
  ms_oc1 rfl (s_get (r := (RX4, TX4, 6)) rfl (by decide) rfl rfl kw_130 dX11_comesToTheSame_4) <|
  ms_oc1 rfl (s_aload_n rfl dX11_comesToTheSame_7) <|
  ms_oc1 rfl (s_get (r := (RX4, TX4, 6)) rfl (by decide) rfl rfl kw_130 dX11_comesToTheSame_8) <|
  ms_oc1 rfl (s_icmpne (by decide) dX11_comesToTheSame_11) <|
  ms_oc1 rfl (s_aload_n rfl dX11_comesToTheSame_14) <|
  ms_oc1 rfl (s_get (r := (RX11, TX11, 17)) rfl (by decide) rfl rfl kw_338 dX11_comesToTheSame_15) <|
  ms_oc1 rfl (s_get (r := (RX4, TX4, 6)) rfl (by decide) rfl rfl kw_137 dX11_comesToTheSame_18) <|
  ms_oc1 rfl (s_aload_n rfl dX11_comesToTheSame_21) <|
  ms_oc1 rfl (s_get (r := (RX4, TX4, 6)) rfl (by decide) rfl rfl kw_137 dX11_comesToTheSame_22) <|
  ms_occ (s_icmpeq (by decide) dX11_comesToTheSame_25) <|
  ms_oc1 rfl (s_iconst dX11_comesToTheSame_28 (by decide)) <|
  ms_oc1 rfl (s_iret (b := true) rfl dX11_comesToTheSame_29) <|
  ms_oc1 rfl (s_iconst dX11_comesToTheSame_30 (by decide)) <|
  ms_occ (s_istore_n rfl (by decide) dX11_comesToTheSame_31) <|
  ms_oc1 rfl (s_iload_n rfl dX11_comesToTheSame_32) <|
  ms_oc1 rfl (s_aload_n rfl dX11_comesToTheSame_33) <|
  ms_oc1 rfl (s_get (r := (RX11, TX11, 17)) rfl (by decide) rfl rfl kw_338 dX11_comesToTheSame_34) <|
  ms_oc1 rfl (s_get (r := (RX4, TX4, 6)) rfl (by decide) rfl rfl kw_137 dX11_comesToTheSame_37) <|
  ms_oc1 rfl (s_icmpge (by decide) dX11_comesToTheSame_40) <|
  ms_oc1 rfl (s_iconst dX11_comesToTheSame_43 (by decide)) <|
  ms_occ (s_istore_n rfl (by decide) dX11_comesToTheSame_44) <|
  ms_oc1 rfl (s_iload_n rfl dX11_comesToTheSame_45) <|
  ms_oc1 rfl (s_aload_n rfl dX11_comesToTheSame_46) <|
  ms_oc1 rfl (s_get (r := (RX11, TX11, 17)) rfl (by decide) rfl rfl kw_338 dX11_comesToTheSame_47) <|
  ms_oc1 rfl (s_get (r := (RX4, TX4, 6)) rfl (by decide) rfl rfl kw_130 dX11_comesToTheSame_50) <|
  ms_oc1 rfl (s_icmpge (by decide) dX11_comesToTheSame_53) <|
  ms_oc1 rfl (s_aload_n rfl dX11_comesToTheSame_56) <|
  ms_oc1 rfl (s_get (r := (RX11, TX11, 17)) rfl (by decide) rfl rfl kw_345 dX11_comesToTheSame_57) <|
  ms_oc1 rfl (s_aload_n rfl dX11_comesToTheSame_60) <|
  ms_oc1 rfl (s_get (r := (RX11, TX11, 17)) rfl (by decide) rfl rfl kw_338 dX11_comesToTheSame_61) <|
  ms_oc1 rfl (s_get (r := (RX4, TX4, 6)) rfl (by decide) rfl rfl kw_124 dX11_comesToTheSame_64) <|
  ms_oc1 rfl (s_iload_n rfl dX11_comesToTheSame_67) <|
  ms_oc1 rfl (s_iaload dX11_comesToTheSame_68) <|
  ms_oc1 rfl (s_iload_n rfl dX11_comesToTheSame_69) <|
  ms_oc1 rfl (s_invV (r := (RX2, TX2, 1)) rfl rfl kw_597 kw_489 kw_490 kw_80 kw_491 ⟨by decide +kernel, by decide +kernel, by decide +kernel⟩ (by decide) dX11_comesToTheSame_70) <|
  ms_oc1 rfl (s_lstore (by decide) dX11_comesToTheSame_73) <|
  ms_oc1 rfl (s_lload dX11_comesToTheSame_75) <|
  ms_oc1 rfl (s_aload_n rfl dX11_comesToTheSame_77) <|
  ms_oc1 rfl (s_get (r := (RX11, TX11, 17)) rfl (by decide) rfl rfl kw_346 dX11_comesToTheSame_78) <|
  ms_oc1 rfl (s_aload_n rfl dX11_comesToTheSame_81) <|
  ms_oc1 rfl (s_get (r := (RX4, TX4, 6)) rfl (by decide) rfl rfl kw_124 dX11_comesToTheSame_82) <|
  ms_oc1 rfl (s_iload_n rfl dX11_comesToTheSame_85) <|
  ms_oc1 rfl (s_iaload dX11_comesToTheSame_86) <|
  ms_oc1 rfl (s_iload_n rfl dX11_comesToTheSame_87) <|
  ms_oc1 rfl (s_invV (r := (RX2, TX2, 1)) rfl rfl kw_597 kw_489 kw_490 kw_80 kw_491 ⟨by decide +kernel, by decide +kernel, by decide +kernel⟩ (by decide) dX11_comesToTheSame_88) <|
  ms_oc1 rfl (s_lcmp dX11_comesToTheSame_91) <|
  ms_oc1 rfl (s_ifeq (by decide) dX11_comesToTheSame_92) <|
  ms_oc1 rfl (s_iconst dX11_comesToTheSame_95 (by decide)) <|
  ms_oc1 rfl (s_iret (b := true) rfl dX11_comesToTheSame_96) <|
  ms_oc1 rfl (s_iinc (by decide) dX11_comesToTheSame_97) <|
  ms_oc1 rfl (s_goto (by decide) dX11_comesToTheSame_100) <|
  ms_oc1 rfl (s_iinc (by decide) dX11_comesToTheSame_103) <|
  ms_oc1 rfl (s_goto (by decide) dX11_comesToTheSame_106) <|
  ms_oc1 rfl (s_iconst dX11_comesToTheSame_109 (by decide)) <|
  ms_oc0 (s_iret (b := true) rfl dX11_comesToTheSame_110)

def tX11_isSumOfTwoAhead (G : ms_G) (Q : ms_Q) (d : Nat) : List (Nat × ms_T) := [(0, (o_ci 0)), (1, (o_st 2 0)), (100000, o_go G Q mX11_isSumOfTwoAhead (d + 1) 2), (2, (o_ld 2 0)), (3, (o_ld 1 0)), (4, (o_if2 G Q mX11_isSumOfTwoAhead (d + 1) (fun a b => b ≤ a) 45)), (7, (o_ci 0)), (8, (o_st 3 0)), (100000, o_go G Q mX11_isSumOfTwoAhead (d + 1) 9), (9, (o_ld 3 0)), (10, (o_ld 2 0)), (11, (o_if2 G Q mX11_isSumOfTwoAhead (d + 1) (fun a b => b < a) 39)), (14, (o_ld 0 2)), (15, (o_ld 2 0)), (16, (o_ald 100 0)), (17, (o_un 0 1 (fun a => a))), (18, (o_ld 0 2)), (19, (o_ld 3 0)), (20, (o_ald 100 0)), (21, (o_un 0 1 (fun a => a))), (22, (o_lbin (fun a b => w64 (a + b)))), (23, (o_ld 0 2)), (24, (o_ld 1 0)), (25, (o_ald 100 0)), (26, (o_un 0 1 (fun a => a))), (27, o_lcmp), (28, (o_if1 G Q mX11_isSumOfTwoAhead (d + 1) (fun x => ¬ x = 0) 33)), (31, (o_ci 1)), (32, (o_ret Q true)), (33, (o_inc 3 1)), (36, (o_go G Q mX11_isSumOfTwoAhead (d + 1) 9)), (39, (o_inc 2 1)), (42, (o_go G Q mX11_isSumOfTwoAhead (d + 1) 2)), (45, (o_ci 0)), (46, (o_ret Q true))]
set_option maxRecDepth 100000 in
set_option maxHeartbeats 4000000 in
theorem kX11_isSumOfTwoAhead (G : ms_G) (Q : ms_Q) (d : Nat) : ms_Oc G Q mX11_isSumOfTwoAhead (d + 1) (tX11_isSumOfTwoAhead G Q d) :=
  ms_oc1 rfl (s_iconst dX11_isSumOfTwoAhead_0 (by decide)) <|
  ms_occ (s_istore_n rfl (by decide) dX11_isSumOfTwoAhead_1) <|
  ms_oc1 rfl (s_iload_n rfl dX11_isSumOfTwoAhead_2) <|
  ms_oc1 rfl (s_iload_n rfl dX11_isSumOfTwoAhead_3) <|
  ms_oc1 rfl (s_icmpge (by decide) dX11_isSumOfTwoAhead_4) <|
  ms_oc1 rfl (s_iconst dX11_isSumOfTwoAhead_7 (by decide)) <|
  ms_occ (s_istore_n rfl (by decide) dX11_isSumOfTwoAhead_8) <|
  ms_oc1 rfl (s_iload_n rfl dX11_isSumOfTwoAhead_9) <|
  ms_oc1 rfl (s_iload_n rfl dX11_isSumOfTwoAhead_10) <|
  ms_oc1 rfl (s_icmpgt (by decide) dX11_isSumOfTwoAhead_11) <|
  ms_oc1 rfl (s_aload_n rfl dX11_isSumOfTwoAhead_14) <|
  ms_oc1 rfl (s_iload_n rfl dX11_isSumOfTwoAhead_15) <|
  ms_oc1 rfl (s_iaload dX11_isSumOfTwoAhead_16) <|
  ms_oc1 rfl (s_i2l dX11_isSumOfTwoAhead_17) <|
  ms_oc1 rfl (s_aload_n rfl dX11_isSumOfTwoAhead_18) <|
  ms_oc1 rfl (s_iload_n rfl dX11_isSumOfTwoAhead_19) <|
  ms_oc1 rfl (s_iaload dX11_isSumOfTwoAhead_20) <|
  ms_oc1 rfl (s_i2l dX11_isSumOfTwoAhead_21) <|
  ms_oc1 rfl (s_ladd dX11_isSumOfTwoAhead_22) <|
  ms_oc1 rfl (s_aload_n rfl dX11_isSumOfTwoAhead_23) <|
  ms_oc1 rfl (s_iload_n rfl dX11_isSumOfTwoAhead_24) <|
  ms_oc1 rfl (s_iaload dX11_isSumOfTwoAhead_25) <|
  ms_oc1 rfl (s_i2l dX11_isSumOfTwoAhead_26) <|
  ms_oc1 rfl (s_lcmp dX11_isSumOfTwoAhead_27) <|
  ms_oc1 rfl (s_ifne (by decide) dX11_isSumOfTwoAhead_28) <|
  ms_oc1 rfl (s_iconst dX11_isSumOfTwoAhead_31 (by decide)) <|
  ms_oc1 rfl (s_iret (b := true) rfl dX11_isSumOfTwoAhead_32) <|
  ms_oc1 rfl (s_iinc (by decide) dX11_isSumOfTwoAhead_33) <|
  ms_oc1 rfl (s_goto (by decide) dX11_isSumOfTwoAhead_36) <|
  ms_oc1 rfl (s_iinc (by decide) dX11_isSumOfTwoAhead_39) <|
  ms_oc1 rfl (s_goto (by decide) dX11_isSumOfTwoAhead_42) <|
  ms_oc1 rfl (s_iconst dX11_isSumOfTwoAhead_45 (by decide)) <|
  ms_oc0 (s_iret (b := true) rfl dX11_isSumOfTwoAhead_46)

def tX11_highestBitOf (G : ms_G) (Q : ms_Q) (d : Nat) : List (Nat × ms_T) := [(0, (o_ci 31)), (2, (o_ld 0 0)), (3, (o_invS G d mJ6_numberOfLeadingZeros_0f7a4 1 0 0)), (6, (o_bin (fun a b => w32 (a - b)))), (7, (o_ret Q false))]
set_option maxRecDepth 100000 in
set_option maxHeartbeats 4000000 in
theorem kX11_highestBitOf (G : ms_G) (Q : ms_Q) (d : Nat) : ms_Oc G Q mX11_highestBitOf (d + 1) (tX11_highestBitOf G Q d) :=
  ms_oc1 rfl (s_bipush dX11_highestBitOf_0 (by decide) (by decide)) <|
  ms_oc1 rfl (s_iload_n rfl dX11_highestBitOf_2) <|
  ms_oc1 rfl (s_invS kw_513 kw_514 kw_89 kw_515 ⟨by decide +kernel, by decide +kernel, by decide +kernel⟩ (by decide) dX11_highestBitOf_3) <|
  ms_oc1 rfl (s_isub dX11_highestBitOf_6) <|
  ms_oc0 (s_iret (b := false) rfl dX11_highestBitOf_7)

def tX11_bound (G : ms_G) (Q : ms_Q) (d : Nat) : List (Nat × ms_T) := [(0, (o_ld 0 0)), (1, (o_invS G d mX11_highestBitOf 1 0 0)), (4, (o_st 2 0)), (5, (o_ld 0 0)), (6, (o_invS G d mJ6_bitCount_0f7a4 1 0 0)), (9, (o_st 3 0)), (10, (o_ld 1 0)), (11, (o_if1 G Q mX11_bound (d + 1) (fun x => ¬ x = 0) 16)), (14, (o_ld 2 0)), (15, (o_ret Q false)), (16, (o_ld 1 0)), (17, (o_ci 1)), (18, (o_if2 G Q mX11_bound (d + 1) (fun a b => ¬ a = b) 45)), (21, (o_ld 2 0)), (22, (o_ld 3 0)), (23, (o_ci 2)), (24, (o_if2 G Q mX11_bound (d + 1) (fun a b => b < a) 33)), (27, (o_ld 3 0)), (28, (o_ci 1)), (29, (o_bin (fun a b => w32 (a - b)))), (30, (o_go G Q mX11_bound (d + 1) 43)), (33, (o_ld 3 0)), (34, (o_ci 4)), (35, (o_if2 G Q mX11_bound (d + 1) (fun a b => b < a) 42)), (38, (o_ci 2)), (39, (o_go G Q mX11_bound (d + 1) 43)), (42, (o_ci 3)), (100000, o_go G Q mX11_bound (d + 1) 43), (43, (o_bin (fun a b => w32 (a + b)))), (44, (o_ret Q false)), (45, (o_ld 3 0)), (46, (o_ci 1)), (47, (o_if2 G Q mX11_bound (d + 1) (fun a b => ¬ a = b) 54)), (50, (o_ld 2 0)), (51, (o_go G Q mX11_bound (d + 1) 57)), (54, (o_ld 2 0)), (55, (o_ci 1)), (56, (o_bin (fun a b => w32 (a + b)))), (100000, o_go G Q mX11_bound (d + 1) 57), (57, (o_ret Q false))]
set_option maxRecDepth 100000 in
set_option maxHeartbeats 4000000 in
theorem kX11_bound (G : ms_G) (Q : ms_Q) (d : Nat) : ms_Oc G Q mX11_bound (d + 1) (tX11_bound G Q d) :=
  ms_oc1 rfl (s_iload_n rfl dX11_bound_0) <|
  ms_oc1 rfl (s_invS kw_803 kw_511 kw_76 kw_512 ⟨by decide +kernel, by decide +kernel, by decide +kernel⟩ (by decide) dX11_bound_1) <|
  ms_oc1 rfl (s_istore_n rfl (by decide) dX11_bound_4) <|
  ms_oc1 rfl (s_iload_n rfl dX11_bound_5) <|
  ms_oc1 rfl (s_invS kw_804 kw_518 kw_89 kw_519 ⟨by decide +kernel, by decide +kernel, by decide +kernel⟩ (by decide) dX11_bound_6) <|
  ms_oc1 rfl (s_istore_n rfl (by decide) dX11_bound_9) <|
  ms_oc1 rfl (s_iload_n rfl dX11_bound_10) <|
  ms_oc1 rfl (s_ifne (by decide) dX11_bound_11) <|
  ms_oc1 rfl (s_iload_n rfl dX11_bound_14) <|
  ms_oc1 rfl (s_iret (b := false) rfl dX11_bound_15) <|
  ms_oc1 rfl (s_iload_n rfl dX11_bound_16) <|
  ms_oc1 rfl (s_iconst dX11_bound_17 (by decide)) <|
  ms_oc1 rfl (s_icmpne (by decide) dX11_bound_18) <|
  ms_oc1 rfl (s_iload_n rfl dX11_bound_21) <|
  ms_oc1 rfl (s_iload_n rfl dX11_bound_22) <|
  ms_oc1 rfl (s_iconst dX11_bound_23 (by decide)) <|
  ms_oc1 rfl (s_icmpgt (by decide) dX11_bound_24) <|
  ms_oc1 rfl (s_iload_n rfl dX11_bound_27) <|
  ms_oc1 rfl (s_iconst dX11_bound_28 (by decide)) <|
  ms_oc1 rfl (s_isub dX11_bound_29) <|
  ms_oc1 rfl (s_goto (by decide) dX11_bound_30) <|
  ms_oc1 rfl (s_iload_n rfl dX11_bound_33) <|
  ms_oc1 rfl (s_iconst dX11_bound_34 (by decide)) <|
  ms_oc1 rfl (s_icmpgt (by decide) dX11_bound_35) <|
  ms_oc1 rfl (s_iconst dX11_bound_38 (by decide)) <|
  ms_oc1 rfl (s_goto (by decide) dX11_bound_39) <|
  ms_occ (s_iconst dX11_bound_42 (by decide)) <|
  ms_oc1 rfl (s_iadd dX11_bound_43) <|
  ms_oc1 rfl (s_iret (b := false) rfl dX11_bound_44) <|
  ms_oc1 rfl (s_iload_n rfl dX11_bound_45) <|
  ms_oc1 rfl (s_iconst dX11_bound_46 (by decide)) <|
  ms_oc1 rfl (s_icmpne (by decide) dX11_bound_47) <|
  ms_oc1 rfl (s_iload_n rfl dX11_bound_50) <|
  ms_oc1 rfl (s_goto (by decide) dX11_bound_51) <|
  ms_oc1 rfl (s_iload_n rfl dX11_bound_54) <|
  ms_oc1 rfl (s_iconst dX11_bound_55 (by decide)) <|
  ms_occ (s_iadd dX11_bound_56) <|
  ms_oc0 (s_iret (b := false) rfl dX11_bound_57)
