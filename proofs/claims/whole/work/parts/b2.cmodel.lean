-- THE REFERENCE'S CONSTRUCTOR
variable {SC : Nat → Nat} {X : mh_X} {d kc ks : Nat} {Q : Option am_V → am_W → Prop}
def cs_X12 (n : Nat) : List cs_C := (110, 0, [(97, (999, n + 588)), (96, (999, n + 587)), (90, (999, n + 586)), (89, (999, n + 585)), (88, (999, n + 584)), (87, (999, n + 583)), (86, (999, n + 582)), (85, (999, n + 581)), (84, (999, n + 580)), (83, (999, n + 579)), (82, (999, n + 578)), (80, (999, n + 577)), (79, (999, n + 576)), (78, (999, n + 575)), (77, (999, n + 574)), (74, (999, n + 573)), (73, (999, n + 572)), (72, (999, n + 571)), (71, (999, n + 570)), (69, (999, n + 569)), (68, (999, n + 568)), (67, (999, n + 567)), (61, (999, n + 566)), (60, (999, n + 525)), (59, (999, n + 524)), (58, (999, n + 523)), (57, (999, n + 522)), (56, (999, n + 521)), (55, (999, n + 520)), (54, (999, n + 519)), (53, (999, n + 518)), (51, (999, n + 517)), (50, (999, n + 516)), (49, (999, n + 515)), (48, (999, n + 514)), (46, (999, n + 513)), (45, (999, n + 512)), (44, (999, n + 511)), (43, (999, n + 510)), (41, (999, n + 509)), (40, (999, n + 508)), (39, (999, n + 507)), (38, (999, n + 506)), (37, (999, n + 505)), (36, (999, n + 504)), (35, (999, n + 503)), (34, (999, n + 502)), (29, (999, n + 501)), (28, (999, n + 500)), (27, (999, n + 499)), (26, (999, n + 498)), (25, (999, n + 497)), (24, (999, n + 496)), (23, (999, n + 495)), (22, (999, n + 494)), (20, (999, n + 493)), (19, (999, n + 492)), (18, (999, n + 491)), (17, (999, n + 490)), (16, (999, n + 489)), (15, (999, n + 481)), (14, (999, n + 473)), (13, (999, n + 465)), (12, (999, n + 247)), (11, (999, n + 29)), (10, (999, n + 21)), (9, (999, n + 13)), (8, (999, n + 5)), (7, (999, n + 4)), (6, (999, n + 3)), (5, (999, n + 2)), (0, (999, n + 1))], []) :: ([] ++ [(3, 3000, [], [])] ++ [(0, 6, [], [])] ++ [(0, 7, [], [])] ++ [(0, 7, [], [])] ++ cs_g2 7 30 (n + 5) ++ cs_g2 7 30 (n + 13) ++ cs_g2 7 30 (n + 21) ++ cs_g3 7 30 4 (n + 29) ++ cs_g3 7 30 12 (n + 247) ++ cs_g2 7 4 (n + 465) ++ cs_g2 7 8 (n + 473) ++ cs_g2 7 8 (n + 481) ++ [(0, 7, [], [])] ++ [(0, 7, [], [])] ++ [(0, 7, [], [])] ++ [(0, 7, [], [])] ++ [(0, 7, [], [])] ++ [(9, 12, [(11, (1000, 58)), (10, (1000, 57)), (9, (1000, 56)), (8, (1000, 55)), (7, (1000, 54)), (6, (1000, 53)), (5, (1000, 52)), (4, (1000, 51)), (3, (1000, 50)), (2, (1000, 49)), (1, (1000, 48)), (0, (1000, 47))], [])] ++ [(9, 5, [(4, (1000, 63)), (3, (1000, 62)), (2, (1000, 61)), (1, (1000, 60)), (0, (1000, 59))], [])] ++ [(9, 4, [(3, (1000, 67)), (2, (1000, 66)), (1, (1000, 65)), (0, (1000, 64))], [])] ++ [(9, 4, [(3, (1000, 71)), (2, (1000, 70)), (1, (1000, 69)), (0, (1000, 68))], [])] ++ [(9, 4, [(3, (1000, 75)), (2, (1000, 74)), (1, (1000, 73)), (0, (1000, 72))], [])] ++ [(0, 3000, [], [])] ++ [(0, 3000, [], [])] ++ [(0, 3000, [], [])] ++ [(0, 40, [], [])] ++ [(0, 40, [], [])] ++ [(0, 40, [], [])] ++ [(0, 40, [], [])] ++ [(0, 40, [], [])] ++ [(0, 40, [], [])] ++ [(0, 40, [], [])] ++ [(0, 40, [], [])] ++ [(0, 40, [], [])] ++ [(0, 40, [], [])] ++ [(0, 40, [], [])] ++ [(0, 40, [], [])] ++ [(0, 10, [], [])] ++ [(0, 10, [], [])] ++ [(0, 10, [], [])] ++ [(0, 10, [], [])] ++ [(4, 40, [], [])] ++ [(4, 40, [], [])] ++ [(0, 40, [], [])] ++ [(0, 40, [], [])] ++ [(0, 40, [], [])] ++ [(0, 40, [], [])] ++ [(0, 40, [], [])] ++ cs_g2 40 4 (n + 525) ++ [(4, 40, [], [])] ++ [(0, 100, [], [])] ++ [(0, 100, [], [])] ++ [(0, 100, [], [])] ++ [(0, 60, [], [])] ++ [(0, 40, [], [])] ++ [(0, 40, [], [])] ++ [(0, 5, [], [])] ++ [(0, 20, [], [])] ++ [(0, 20, [], [])] ++ [(0, 20, [], [])] ++ [(0, 20, [], [])] ++ [(0, 5, [], [])] ++ [(0, 5, [], [])] ++ [(0, 5, [], [])] ++ [(0, 5, [], [])] ++ [(0, 5, [], [])] ++ [(0, 5, [], [])] ++ [(4, 40, [], [])] ++ [(0, 5, [], [])] ++ [(0, 25, [], [])] ++ [(3, 400, [], [])] ++ [(3, 400, [], [])])
theorem pX12_init {A : List cs_C} (hkc : 588 ≤ kc) (hks : 19155 ≤ ks) (K : Q none (cs_W (A ++ cs_X12 A.length))) : am_M (mh_G X) SC (d + 1) kc ks mX12_init [.inr (.inr (some (999, A.length)))] (cs_W (A ++ [(110, 0, [], [])])) Q := by
  refine am_M_of (by decide) (Nat.le_of_ble_eq_true rfl) ?_
  refine am_aload_n dX12_init_0 (by repeat (first | exact List.Mem.head _ | apply List.Mem.tail)) ?_
  refine am_objinit dX12_init_1 wd_1513 wd_142 wd_143 (by omega) (by decide) ?_
  refine am_aload_n dX12_init_4 (by repeat (first | exact List.Mem.head _ | apply List.Mem.tail)) ?_
  refine am_sipush dX12_init_5 (by decide) (by unfold am_rg; omega) ?_
  refine cs_newput (kd := 3) (ln := 3000) (nb := 1) dX12_init_8 dX12_init_10 rfl (by decide) wd_916 rfl (by decide) (by omega) (by omega) hc_10 (f := 0) (by decide) wd_1549 (by first | exact Or.inl rfl | exact Or.inr ⟨rfl, rfl, rfl⟩) rfl rfl (by simp only [List.length_append, List.length_cons, List.length_nil, cs_g2_l, cs_g3_l]) ?_
  refine am_aload_n dX12_init_13 (by repeat (first | exact List.Mem.head _ | apply List.Mem.tail)) ?_
  refine am_bipush dX12_init_14 (by decide) (by unfold am_rg; omega) ?_
  refine cs_newput (kd := 0) (ln := 6) (nb := 2) dX12_init_16 dX12_init_18 rfl (by decide) wd_186 rfl (by decide) (by omega) (by omega) hc_10 (f := 5) (by decide) wd_1554 (by first | exact Or.inl rfl | exact Or.inr ⟨rfl, rfl, rfl⟩) rfl rfl (by simp only [List.length_append, List.length_cons, List.length_nil, cs_g2_l, cs_g3_l]) ?_
  refine am_aload_n dX12_init_21 (by repeat (first | exact List.Mem.head _ | apply List.Mem.tail)) ?_
  refine am_bipush dX12_init_22 (by decide) (by unfold am_rg; omega) ?_
  refine cs_newput (kd := 0) (ln := 7) (nb := 3) dX12_init_24 dX12_init_26 rfl (by decide) wd_186 rfl (by decide) (by omega) (by omega) hc_10 (f := 6) (by decide) wd_1555 (by first | exact Or.inl rfl | exact Or.inr ⟨rfl, rfl, rfl⟩) rfl rfl (by simp only [List.length_append, List.length_cons, List.length_nil, cs_g2_l, cs_g3_l]) ?_
  refine am_aload_n dX12_init_29 (by repeat (first | exact List.Mem.head _ | apply List.Mem.tail)) ?_
  refine am_bipush dX12_init_30 (by decide) (by unfold am_rg; omega) ?_
  refine cs_newput (kd := 0) (ln := 7) (nb := 4) dX12_init_32 dX12_init_34 rfl (by decide) wd_186 rfl (by decide) (by omega) (by omega) hc_10 (f := 7) (by decide) wd_1556 (by first | exact Or.inl rfl | exact Or.inr ⟨rfl, rfl, rfl⟩) rfl rfl (by simp only [List.length_append, List.length_cons, List.length_nil, cs_g2_l, cs_g3_l]) ?_
  refine am_aload_n dX12_init_37 (by repeat (first | exact List.Mem.head _ | apply List.Mem.tail)) ?_
  refine am_bipush dX12_init_38 (by decide) (by unfold am_rg; omega) ?_
  refine am_bipush dX12_init_40 (by decide) (by unfold am_rg; omega) ?_
  refine cs_grid2 (nb := 5) (a := 7) (b := 30) dX12_init_42 dX12_init_46 wd_1514 (by decide) rfl rfl (by decide) (by decide) (by omega) (by omega) hc_10 (f := 8) (by decide) wd_1557 (by first | exact Or.inl rfl | exact Or.inr ⟨rfl, rfl, rfl⟩) rfl rfl (by simp only [List.length_append, List.length_cons, List.length_nil, cs_g2_l, cs_g3_l]) ?_
  refine am_aload_n dX12_init_49 (by repeat (first | exact List.Mem.head _ | apply List.Mem.tail)) ?_
  refine am_bipush dX12_init_50 (by decide) (by unfold am_rg; omega) ?_
  refine am_bipush dX12_init_52 (by decide) (by unfold am_rg; omega) ?_
  refine cs_grid2 (nb := 13) (a := 7) (b := 30) dX12_init_54 dX12_init_58 wd_1514 (by decide) rfl rfl (by decide) (by decide) (by omega) (by omega) hc_10 (f := 9) (by decide) wd_1558 (by first | exact Or.inl rfl | exact Or.inr ⟨rfl, rfl, rfl⟩) rfl rfl (by simp only [List.length_append, List.length_cons, List.length_nil, cs_g2_l, cs_g3_l]) ?_
  refine am_aload_n dX12_init_61 (by repeat (first | exact List.Mem.head _ | apply List.Mem.tail)) ?_
  refine am_bipush dX12_init_62 (by decide) (by unfold am_rg; omega) ?_
  refine am_bipush dX12_init_64 (by decide) (by unfold am_rg; omega) ?_
  refine cs_grid2 (nb := 21) (a := 7) (b := 30) dX12_init_66 dX12_init_70 wd_1514 (by decide) rfl rfl (by decide) (by decide) (by omega) (by omega) hc_10 (f := 10) (by decide) wd_1559 (by first | exact Or.inl rfl | exact Or.inr ⟨rfl, rfl, rfl⟩) rfl rfl (by simp only [List.length_append, List.length_cons, List.length_nil, cs_g2_l, cs_g3_l]) ?_
  refine am_aload_n dX12_init_73 (by repeat (first | exact List.Mem.head _ | apply List.Mem.tail)) ?_
  refine am_bipush dX12_init_74 (by decide) (by unfold am_rg; omega) ?_
  refine am_bipush dX12_init_76 (by decide) (by unfold am_rg; omega) ?_
  refine am_iconst dX12_init_78 (by unfold am_rg; omega) ?_
  refine cs_grid3 (nb := 29) (a := 7) (b := 30) (o := 4) dX12_init_79 dX12_init_83 wd_1516 (by decide) (by decide) rfl rfl rfl (by decide) (by decide) (by decide) (by omega) (by omega) hc_10 (f := 11) (by decide) wd_1560 (by first | exact Or.inl rfl | exact Or.inr ⟨rfl, rfl, rfl⟩) rfl rfl (by simp only [List.length_append, List.length_cons, List.length_nil, cs_g2_l, cs_g3_l]) ?_
  refine am_aload_n dX12_init_86 (by repeat (first | exact List.Mem.head _ | apply List.Mem.tail)) ?_
  refine am_bipush dX12_init_87 (by decide) (by unfold am_rg; omega) ?_
  refine am_bipush dX12_init_89 (by decide) (by unfold am_rg; omega) ?_
  refine am_bipush dX12_init_91 (by decide) (by unfold am_rg; omega) ?_
  refine cs_grid3 (nb := 247) (a := 7) (b := 30) (o := 12) dX12_init_93 dX12_init_97 wd_1516 (by decide) (by decide) rfl rfl rfl (by decide) (by decide) (by decide) (by omega) (by omega) hc_10 (f := 12) (by decide) wd_1561 (by first | exact Or.inl rfl | exact Or.inr ⟨rfl, rfl, rfl⟩) rfl rfl (by simp only [List.length_append, List.length_cons, List.length_nil, cs_g2_l, cs_g3_l]) ?_
  refine am_aload_n dX12_init_100 (by repeat (first | exact List.Mem.head _ | apply List.Mem.tail)) ?_
  refine am_bipush dX12_init_101 (by decide) (by unfold am_rg; omega) ?_
  refine am_iconst dX12_init_103 (by unfold am_rg; omega) ?_
  refine cs_grid2 (nb := 465) (a := 7) (b := 4) dX12_init_104 dX12_init_108 wd_1514 (by decide) rfl rfl (by decide) (by decide) (by omega) (by omega) hc_10 (f := 13) (by decide) wd_1562 (by first | exact Or.inl rfl | exact Or.inr ⟨rfl, rfl, rfl⟩) rfl rfl (by simp only [List.length_append, List.length_cons, List.length_nil, cs_g2_l, cs_g3_l]) ?_
  refine am_aload_n dX12_init_111 (by repeat (first | exact List.Mem.head _ | apply List.Mem.tail)) ?_
  refine am_bipush dX12_init_112 (by decide) (by unfold am_rg; omega) ?_
  refine am_bipush dX12_init_114 (by decide) (by unfold am_rg; omega) ?_
  refine cs_grid2 (nb := 473) (a := 7) (b := 8) dX12_init_116 dX12_init_120 wd_1514 (by decide) rfl rfl (by decide) (by decide) (by omega) (by omega) hc_10 (f := 14) (by decide) wd_1563 (by first | exact Or.inl rfl | exact Or.inr ⟨rfl, rfl, rfl⟩) rfl rfl (by simp only [List.length_append, List.length_cons, List.length_nil, cs_g2_l, cs_g3_l]) ?_
  refine am_aload_n dX12_init_123 (by repeat (first | exact List.Mem.head _ | apply List.Mem.tail)) ?_
  refine am_bipush dX12_init_124 (by decide) (by unfold am_rg; omega) ?_
  refine am_bipush dX12_init_126 (by decide) (by unfold am_rg; omega) ?_
  refine cs_grid2 (nb := 481) (a := 7) (b := 8) dX12_init_128 dX12_init_132 wd_1514 (by decide) rfl rfl (by decide) (by decide) (by omega) (by omega) hc_10 (f := 15) (by decide) wd_1564 (by first | exact Or.inl rfl | exact Or.inr ⟨rfl, rfl, rfl⟩) rfl rfl (by simp only [List.length_append, List.length_cons, List.length_nil, cs_g2_l, cs_g3_l]) ?_
  refine am_aload_n dX12_init_135 (by repeat (first | exact List.Mem.head _ | apply List.Mem.tail)) ?_
  refine am_bipush dX12_init_136 (by decide) (by unfold am_rg; omega) ?_
  refine cs_newput (kd := 0) (ln := 7) (nb := 489) dX12_init_138 dX12_init_140 rfl (by decide) wd_186 rfl (by decide) (by omega) (by omega) hc_10 (f := 16) (by decide) wd_1565 (by first | exact Or.inl rfl | exact Or.inr ⟨rfl, rfl, rfl⟩) rfl rfl (by simp only [List.length_append, List.length_cons, List.length_nil, cs_g2_l, cs_g3_l]) ?_
  refine am_aload_n dX12_init_143 (by repeat (first | exact List.Mem.head _ | apply List.Mem.tail)) ?_
  refine am_bipush dX12_init_144 (by decide) (by unfold am_rg; omega) ?_
  refine cs_newput (kd := 0) (ln := 7) (nb := 490) dX12_init_146 dX12_init_148 rfl (by decide) wd_186 rfl (by decide) (by omega) (by omega) hc_10 (f := 17) (by decide) wd_1566 (by first | exact Or.inl rfl | exact Or.inr ⟨rfl, rfl, rfl⟩) rfl rfl (by simp only [List.length_append, List.length_cons, List.length_nil, cs_g2_l, cs_g3_l]) ?_
  refine am_aload_n dX12_init_151 (by repeat (first | exact List.Mem.head _ | apply List.Mem.tail)) ?_
  refine am_bipush dX12_init_152 (by decide) (by unfold am_rg; omega) ?_
  refine cs_newput (kd := 0) (ln := 7) (nb := 491) dX12_init_154 dX12_init_156 rfl (by decide) wd_186 rfl (by decide) (by omega) (by omega) hc_10 (f := 18) (by decide) wd_1567 (by first | exact Or.inl rfl | exact Or.inr ⟨rfl, rfl, rfl⟩) rfl rfl (by simp only [List.length_append, List.length_cons, List.length_nil, cs_g2_l, cs_g3_l]) ?_
  refine am_aload_n dX12_init_159 (by repeat (first | exact List.Mem.head _ | apply List.Mem.tail)) ?_
  refine am_bipush dX12_init_160 (by decide) (by unfold am_rg; omega) ?_
  refine cs_newput (kd := 0) (ln := 7) (nb := 492) dX12_init_162 dX12_init_164 rfl (by decide) wd_186 rfl (by decide) (by omega) (by omega) hc_10 (f := 19) (by decide) wd_1568 (by first | exact Or.inl rfl | exact Or.inr ⟨rfl, rfl, rfl⟩) rfl rfl (by simp only [List.length_append, List.length_cons, List.length_nil, cs_g2_l, cs_g3_l]) ?_
  refine am_aload_n dX12_init_167 (by repeat (first | exact List.Mem.head _ | apply List.Mem.tail)) ?_
  refine am_bipush dX12_init_168 (by decide) (by unfold am_rg; omega) ?_
  refine cs_newput (kd := 0) (ln := 7) (nb := 493) dX12_init_170 dX12_init_172 rfl (by decide) wd_186 rfl (by decide) (by omega) (by omega) hc_10 (f := 20) (by decide) wd_1569 (by first | exact Or.inl rfl | exact Or.inr ⟨rfl, rfl, rfl⟩) rfl rfl (by simp only [List.length_append, List.length_cons, List.length_nil, cs_g2_l, cs_g3_l]) ?_
  refine am_aload_n dX12_init_175 (by repeat (first | exact List.Mem.head _ | apply List.Mem.tail)) ?_
  refine am_bipush dX12_init_176 (by decide) (by unfold am_rg; omega) ?_
  refine cs_anew (kd := 9) (ln := 12) dX12_init_178 rfl (by decide) (by decide) wd_1518 (by decide) rfl (by decide) (by omega) (by omega) ?_
  refine am_dup dX12_init_181 rfl ?_
  refine am_iconst dX12_init_182 (by unfold am_rg; omega) ?_
  refine am_ldcS (sid := 47) dX12_init_183 rfl ?_
  refine cs_aast (i := 0) dX12_init_185 (by decide) (by decide) hc_11 rfl (by decide) rfl rfl (by decide) ?_
  refine am_dup dX12_init_186 rfl ?_
  refine am_iconst dX12_init_187 (by unfold am_rg; omega) ?_
  refine am_ldcS (sid := 48) dX12_init_188 rfl ?_
  refine cs_aast (i := 1) dX12_init_190 (by decide) (by decide) hc_11 rfl (by decide) rfl rfl (by decide) ?_
  refine am_dup dX12_init_191 rfl ?_
  refine am_iconst dX12_init_192 (by unfold am_rg; omega) ?_
  refine am_ldcS (sid := 49) dX12_init_193 rfl ?_
  refine cs_aast (i := 2) dX12_init_195 (by decide) (by decide) hc_11 rfl (by decide) rfl rfl (by decide) ?_
  refine am_dup dX12_init_196 rfl ?_
  refine am_iconst dX12_init_197 (by unfold am_rg; omega) ?_
  refine am_ldcS (sid := 50) dX12_init_198 rfl ?_
  refine cs_aast (i := 3) dX12_init_200 (by decide) (by decide) hc_11 rfl (by decide) rfl rfl (by decide) ?_
  refine am_dup dX12_init_201 rfl ?_
  refine am_iconst dX12_init_202 (by unfold am_rg; omega) ?_
  refine am_ldcS (sid := 51) dX12_init_203 rfl ?_
  refine cs_aast (i := 4) dX12_init_205 (by decide) (by decide) hc_11 rfl (by decide) rfl rfl (by decide) ?_
  refine am_dup dX12_init_206 rfl ?_
  refine am_iconst dX12_init_207 (by unfold am_rg; omega) ?_
  refine am_ldcS (sid := 52) dX12_init_208 rfl ?_
  refine cs_aast (i := 5) dX12_init_210 (by decide) (by decide) hc_11 rfl (by decide) rfl rfl (by decide) ?_
  refine am_dup dX12_init_211 rfl ?_
  refine am_bipush dX12_init_212 (by decide) (by unfold am_rg; omega) ?_
  refine am_ldcS (sid := 53) dX12_init_214 rfl ?_
  refine cs_aast (i := 6) dX12_init_216 (by decide) (by decide) hc_11 rfl (by decide) rfl rfl (by decide) ?_
  refine am_dup dX12_init_217 rfl ?_
  refine am_bipush dX12_init_218 (by decide) (by unfold am_rg; omega) ?_
  refine am_ldcS (sid := 54) dX12_init_220 rfl ?_
  refine cs_aast (i := 7) dX12_init_222 (by decide) (by decide) hc_11 rfl (by decide) rfl rfl (by decide) ?_
  refine am_dup dX12_init_223 rfl ?_
  refine am_bipush dX12_init_224 (by decide) (by unfold am_rg; omega) ?_
  refine am_ldcS (sid := 55) dX12_init_226 rfl ?_
  refine cs_aast (i := 8) dX12_init_228 (by decide) (by decide) hc_11 rfl (by decide) rfl rfl (by decide) ?_
  refine am_dup dX12_init_229 rfl ?_
  refine am_bipush dX12_init_230 (by decide) (by unfold am_rg; omega) ?_
  refine am_ldcS (sid := 56) dX12_init_232 rfl ?_
  refine cs_aast (i := 9) dX12_init_234 (by decide) (by decide) hc_11 rfl (by decide) rfl rfl (by decide) ?_
  refine am_dup dX12_init_235 rfl ?_
  refine am_bipush dX12_init_236 (by decide) (by unfold am_rg; omega) ?_
  refine am_ldcS (sid := 57) dX12_init_238 rfl ?_
  refine cs_aast (i := 10) dX12_init_240 (by decide) (by decide) hc_11 rfl (by decide) rfl rfl (by decide) ?_
  refine am_dup dX12_init_241 rfl ?_
  refine am_bipush dX12_init_242 (by decide) (by unfold am_rg; omega) ?_
  refine am_ldcS (sid := 58) dX12_init_244 rfl ?_
  refine cs_aast (i := 11) dX12_init_246 (by decide) (by decide) hc_11 rfl (by decide) rfl rfl (by decide) ?_
  refine cs_putlast (nb := 494) dX12_init_247 hc_10 (f := 22) (by decide) wd_1571 (by first | exact Or.inl rfl | exact Or.inr ⟨rfl, rfl, rfl⟩) rfl rfl (by simp only [List.length_append, List.length_cons, List.length_nil, cs_g2_l, cs_g3_l]) rfl ?_
  refine am_aload_n dX12_init_250 (by repeat (first | exact List.Mem.head _ | apply List.Mem.tail)) ?_
  refine am_iconst dX12_init_251 (by unfold am_rg; omega) ?_
  refine cs_anew (kd := 9) (ln := 5) dX12_init_252 rfl (by decide) (by decide) wd_1518 (by decide) rfl (by decide) (by omega) (by omega) ?_
  refine am_dup dX12_init_255 rfl ?_
  refine am_iconst dX12_init_256 (by unfold am_rg; omega) ?_
  refine am_ldcS (sid := 59) dX12_init_257 rfl ?_
  refine cs_aast (i := 0) dX12_init_259 (by decide) (by decide) hc_11 rfl (by decide) rfl rfl (by decide) ?_
  refine am_dup dX12_init_260 rfl ?_
  refine am_iconst dX12_init_261 (by unfold am_rg; omega) ?_
  refine am_ldcS (sid := 60) dX12_init_262 rfl ?_
  refine cs_aast (i := 1) dX12_init_264 (by decide) (by decide) hc_11 rfl (by decide) rfl rfl (by decide) ?_
  refine am_dup dX12_init_265 rfl ?_
  refine am_iconst dX12_init_266 (by unfold am_rg; omega) ?_
  refine am_ldcS (sid := 61) dX12_init_267 rfl ?_
  refine cs_aast (i := 2) dX12_init_269 (by decide) (by decide) hc_11 rfl (by decide) rfl rfl (by decide) ?_
  refine am_dup dX12_init_270 rfl ?_
  refine am_iconst dX12_init_271 (by unfold am_rg; omega) ?_
  refine am_ldcS (sid := 62) dX12_init_272 rfl ?_
  refine cs_aast (i := 3) dX12_init_274 (by decide) (by decide) hc_11 rfl (by decide) rfl rfl (by decide) ?_
  refine am_dup dX12_init_275 rfl ?_
  refine am_iconst dX12_init_276 (by unfold am_rg; omega) ?_
  refine am_ldcS (sid := 63) dX12_init_277 rfl ?_
  refine cs_aast (i := 4) dX12_init_279 (by decide) (by decide) hc_11 rfl (by decide) rfl rfl (by decide) ?_
  refine cs_putlast (nb := 495) dX12_init_280 hc_10 (f := 23) (by decide) wd_1572 (by first | exact Or.inl rfl | exact Or.inr ⟨rfl, rfl, rfl⟩) rfl rfl (by simp only [List.length_append, List.length_cons, List.length_nil, cs_g2_l, cs_g3_l]) rfl ?_
  refine am_aload_n dX12_init_283 (by repeat (first | exact List.Mem.head _ | apply List.Mem.tail)) ?_
  refine am_iconst dX12_init_284 (by unfold am_rg; omega) ?_
  refine cs_anew (kd := 9) (ln := 4) dX12_init_285 rfl (by decide) (by decide) wd_1518 (by decide) rfl (by decide) (by omega) (by omega) ?_
  refine am_dup dX12_init_288 rfl ?_
  refine am_iconst dX12_init_289 (by unfold am_rg; omega) ?_
  refine am_ldcS (sid := 64) dX12_init_290 rfl ?_
  refine cs_aast (i := 0) dX12_init_292 (by decide) (by decide) hc_11 rfl (by decide) rfl rfl (by decide) ?_
  refine am_dup dX12_init_293 rfl ?_
  refine am_iconst dX12_init_294 (by unfold am_rg; omega) ?_
  refine am_ldcS (sid := 65) dX12_init_295 rfl ?_
  refine cs_aast (i := 1) dX12_init_297 (by decide) (by decide) hc_11 rfl (by decide) rfl rfl (by decide) ?_
  refine am_dup dX12_init_298 rfl ?_
  refine am_iconst dX12_init_299 (by unfold am_rg; omega) ?_
  refine am_ldcS (sid := 66) dX12_init_300 rfl ?_
  refine cs_aast (i := 2) dX12_init_302 (by decide) (by decide) hc_11 rfl (by decide) rfl rfl (by decide) ?_
  refine am_dup dX12_init_303 rfl ?_
  refine am_iconst dX12_init_304 (by unfold am_rg; omega) ?_
  refine am_ldcS (sid := 67) dX12_init_305 rfl ?_
  refine cs_aast (i := 3) dX12_init_307 (by decide) (by decide) hc_11 rfl (by decide) rfl rfl (by decide) ?_
  refine cs_putlast (nb := 496) dX12_init_308 hc_10 (f := 24) (by decide) wd_1573 (by first | exact Or.inl rfl | exact Or.inr ⟨rfl, rfl, rfl⟩) rfl rfl (by simp only [List.length_append, List.length_cons, List.length_nil, cs_g2_l, cs_g3_l]) rfl ?_
  refine am_aload_n dX12_init_311 (by repeat (first | exact List.Mem.head _ | apply List.Mem.tail)) ?_
  refine am_iconst dX12_init_312 (by unfold am_rg; omega) ?_
  refine cs_anew (kd := 9) (ln := 4) dX12_init_313 rfl (by decide) (by decide) wd_1518 (by decide) rfl (by decide) (by omega) (by omega) ?_
  refine am_dup dX12_init_316 rfl ?_
  refine am_iconst dX12_init_317 (by unfold am_rg; omega) ?_
  refine am_ldcS (sid := 68) dX12_init_318 rfl ?_
  refine cs_aast (i := 0) dX12_init_320 (by decide) (by decide) hc_11 rfl (by decide) rfl rfl (by decide) ?_
  refine am_dup dX12_init_321 rfl ?_
  refine am_iconst dX12_init_322 (by unfold am_rg; omega) ?_
  refine am_ldcS (sid := 69) dX12_init_323 rfl ?_
  refine cs_aast (i := 1) dX12_init_325 (by decide) (by decide) hc_11 rfl (by decide) rfl rfl (by decide) ?_
  refine am_dup dX12_init_326 rfl ?_
  refine am_iconst dX12_init_327 (by unfold am_rg; omega) ?_
  refine am_ldcS (sid := 70) dX12_init_328 rfl ?_
  refine cs_aast (i := 2) dX12_init_330 (by decide) (by decide) hc_11 rfl (by decide) rfl rfl (by decide) ?_
  refine am_dup dX12_init_331 rfl ?_
  refine am_iconst dX12_init_332 (by unfold am_rg; omega) ?_
  refine am_ldcS (sid := 71) dX12_init_333 rfl ?_
  refine cs_aast (i := 3) dX12_init_335 (by decide) (by decide) hc_11 rfl (by decide) rfl rfl (by decide) ?_
  refine cs_putlast (nb := 497) dX12_init_336 hc_10 (f := 25) (by decide) wd_1574 (by first | exact Or.inl rfl | exact Or.inr ⟨rfl, rfl, rfl⟩) rfl rfl (by simp only [List.length_append, List.length_cons, List.length_nil, cs_g2_l, cs_g3_l]) rfl ?_
  refine am_aload_n dX12_init_339 (by repeat (first | exact List.Mem.head _ | apply List.Mem.tail)) ?_
  refine am_iconst dX12_init_340 (by unfold am_rg; omega) ?_
  refine cs_anew (kd := 9) (ln := 4) dX12_init_341 rfl (by decide) (by decide) wd_1518 (by decide) rfl (by decide) (by omega) (by omega) ?_
  refine am_dup dX12_init_344 rfl ?_
  refine am_iconst dX12_init_345 (by unfold am_rg; omega) ?_
  refine am_ldcS (sid := 72) dX12_init_346 rfl ?_
  refine cs_aast (i := 0) dX12_init_348 (by decide) (by decide) hc_11 rfl (by decide) rfl rfl (by decide) ?_
  refine am_dup dX12_init_349 rfl ?_
  refine am_iconst dX12_init_350 (by unfold am_rg; omega) ?_
  refine am_ldcS (sid := 73) dX12_init_351 rfl ?_
  refine cs_aast (i := 1) dX12_init_353 (by decide) (by decide) hc_11 rfl (by decide) rfl rfl (by decide) ?_
  refine am_dup dX12_init_354 rfl ?_
  refine am_iconst dX12_init_355 (by unfold am_rg; omega) ?_
  refine am_ldcS (sid := 74) dX12_init_356 rfl ?_
  refine cs_aast (i := 2) dX12_init_358 (by decide) (by decide) hc_11 rfl (by decide) rfl rfl (by decide) ?_
  refine am_dup dX12_init_359 rfl ?_
  refine am_iconst dX12_init_360 (by unfold am_rg; omega) ?_
  refine am_ldcS (sid := 75) dX12_init_361 rfl ?_
  refine cs_aast (i := 3) dX12_init_363 (by decide) (by decide) hc_11 rfl (by decide) rfl rfl (by decide) ?_
  refine cs_putlast (nb := 498) dX12_init_364 hc_10 (f := 26) (by decide) wd_1575 (by first | exact Or.inl rfl | exact Or.inr ⟨rfl, rfl, rfl⟩) rfl rfl (by simp only [List.length_append, List.length_cons, List.length_nil, cs_g2_l, cs_g3_l]) rfl ?_
  refine am_aload_n dX12_init_367 (by repeat (first | exact List.Mem.head _ | apply List.Mem.tail)) ?_
  refine am_sipush dX12_init_368 (by decide) (by unfold am_rg; omega) ?_
  refine cs_newput (kd := 0) (ln := 3000) (nb := 499) dX12_init_371 dX12_init_373 rfl (by decide) wd_186 rfl (by decide) (by omega) (by omega) hc_10 (f := 27) (by decide) wd_1576 (by first | exact Or.inl rfl | exact Or.inr ⟨rfl, rfl, rfl⟩) rfl rfl (by simp only [List.length_append, List.length_cons, List.length_nil, cs_g2_l, cs_g3_l]) ?_
  refine am_aload_n dX12_init_376 (by repeat (first | exact List.Mem.head _ | apply List.Mem.tail)) ?_
  refine am_sipush dX12_init_377 (by decide) (by unfold am_rg; omega) ?_
  refine cs_newput (kd := 0) (ln := 3000) (nb := 500) dX12_init_380 dX12_init_382 rfl (by decide) wd_186 rfl (by decide) (by omega) (by omega) hc_10 (f := 28) (by decide) wd_1577 (by first | exact Or.inl rfl | exact Or.inr ⟨rfl, rfl, rfl⟩) rfl rfl (by simp only [List.length_append, List.length_cons, List.length_nil, cs_g2_l, cs_g3_l]) ?_
  refine am_aload_n dX12_init_385 (by repeat (first | exact List.Mem.head _ | apply List.Mem.tail)) ?_
  refine am_sipush dX12_init_386 (by decide) (by unfold am_rg; omega) ?_
  refine cs_newput (kd := 0) (ln := 3000) (nb := 501) dX12_init_389 dX12_init_391 rfl (by decide) wd_186 rfl (by decide) (by omega) (by omega) hc_10 (f := 29) (by decide) wd_1578 (by first | exact Or.inl rfl | exact Or.inr ⟨rfl, rfl, rfl⟩) rfl rfl (by simp only [List.length_append, List.length_cons, List.length_nil, cs_g2_l, cs_g3_l]) ?_
  refine am_aload_n dX12_init_394 (by repeat (first | exact List.Mem.head _ | apply List.Mem.tail)) ?_
  refine am_bipush dX12_init_395 (by decide) (by unfold am_rg; omega) ?_
  refine cs_newput (kd := 0) (ln := 40) (nb := 502) dX12_init_397 dX12_init_399 rfl (by decide) wd_186 rfl (by decide) (by omega) (by omega) hc_10 (f := 34) (by decide) wd_1583 (by first | exact Or.inl rfl | exact Or.inr ⟨rfl, rfl, rfl⟩) rfl rfl (by simp only [List.length_append, List.length_cons, List.length_nil, cs_g2_l, cs_g3_l]) ?_
  refine am_aload_n dX12_init_402 (by repeat (first | exact List.Mem.head _ | apply List.Mem.tail)) ?_
  refine am_bipush dX12_init_403 (by decide) (by unfold am_rg; omega) ?_
  refine cs_newput (kd := 0) (ln := 40) (nb := 503) dX12_init_405 dX12_init_407 rfl (by decide) wd_186 rfl (by decide) (by omega) (by omega) hc_10 (f := 35) (by decide) wd_1584 (by first | exact Or.inl rfl | exact Or.inr ⟨rfl, rfl, rfl⟩) rfl rfl (by simp only [List.length_append, List.length_cons, List.length_nil, cs_g2_l, cs_g3_l]) ?_
  refine am_aload_n dX12_init_410 (by repeat (first | exact List.Mem.head _ | apply List.Mem.tail)) ?_
  refine am_bipush dX12_init_411 (by decide) (by unfold am_rg; omega) ?_
  refine cs_newput (kd := 0) (ln := 40) (nb := 504) dX12_init_413 dX12_init_415 rfl (by decide) wd_186 rfl (by decide) (by omega) (by omega) hc_10 (f := 36) (by decide) wd_1585 (by first | exact Or.inl rfl | exact Or.inr ⟨rfl, rfl, rfl⟩) rfl rfl (by simp only [List.length_append, List.length_cons, List.length_nil, cs_g2_l, cs_g3_l]) ?_
  refine am_aload_n dX12_init_418 (by repeat (first | exact List.Mem.head _ | apply List.Mem.tail)) ?_
  refine am_bipush dX12_init_419 (by decide) (by unfold am_rg; omega) ?_
  refine cs_newput (kd := 0) (ln := 40) (nb := 505) dX12_init_421 dX12_init_423 rfl (by decide) wd_186 rfl (by decide) (by omega) (by omega) hc_10 (f := 37) (by decide) wd_1586 (by first | exact Or.inl rfl | exact Or.inr ⟨rfl, rfl, rfl⟩) rfl rfl (by simp only [List.length_append, List.length_cons, List.length_nil, cs_g2_l, cs_g3_l]) ?_
  refine am_aload_n dX12_init_426 (by repeat (first | exact List.Mem.head _ | apply List.Mem.tail)) ?_
  refine am_bipush dX12_init_427 (by decide) (by unfold am_rg; omega) ?_
  refine cs_newput (kd := 0) (ln := 40) (nb := 506) dX12_init_429 dX12_init_431 rfl (by decide) wd_186 rfl (by decide) (by omega) (by omega) hc_10 (f := 38) (by decide) wd_1587 (by first | exact Or.inl rfl | exact Or.inr ⟨rfl, rfl, rfl⟩) rfl rfl (by simp only [List.length_append, List.length_cons, List.length_nil, cs_g2_l, cs_g3_l]) ?_
  refine am_aload_n dX12_init_434 (by repeat (first | exact List.Mem.head _ | apply List.Mem.tail)) ?_
  refine am_bipush dX12_init_435 (by decide) (by unfold am_rg; omega) ?_
  refine cs_newput (kd := 0) (ln := 40) (nb := 507) dX12_init_437 dX12_init_439 rfl (by decide) wd_186 rfl (by decide) (by omega) (by omega) hc_10 (f := 39) (by decide) wd_1588 (by first | exact Or.inl rfl | exact Or.inr ⟨rfl, rfl, rfl⟩) rfl rfl (by simp only [List.length_append, List.length_cons, List.length_nil, cs_g2_l, cs_g3_l]) ?_
  refine am_aload_n dX12_init_442 (by repeat (first | exact List.Mem.head _ | apply List.Mem.tail)) ?_
  refine am_bipush dX12_init_443 (by decide) (by unfold am_rg; omega) ?_
  refine cs_newput (kd := 0) (ln := 40) (nb := 508) dX12_init_445 dX12_init_447 rfl (by decide) wd_186 rfl (by decide) (by omega) (by omega) hc_10 (f := 40) (by decide) wd_1589 (by first | exact Or.inl rfl | exact Or.inr ⟨rfl, rfl, rfl⟩) rfl rfl (by simp only [List.length_append, List.length_cons, List.length_nil, cs_g2_l, cs_g3_l]) ?_
  refine am_aload_n dX12_init_450 (by repeat (first | exact List.Mem.head _ | apply List.Mem.tail)) ?_
  refine am_bipush dX12_init_451 (by decide) (by unfold am_rg; omega) ?_
  refine cs_newput (kd := 0) (ln := 40) (nb := 509) dX12_init_453 dX12_init_455 rfl (by decide) wd_186 rfl (by decide) (by omega) (by omega) hc_10 (f := 41) (by decide) wd_1590 (by first | exact Or.inl rfl | exact Or.inr ⟨rfl, rfl, rfl⟩) rfl rfl (by simp only [List.length_append, List.length_cons, List.length_nil, cs_g2_l, cs_g3_l]) ?_
  refine am_aload_n dX12_init_458 (by repeat (first | exact List.Mem.head _ | apply List.Mem.tail)) ?_
  refine am_bipush dX12_init_459 (by decide) (by unfold am_rg; omega) ?_
  refine cs_newput (kd := 0) (ln := 40) (nb := 510) dX12_init_461 dX12_init_463 rfl (by decide) wd_186 rfl (by decide) (by omega) (by omega) hc_10 (f := 43) (by decide) wd_1592 (by first | exact Or.inl rfl | exact Or.inr ⟨rfl, rfl, rfl⟩) rfl rfl (by simp only [List.length_append, List.length_cons, List.length_nil, cs_g2_l, cs_g3_l]) ?_
  refine am_aload_n dX12_init_466 (by repeat (first | exact List.Mem.head _ | apply List.Mem.tail)) ?_
  refine am_bipush dX12_init_467 (by decide) (by unfold am_rg; omega) ?_
  refine cs_newput (kd := 0) (ln := 40) (nb := 511) dX12_init_469 dX12_init_471 rfl (by decide) wd_186 rfl (by decide) (by omega) (by omega) hc_10 (f := 44) (by decide) wd_1593 (by first | exact Or.inl rfl | exact Or.inr ⟨rfl, rfl, rfl⟩) rfl rfl (by simp only [List.length_append, List.length_cons, List.length_nil, cs_g2_l, cs_g3_l]) ?_
  refine am_aload_n dX12_init_474 (by repeat (first | exact List.Mem.head _ | apply List.Mem.tail)) ?_
  refine am_bipush dX12_init_475 (by decide) (by unfold am_rg; omega) ?_
  refine cs_newput (kd := 0) (ln := 40) (nb := 512) dX12_init_477 dX12_init_479 rfl (by decide) wd_186 rfl (by decide) (by omega) (by omega) hc_10 (f := 45) (by decide) wd_1594 (by first | exact Or.inl rfl | exact Or.inr ⟨rfl, rfl, rfl⟩) rfl rfl (by simp only [List.length_append, List.length_cons, List.length_nil, cs_g2_l, cs_g3_l]) ?_
  refine am_aload_n dX12_init_482 (by repeat (first | exact List.Mem.head _ | apply List.Mem.tail)) ?_
  refine am_bipush dX12_init_483 (by decide) (by unfold am_rg; omega) ?_
  refine cs_newput (kd := 0) (ln := 40) (nb := 513) dX12_init_485 dX12_init_487 rfl (by decide) wd_186 rfl (by decide) (by omega) (by omega) hc_10 (f := 46) (by decide) wd_1595 (by first | exact Or.inl rfl | exact Or.inr ⟨rfl, rfl, rfl⟩) rfl rfl (by simp only [List.length_append, List.length_cons, List.length_nil, cs_g2_l, cs_g3_l]) ?_
  refine am_aload_n dX12_init_490 (by repeat (first | exact List.Mem.head _ | apply List.Mem.tail)) ?_
  refine am_bipush dX12_init_491 (by decide) (by unfold am_rg; omega) ?_
  refine cs_newput (kd := 0) (ln := 10) (nb := 514) dX12_init_493 dX12_init_495 rfl (by decide) wd_186 rfl (by decide) (by omega) (by omega) hc_10 (f := 48) (by decide) wd_1597 (by first | exact Or.inl rfl | exact Or.inr ⟨rfl, rfl, rfl⟩) rfl rfl (by simp only [List.length_append, List.length_cons, List.length_nil, cs_g2_l, cs_g3_l]) ?_
  refine am_aload_n dX12_init_498 (by repeat (first | exact List.Mem.head _ | apply List.Mem.tail)) ?_
  refine am_bipush dX12_init_499 (by decide) (by unfold am_rg; omega) ?_
  refine cs_newput (kd := 0) (ln := 10) (nb := 515) dX12_init_501 dX12_init_503 rfl (by decide) wd_186 rfl (by decide) (by omega) (by omega) hc_10 (f := 49) (by decide) wd_1598 (by first | exact Or.inl rfl | exact Or.inr ⟨rfl, rfl, rfl⟩) rfl rfl (by simp only [List.length_append, List.length_cons, List.length_nil, cs_g2_l, cs_g3_l]) ?_
  refine am_aload_n dX12_init_506 (by repeat (first | exact List.Mem.head _ | apply List.Mem.tail)) ?_
  refine am_bipush dX12_init_507 (by decide) (by unfold am_rg; omega) ?_
  refine cs_newput (kd := 0) (ln := 10) (nb := 516) dX12_init_509 dX12_init_511 rfl (by decide) wd_186 rfl (by decide) (by omega) (by omega) hc_10 (f := 50) (by decide) wd_1599 (by first | exact Or.inl rfl | exact Or.inr ⟨rfl, rfl, rfl⟩) rfl rfl (by simp only [List.length_append, List.length_cons, List.length_nil, cs_g2_l, cs_g3_l]) ?_
  refine am_aload_n dX12_init_514 (by repeat (first | exact List.Mem.head _ | apply List.Mem.tail)) ?_
  refine am_bipush dX12_init_515 (by decide) (by unfold am_rg; omega) ?_
  refine cs_newput (kd := 0) (ln := 10) (nb := 517) dX12_init_517 dX12_init_519 rfl (by decide) wd_186 rfl (by decide) (by omega) (by omega) hc_10 (f := 51) (by decide) wd_1600 (by first | exact Or.inl rfl | exact Or.inr ⟨rfl, rfl, rfl⟩) rfl rfl (by simp only [List.length_append, List.length_cons, List.length_nil, cs_g2_l, cs_g3_l]) ?_
  refine am_aload_n dX12_init_522 (by repeat (first | exact List.Mem.head _ | apply List.Mem.tail)) ?_
  refine am_bipush dX12_init_523 (by decide) (by unfold am_rg; omega) ?_
  refine cs_newput (kd := 4) (ln := 40) (nb := 518) dX12_init_525 dX12_init_527 rfl (by decide) wd_522 rfl (by decide) (by omega) (by omega) hc_10 (f := 53) (by decide) wd_1602 (by first | exact Or.inl rfl | exact Or.inr ⟨rfl, rfl, rfl⟩) rfl rfl (by simp only [List.length_append, List.length_cons, List.length_nil, cs_g2_l, cs_g3_l]) ?_
  refine am_aload_n dX12_init_530 (by repeat (first | exact List.Mem.head _ | apply List.Mem.tail)) ?_
  refine am_bipush dX12_init_531 (by decide) (by unfold am_rg; omega) ?_
  refine cs_newput (kd := 4) (ln := 40) (nb := 519) dX12_init_533 dX12_init_535 rfl (by decide) wd_522 rfl (by decide) (by omega) (by omega) hc_10 (f := 54) (by decide) wd_1603 (by first | exact Or.inl rfl | exact Or.inr ⟨rfl, rfl, rfl⟩) rfl rfl (by simp only [List.length_append, List.length_cons, List.length_nil, cs_g2_l, cs_g3_l]) ?_
  refine am_aload_n dX12_init_538 (by repeat (first | exact List.Mem.head _ | apply List.Mem.tail)) ?_
  refine am_bipush dX12_init_539 (by decide) (by unfold am_rg; omega) ?_
  refine cs_newput (kd := 0) (ln := 40) (nb := 520) dX12_init_541 dX12_init_543 rfl (by decide) wd_186 rfl (by decide) (by omega) (by omega) hc_10 (f := 55) (by decide) wd_1604 (by first | exact Or.inl rfl | exact Or.inr ⟨rfl, rfl, rfl⟩) rfl rfl (by simp only [List.length_append, List.length_cons, List.length_nil, cs_g2_l, cs_g3_l]) ?_
  refine am_aload_n dX12_init_546 (by repeat (first | exact List.Mem.head _ | apply List.Mem.tail)) ?_
  refine am_bipush dX12_init_547 (by decide) (by unfold am_rg; omega) ?_
  refine cs_newput (kd := 0) (ln := 40) (nb := 521) dX12_init_549 dX12_init_551 rfl (by decide) wd_186 rfl (by decide) (by omega) (by omega) hc_10 (f := 56) (by decide) wd_1605 (by first | exact Or.inl rfl | exact Or.inr ⟨rfl, rfl, rfl⟩) rfl rfl (by simp only [List.length_append, List.length_cons, List.length_nil, cs_g2_l, cs_g3_l]) ?_
  refine am_aload_n dX12_init_554 (by repeat (first | exact List.Mem.head _ | apply List.Mem.tail)) ?_
  refine am_bipush dX12_init_555 (by decide) (by unfold am_rg; omega) ?_
  refine cs_newput (kd := 0) (ln := 40) (nb := 522) dX12_init_557 dX12_init_559 rfl (by decide) wd_186 rfl (by decide) (by omega) (by omega) hc_10 (f := 57) (by decide) wd_1606 (by first | exact Or.inl rfl | exact Or.inr ⟨rfl, rfl, rfl⟩) rfl rfl (by simp only [List.length_append, List.length_cons, List.length_nil, cs_g2_l, cs_g3_l]) ?_
  refine am_aload_n dX12_init_562 (by repeat (first | exact List.Mem.head _ | apply List.Mem.tail)) ?_
  refine am_bipush dX12_init_563 (by decide) (by unfold am_rg; omega) ?_
  refine cs_newput (kd := 0) (ln := 40) (nb := 523) dX12_init_565 dX12_init_567 rfl (by decide) wd_186 rfl (by decide) (by omega) (by omega) hc_10 (f := 58) (by decide) wd_1607 (by first | exact Or.inl rfl | exact Or.inr ⟨rfl, rfl, rfl⟩) rfl rfl (by simp only [List.length_append, List.length_cons, List.length_nil, cs_g2_l, cs_g3_l]) ?_
  refine am_aload_n dX12_init_570 (by repeat (first | exact List.Mem.head _ | apply List.Mem.tail)) ?_
  refine am_bipush dX12_init_571 (by decide) (by unfold am_rg; omega) ?_
  refine cs_newput (kd := 0) (ln := 40) (nb := 524) dX12_init_573 dX12_init_575 rfl (by decide) wd_186 rfl (by decide) (by omega) (by omega) hc_10 (f := 59) (by decide) wd_1608 (by first | exact Or.inl rfl | exact Or.inr ⟨rfl, rfl, rfl⟩) rfl rfl (by simp only [List.length_append, List.length_cons, List.length_nil, cs_g2_l, cs_g3_l]) ?_
  refine am_aload_n dX12_init_578 (by repeat (first | exact List.Mem.head _ | apply List.Mem.tail)) ?_
  refine am_bipush dX12_init_579 (by decide) (by unfold am_rg; omega) ?_
  refine am_iconst dX12_init_581 (by unfold am_rg; omega) ?_
  refine cs_grid2 (nb := 525) (a := 40) (b := 4) dX12_init_582 dX12_init_586 wd_1514 (by decide) rfl rfl (by decide) (by decide) (by omega) (by omega) hc_10 (f := 60) (by decide) wd_1609 (by first | exact Or.inl rfl | exact Or.inr ⟨rfl, rfl, rfl⟩) rfl rfl (by simp only [List.length_append, List.length_cons, List.length_nil, cs_g2_l, cs_g3_l]) ?_
  refine am_aload_n dX12_init_589 (by repeat (first | exact List.Mem.head _ | apply List.Mem.tail)) ?_
  refine am_bipush dX12_init_590 (by decide) (by unfold am_rg; omega) ?_
  refine cs_newput (kd := 4) (ln := 40) (nb := 566) dX12_init_592 dX12_init_594 rfl (by decide) wd_522 rfl (by decide) (by omega) (by omega) hc_10 (f := 61) (by decide) wd_1610 (by first | exact Or.inl rfl | exact Or.inr ⟨rfl, rfl, rfl⟩) rfl rfl (by simp only [List.length_append, List.length_cons, List.length_nil, cs_g2_l, cs_g3_l]) ?_
  refine am_aload_n dX12_init_597 (by repeat (first | exact List.Mem.head _ | apply List.Mem.tail)) ?_
  refine am_bipush dX12_init_598 (by decide) (by unfold am_rg; omega) ?_
  refine cs_newput (kd := 0) (ln := 100) (nb := 567) dX12_init_600 dX12_init_602 rfl (by decide) wd_186 rfl (by decide) (by omega) (by omega) hc_10 (f := 67) (by decide) wd_1616 (by first | exact Or.inl rfl | exact Or.inr ⟨rfl, rfl, rfl⟩) rfl rfl (by simp only [List.length_append, List.length_cons, List.length_nil, cs_g2_l, cs_g3_l]) ?_
  refine am_aload_n dX12_init_605 (by repeat (first | exact List.Mem.head _ | apply List.Mem.tail)) ?_
  refine am_bipush dX12_init_606 (by decide) (by unfold am_rg; omega) ?_
  refine cs_newput (kd := 0) (ln := 100) (nb := 568) dX12_init_608 dX12_init_610 rfl (by decide) wd_186 rfl (by decide) (by omega) (by omega) hc_10 (f := 68) (by decide) wd_1617 (by first | exact Or.inl rfl | exact Or.inr ⟨rfl, rfl, rfl⟩) rfl rfl (by simp only [List.length_append, List.length_cons, List.length_nil, cs_g2_l, cs_g3_l]) ?_
  refine am_aload_n dX12_init_613 (by repeat (first | exact List.Mem.head _ | apply List.Mem.tail)) ?_
  refine am_bipush dX12_init_614 (by decide) (by unfold am_rg; omega) ?_
  refine cs_newput (kd := 0) (ln := 100) (nb := 569) dX12_init_616 dX12_init_618 rfl (by decide) wd_186 rfl (by decide) (by omega) (by omega) hc_10 (f := 69) (by decide) wd_1618 (by first | exact Or.inl rfl | exact Or.inr ⟨rfl, rfl, rfl⟩) rfl rfl (by simp only [List.length_append, List.length_cons, List.length_nil, cs_g2_l, cs_g3_l]) ?_
  refine am_aload_n dX12_init_621 (by repeat (first | exact List.Mem.head _ | apply List.Mem.tail)) ?_
  refine am_bipush dX12_init_622 (by decide) (by unfold am_rg; omega) ?_
  refine cs_newput (kd := 0) (ln := 60) (nb := 570) dX12_init_624 dX12_init_626 rfl (by decide) wd_186 rfl (by decide) (by omega) (by omega) hc_10 (f := 71) (by decide) wd_1620 (by first | exact Or.inl rfl | exact Or.inr ⟨rfl, rfl, rfl⟩) rfl rfl (by simp only [List.length_append, List.length_cons, List.length_nil, cs_g2_l, cs_g3_l]) ?_
  refine am_aload_n dX12_init_629 (by repeat (first | exact List.Mem.head _ | apply List.Mem.tail)) ?_
  refine am_bipush dX12_init_630 (by decide) (by unfold am_rg; omega) ?_
  refine cs_newput (kd := 0) (ln := 40) (nb := 571) dX12_init_632 dX12_init_634 rfl (by decide) wd_186 rfl (by decide) (by omega) (by omega) hc_10 (f := 72) (by decide) wd_1621 (by first | exact Or.inl rfl | exact Or.inr ⟨rfl, rfl, rfl⟩) rfl rfl (by simp only [List.length_append, List.length_cons, List.length_nil, cs_g2_l, cs_g3_l]) ?_
  refine am_aload_n dX12_init_637 (by repeat (first | exact List.Mem.head _ | apply List.Mem.tail)) ?_
  refine am_bipush dX12_init_638 (by decide) (by unfold am_rg; omega) ?_
  refine cs_newput (kd := 0) (ln := 40) (nb := 572) dX12_init_640 dX12_init_642 rfl (by decide) wd_186 rfl (by decide) (by omega) (by omega) hc_10 (f := 73) (by decide) wd_1622 (by first | exact Or.inl rfl | exact Or.inr ⟨rfl, rfl, rfl⟩) rfl rfl (by simp only [List.length_append, List.length_cons, List.length_nil, cs_g2_l, cs_g3_l]) ?_
  refine am_aload_n dX12_init_645 (by repeat (first | exact List.Mem.head _ | apply List.Mem.tail)) ?_
  refine am_iconst dX12_init_646 (by unfold am_rg; omega) ?_
  refine cs_newput (kd := 0) (ln := 5) (nb := 573) dX12_init_647 dX12_init_649 rfl (by decide) wd_186 rfl (by decide) (by omega) (by omega) hc_10 (f := 74) (by decide) wd_1623 (by first | exact Or.inl rfl | exact Or.inr ⟨rfl, rfl, rfl⟩) rfl rfl (by simp only [List.length_append, List.length_cons, List.length_nil, cs_g2_l, cs_g3_l]) ?_
  refine am_aload_n dX12_init_652 (by repeat (first | exact List.Mem.head _ | apply List.Mem.tail)) ?_
  refine am_bipush dX12_init_653 (by decide) (by unfold am_rg; omega) ?_
  refine cs_newput (kd := 0) (ln := 20) (nb := 574) dX12_init_655 dX12_init_657 rfl (by decide) wd_186 rfl (by decide) (by omega) (by omega) hc_10 (f := 77) (by decide) wd_1626 (by first | exact Or.inl rfl | exact Or.inr ⟨rfl, rfl, rfl⟩) rfl rfl (by simp only [List.length_append, List.length_cons, List.length_nil, cs_g2_l, cs_g3_l]) ?_
  refine am_aload_n dX12_init_660 (by repeat (first | exact List.Mem.head _ | apply List.Mem.tail)) ?_
  refine am_bipush dX12_init_661 (by decide) (by unfold am_rg; omega) ?_
  refine cs_newput (kd := 0) (ln := 20) (nb := 575) dX12_init_663 dX12_init_665 rfl (by decide) wd_186 rfl (by decide) (by omega) (by omega) hc_10 (f := 78) (by decide) wd_1627 (by first | exact Or.inl rfl | exact Or.inr ⟨rfl, rfl, rfl⟩) rfl rfl (by simp only [List.length_append, List.length_cons, List.length_nil, cs_g2_l, cs_g3_l]) ?_
  refine am_aload_n dX12_init_668 (by repeat (first | exact List.Mem.head _ | apply List.Mem.tail)) ?_
  refine am_bipush dX12_init_669 (by decide) (by unfold am_rg; omega) ?_
  refine cs_newput (kd := 0) (ln := 20) (nb := 576) dX12_init_671 dX12_init_673 rfl (by decide) wd_186 rfl (by decide) (by omega) (by omega) hc_10 (f := 79) (by decide) wd_1628 (by first | exact Or.inl rfl | exact Or.inr ⟨rfl, rfl, rfl⟩) rfl rfl (by simp only [List.length_append, List.length_cons, List.length_nil, cs_g2_l, cs_g3_l]) ?_
  refine am_aload_n dX12_init_676 (by repeat (first | exact List.Mem.head _ | apply List.Mem.tail)) ?_
  refine am_bipush dX12_init_677 (by decide) (by unfold am_rg; omega) ?_
  refine cs_newput (kd := 0) (ln := 20) (nb := 577) dX12_init_679 dX12_init_681 rfl (by decide) wd_186 rfl (by decide) (by omega) (by omega) hc_10 (f := 80) (by decide) wd_1629 (by first | exact Or.inl rfl | exact Or.inr ⟨rfl, rfl, rfl⟩) rfl rfl (by simp only [List.length_append, List.length_cons, List.length_nil, cs_g2_l, cs_g3_l]) ?_
  refine am_aload_n dX12_init_684 (by repeat (first | exact List.Mem.head _ | apply List.Mem.tail)) ?_
  refine am_iconst dX12_init_685 (by unfold am_rg; omega) ?_
  refine cs_newput (kd := 0) (ln := 5) (nb := 578) dX12_init_686 dX12_init_688 rfl (by decide) wd_186 rfl (by decide) (by omega) (by omega) hc_10 (f := 82) (by decide) wd_1631 (by first | exact Or.inl rfl | exact Or.inr ⟨rfl, rfl, rfl⟩) rfl rfl (by simp only [List.length_append, List.length_cons, List.length_nil, cs_g2_l, cs_g3_l]) ?_
  refine am_aload_n dX12_init_691 (by repeat (first | exact List.Mem.head _ | apply List.Mem.tail)) ?_
  refine am_iconst dX12_init_692 (by unfold am_rg; omega) ?_
  refine cs_newput (kd := 0) (ln := 5) (nb := 579) dX12_init_693 dX12_init_695 rfl (by decide) wd_186 rfl (by decide) (by omega) (by omega) hc_10 (f := 83) (by decide) wd_1632 (by first | exact Or.inl rfl | exact Or.inr ⟨rfl, rfl, rfl⟩) rfl rfl (by simp only [List.length_append, List.length_cons, List.length_nil, cs_g2_l, cs_g3_l]) ?_
  refine am_aload_n dX12_init_698 (by repeat (first | exact List.Mem.head _ | apply List.Mem.tail)) ?_
  refine am_iconst dX12_init_699 (by unfold am_rg; omega) ?_
  refine cs_newput (kd := 0) (ln := 5) (nb := 580) dX12_init_700 dX12_init_702 rfl (by decide) wd_186 rfl (by decide) (by omega) (by omega) hc_10 (f := 84) (by decide) wd_1633 (by first | exact Or.inl rfl | exact Or.inr ⟨rfl, rfl, rfl⟩) rfl rfl (by simp only [List.length_append, List.length_cons, List.length_nil, cs_g2_l, cs_g3_l]) ?_
  refine am_aload_n dX12_init_705 (by repeat (first | exact List.Mem.head _ | apply List.Mem.tail)) ?_
  refine am_iconst dX12_init_706 (by unfold am_rg; omega) ?_
  refine cs_newput (kd := 0) (ln := 5) (nb := 581) dX12_init_707 dX12_init_709 rfl (by decide) wd_186 rfl (by decide) (by omega) (by omega) hc_10 (f := 85) (by decide) wd_1634 (by first | exact Or.inl rfl | exact Or.inr ⟨rfl, rfl, rfl⟩) rfl rfl (by simp only [List.length_append, List.length_cons, List.length_nil, cs_g2_l, cs_g3_l]) ?_
  refine am_aload_n dX12_init_712 (by repeat (first | exact List.Mem.head _ | apply List.Mem.tail)) ?_
  refine am_iconst dX12_init_713 (by unfold am_rg; omega) ?_
  refine cs_newput (kd := 0) (ln := 5) (nb := 582) dX12_init_714 dX12_init_716 rfl (by decide) wd_186 rfl (by decide) (by omega) (by omega) hc_10 (f := 86) (by decide) wd_1635 (by first | exact Or.inl rfl | exact Or.inr ⟨rfl, rfl, rfl⟩) rfl rfl (by simp only [List.length_append, List.length_cons, List.length_nil, cs_g2_l, cs_g3_l]) ?_
  refine am_aload_n dX12_init_719 (by repeat (first | exact List.Mem.head _ | apply List.Mem.tail)) ?_
  refine am_iconst dX12_init_720 (by unfold am_rg; omega) ?_
  refine cs_newput (kd := 0) (ln := 5) (nb := 583) dX12_init_721 dX12_init_723 rfl (by decide) wd_186 rfl (by decide) (by omega) (by omega) hc_10 (f := 87) (by decide) wd_1636 (by first | exact Or.inl rfl | exact Or.inr ⟨rfl, rfl, rfl⟩) rfl rfl (by simp only [List.length_append, List.length_cons, List.length_nil, cs_g2_l, cs_g3_l]) ?_
  refine am_aload_n dX12_init_726 (by repeat (first | exact List.Mem.head _ | apply List.Mem.tail)) ?_
  refine am_bipush dX12_init_727 (by decide) (by unfold am_rg; omega) ?_
  refine cs_newput (kd := 4) (ln := 40) (nb := 584) dX12_init_729 dX12_init_731 rfl (by decide) wd_522 rfl (by decide) (by omega) (by omega) hc_10 (f := 88) (by decide) wd_1637 (by first | exact Or.inl rfl | exact Or.inr ⟨rfl, rfl, rfl⟩) rfl rfl (by simp only [List.length_append, List.length_cons, List.length_nil, cs_g2_l, cs_g3_l]) ?_
  refine am_aload_n dX12_init_734 (by repeat (first | exact List.Mem.head _ | apply List.Mem.tail)) ?_
  refine am_iconst dX12_init_735 (by unfold am_rg; omega) ?_
  refine cs_newput (kd := 0) (ln := 5) (nb := 585) dX12_init_736 dX12_init_738 rfl (by decide) wd_186 rfl (by decide) (by omega) (by omega) hc_10 (f := 89) (by decide) wd_1638 (by first | exact Or.inl rfl | exact Or.inr ⟨rfl, rfl, rfl⟩) rfl rfl (by simp only [List.length_append, List.length_cons, List.length_nil, cs_g2_l, cs_g3_l]) ?_
  refine am_aload_n dX12_init_741 (by repeat (first | exact List.Mem.head _ | apply List.Mem.tail)) ?_
  refine am_bipush dX12_init_742 (by decide) (by unfold am_rg; omega) ?_
  refine cs_newput (kd := 0) (ln := 25) (nb := 586) dX12_init_744 dX12_init_746 rfl (by decide) wd_186 rfl (by decide) (by omega) (by omega) hc_10 (f := 90) (by decide) wd_1639 (by first | exact Or.inl rfl | exact Or.inr ⟨rfl, rfl, rfl⟩) rfl rfl (by simp only [List.length_append, List.length_cons, List.length_nil, cs_g2_l, cs_g3_l]) ?_
  refine am_aload_n dX12_init_749 (by repeat (first | exact List.Mem.head _ | apply List.Mem.tail)) ?_
  refine am_sipush dX12_init_750 (by decide) (by unfold am_rg; omega) ?_
  refine cs_newput (kd := 3) (ln := 400) (nb := 587) dX12_init_753 dX12_init_755 rfl (by decide) wd_916 rfl (by decide) (by omega) (by omega) hc_10 (f := 96) (by decide) wd_1645 (by first | exact Or.inl rfl | exact Or.inr ⟨rfl, rfl, rfl⟩) rfl rfl (by simp only [List.length_append, List.length_cons, List.length_nil, cs_g2_l, cs_g3_l]) ?_
  refine am_aload_n dX12_init_758 (by repeat (first | exact List.Mem.head _ | apply List.Mem.tail)) ?_
  refine am_sipush dX12_init_759 (by decide) (by unfold am_rg; omega) ?_
  refine cs_newput (kd := 3) (ln := 400) (nb := 588) dX12_init_762 dX12_init_764 rfl (by decide) wd_916 rfl (by decide) (by omega) (by omega) hc_10 (f := 97) (by decide) wd_1646 (by first | exact Or.inl rfl | exact Or.inr ⟨rfl, rfl, rfl⟩) rfl rfl (by simp only [List.length_append, List.length_cons, List.length_nil, cs_g2_l, cs_g3_l]) ?_
  exact am_ret (r := none) dX12_init_767 rfl rfl K
