-- CONSTRUCTORS of the class
theorem cs_aastN {G : am_G} {SC : Nat → Nat} {d : Nat} {Y : am_Y} {Q : Option am_V → am_W → Prop} {pc bc bs : Nat} {ls : List (Nat × am_V)} {st : List am_V} {A B : List cs_C} {n kd ln ci N t' j' i : Nat} {rs : List (Nat × am_I)} {C : String} {T : u_T} {z : Int} (hn : n = A.length) (hd : decode Y.2.1 pc = .ok (.aastore, 1)) (h7 : 7 ≤ kd) (h10 : kd < 10) (hc : am_cl[ci]? = some (C, T, N)) (hty : am_aty kd = .object C) (ht' : t' < 1100) (hkv : am_kd G (cs_W (A ++ (kd, ln, rs, []) :: B)) t' j' = 100 + ci) (hz : z = (i : Int)) (hi : i < ln)
    (k : am_A G SC d Y Q (pc + 1) ls st (cs_W (A ++ (kd, ln, (i, (t', j')) :: rs, []) :: B)) bc bs) : am_A G SC d Y Q pc ls (.inr (.inr (some (t', j'))) :: .inl z :: .inr (.inr (some (999, n))) :: st) (cs_W (A ++ (kd, ln, rs, []) :: B)) bc bs := by
  subst hn
  exact cs_aast hd h7 h10 hc hty ht' hkv hz hi k
variable {SC : Nat → Nat} {X : mh_X} {d kc ks : Nat} {Q : Option am_V → am_W → Prop}
def cs_X8 (n : Nat) : List cs_C := [(101, 0, [(2, (999, n + 3)), (1, (999, n + 2)), (0, (999, n + 1))], []), (2, 3000, [], []), (0, 64, [], []), (0, 64, [], [])]
theorem cs_X8_l (n : Nat) : (cs_X8 n).length = 4 := rfl
theorem pX8_init {A : List cs_C} (hkc : 3 ≤ kc) (hks : 3128 ≤ ks) (K : Q none (cs_W (A ++ cs_X8 A.length))) : am_M (mh_G X) SC (d + 1) kc ks mX8_init [.inr (.inr (some (999, A.length)))] (cs_W (A ++ [(101, 0, [], [])])) Q := by
  refine am_M_of (by decide) (Nat.le_of_ble_eq_true rfl) ?_
  refine am_aload_n dX8_init_0 (by repeat (first | exact List.Mem.head _ | apply List.Mem.tail)) ?_
  refine am_objinit dX8_init_1 wd_149 wd_142 wd_143 (by omega) (by decide) ?_
  refine am_aload_n dX8_init_4 (by repeat (first | exact List.Mem.head _ | apply List.Mem.tail)) ?_
  refine am_sipush dX8_init_5 (by decide) (by unfold am_rg; omega) ?_
  refine cs_newput (kd := 2) (ln := 3000) (nb := 1) dX8_init_8 dX8_init_10 rfl (by decide) wd_185 rfl (by decide) (by omega) (by omega) hc_1 (f := 0) (by decide) wd_150 (by first | exact Or.inl rfl | exact Or.inr ⟨rfl, rfl, rfl⟩) rfl rfl rfl ?_
  refine am_aload_n dX8_init_13 (by repeat (first | exact List.Mem.head _ | apply List.Mem.tail)) ?_
  refine am_bipush dX8_init_14 (by decide) (by unfold am_rg; omega) ?_
  refine cs_newput (kd := 0) (ln := 64) (nb := 2) dX8_init_16 dX8_init_18 rfl (by decide) wd_186 rfl (by decide) (by omega) (by omega) hc_1 (f := 1) (by decide) wd_151 (by first | exact Or.inl rfl | exact Or.inr ⟨rfl, rfl, rfl⟩) rfl rfl rfl ?_
  refine am_aload_n dX8_init_21 (by repeat (first | exact List.Mem.head _ | apply List.Mem.tail)) ?_
  refine am_bipush dX8_init_22 (by decide) (by unfold am_rg; omega) ?_
  refine cs_newput (kd := 0) (ln := 64) (nb := 3) dX8_init_24 dX8_init_26 rfl (by decide) wd_186 rfl (by decide) (by omega) (by omega) hc_1 (f := 2) (by decide) wd_152 (by first | exact Or.inl rfl | exact Or.inr ⟨rfl, rfl, rfl⟩) rfl rfl rfl ?_
  refine am_aload_n dX8_init_29 (by repeat (first | exact List.Mem.head _ | apply List.Mem.tail)) ?_
  refine am_iconst dX8_init_30 (by unfold am_rg; omega) ?_
  refine cs_put0 dX8_init_31 hc_1 (f := 3) (by decide) wd_153 rfl (by first | exact Or.inl rfl | exact Or.inr rfl) rfl rfl ?_
  refine am_aload_n dX8_init_34 (by repeat (first | exact List.Mem.head _ | apply List.Mem.tail)) ?_
  refine am_iconst dX8_init_35 (by unfold am_rg; omega) ?_
  refine cs_put0 dX8_init_36 hc_1 (f := 4) (by decide) wd_155 rfl (by first | exact Or.inl rfl | exact Or.inr rfl) rfl rfl ?_
  refine am_aload_n dX8_init_39 (by repeat (first | exact List.Mem.head _ | apply List.Mem.tail)) ?_
  refine am_iconst dX8_init_40 (by unfold am_rg; omega) ?_
  refine cs_put0 dX8_init_41 hc_1 (f := 5) (by decide) wd_157 rfl (by first | exact Or.inl rfl | exact Or.inr rfl) rfl rfl ?_
  refine am_aload_n dX8_init_44 (by repeat (first | exact List.Mem.head _ | apply List.Mem.tail)) ?_
  refine am_iconst dX8_init_45 (by unfold am_rg; omega) ?_
  refine cs_put0 dX8_init_46 hc_1 (f := 6) (by decide) wd_159 rfl (by first | exact Or.inl rfl | exact Or.inr rfl) rfl rfl ?_
  refine am_aload_n dX8_init_49 (by repeat (first | exact List.Mem.head _ | apply List.Mem.tail)) ?_
  refine am_iconst dX8_init_50 (by unfold am_rg; omega) ?_
  refine cs_put0 dX8_init_51 hc_1 (f := 7) (by decide) wd_161 rfl (by first | exact Or.inl rfl | exact Or.inr rfl) rfl rfl ?_
  refine am_aload_n dX8_init_54 (by repeat (first | exact List.Mem.head _ | apply List.Mem.tail)) ?_
  refine am_iconst dX8_init_55 (by unfold am_rg; omega) ?_
  refine cs_put0 dX8_init_56 hc_1 (f := 8) (by decide) wd_162 rfl (by first | exact Or.inl rfl | exact Or.inr rfl) rfl rfl ?_
  refine am_aload_n dX8_init_59 (by repeat (first | exact List.Mem.head _ | apply List.Mem.tail)) ?_
  refine am_iconst dX8_init_60 (by unfold am_rg; omega) ?_
  refine cs_put0 dX8_init_61 hc_1 (f := 9) (by decide) wd_163 rfl (by first | exact Or.inl rfl | exact Or.inr rfl) rfl rfl ?_
  exact am_ret (r := none) dX8_init_64 rfl rfl K
def cs_X6 (n : Nat) : List cs_C := [(102, 0, [(0, (999, n + 1))], []), (2, 256, [], [])]
theorem cs_X6_l (n : Nat) : (cs_X6 n).length = 2 := rfl
theorem pX6_init {A : List cs_C} (hkc : 1 ≤ kc) (hks : 256 ≤ ks) (K : Q none (cs_W (A ++ cs_X6 A.length))) : am_M (mh_G X) SC (d + 1) kc ks mX6_init [.inr (.inr (some (999, A.length)))] (cs_W (A ++ [(102, 0, [], [])])) Q := by
  refine am_M_of (by decide) (Nat.le_of_ble_eq_true rfl) ?_
  refine am_aload_n dX6_init_0 (by repeat (first | exact List.Mem.head _ | apply List.Mem.tail)) ?_
  refine am_objinit dX6_init_1 wd_192 wd_142 wd_143 (by omega) (by decide) ?_
  refine am_aload_n dX6_init_4 (by repeat (first | exact List.Mem.head _ | apply List.Mem.tail)) ?_
  refine am_sipush dX6_init_5 (by decide) (by unfold am_rg; omega) ?_
  refine cs_newput (kd := 2) (ln := 256) (nb := 1) dX6_init_8 dX6_init_10 rfl (by decide) wd_185 rfl (by decide) (by omega) (by omega) hc_2 (f := 0) (by decide) wd_193 (by first | exact Or.inl rfl | exact Or.inr ⟨rfl, rfl, rfl⟩) rfl rfl rfl ?_
  refine am_aload_n dX6_init_13 (by repeat (first | exact List.Mem.head _ | apply List.Mem.tail)) ?_
  refine am_iconst dX6_init_14 (by unfold am_rg; omega) ?_
  refine cs_put0 dX6_init_15 hc_2 (f := 1) (by decide) wd_195 rfl (by first | exact Or.inl rfl | exact Or.inr rfl) rfl rfl ?_
  exact am_ret (r := none) dX6_init_18 rfl rfl K
def cs_X3 (n : Nat) : List cs_C := [(104, 0, [(9, (999, n + 10)), (8, (999, n + 9)), (7, (999, n + 8)), (6, (999, n + 7)), (5, (999, n + 6)), (4, (999, n + 5)), (3, (999, n + 4)), (2, (999, n + 3)), (1, (999, n + 2)), (0, (999, n + 1))], []), (0, 30, [], []), (0, 120, [], []), (0, 30, [], []), (0, 120, [], []), (0, 120, [], []), (0, 120, [], []), (0, 30, [], []), (0, 8, [], []), (0, 8, [], []), (0, 4, [], [])]
theorem cs_X3_l (n : Nat) : (cs_X3 n).length = 11 := rfl
theorem pX3_init {A : List cs_C} (hkc : 10 ≤ kc) (hks : 590 ≤ ks) (K : Q none (cs_W (A ++ cs_X3 A.length))) : am_M (mh_G X) SC (d + 1) kc ks mX3_init [.inr (.inr (some (999, A.length)))] (cs_W (A ++ [(104, 0, [], [])])) Q := by
  refine am_M_of (by decide) (Nat.le_of_ble_eq_true rfl) ?_
  refine am_aload_n dX3_init_0 (by repeat (first | exact List.Mem.head _ | apply List.Mem.tail)) ?_
  refine am_objinit dX3_init_1 wd_214 wd_142 wd_143 (by omega) (by decide) ?_
  refine am_aload_n dX3_init_4 (by repeat (first | exact List.Mem.head _ | apply List.Mem.tail)) ?_
  refine am_bipush dX3_init_5 (by decide) (by unfold am_rg; omega) ?_
  refine cs_newput (kd := 0) (ln := 30) (nb := 1) dX3_init_7 dX3_init_9 rfl (by decide) wd_186 rfl (by decide) (by omega) (by omega) hc_4 (f := 0) (by decide) wd_215 (by first | exact Or.inl rfl | exact Or.inr ⟨rfl, rfl, rfl⟩) rfl rfl rfl ?_
  refine am_aload_n dX3_init_12 (by repeat (first | exact List.Mem.head _ | apply List.Mem.tail)) ?_
  refine am_bipush dX3_init_13 (by decide) (by unfold am_rg; omega) ?_
  refine cs_newput (kd := 0) (ln := 120) (nb := 2) dX3_init_15 dX3_init_17 rfl (by decide) wd_186 rfl (by decide) (by omega) (by omega) hc_4 (f := 1) (by decide) wd_216 (by first | exact Or.inl rfl | exact Or.inr ⟨rfl, rfl, rfl⟩) rfl rfl rfl ?_
  refine am_aload_n dX3_init_20 (by repeat (first | exact List.Mem.head _ | apply List.Mem.tail)) ?_
  refine am_bipush dX3_init_21 (by decide) (by unfold am_rg; omega) ?_
  refine cs_newput (kd := 0) (ln := 30) (nb := 3) dX3_init_23 dX3_init_25 rfl (by decide) wd_186 rfl (by decide) (by omega) (by omega) hc_4 (f := 2) (by decide) wd_217 (by first | exact Or.inl rfl | exact Or.inr ⟨rfl, rfl, rfl⟩) rfl rfl rfl ?_
  refine am_aload_n dX3_init_28 (by repeat (first | exact List.Mem.head _ | apply List.Mem.tail)) ?_
  refine am_bipush dX3_init_29 (by decide) (by unfold am_rg; omega) ?_
  refine cs_newput (kd := 0) (ln := 120) (nb := 4) dX3_init_31 dX3_init_33 rfl (by decide) wd_186 rfl (by decide) (by omega) (by omega) hc_4 (f := 3) (by decide) wd_218 (by first | exact Or.inl rfl | exact Or.inr ⟨rfl, rfl, rfl⟩) rfl rfl rfl ?_
  refine am_aload_n dX3_init_36 (by repeat (first | exact List.Mem.head _ | apply List.Mem.tail)) ?_
  refine am_bipush dX3_init_37 (by decide) (by unfold am_rg; omega) ?_
  refine cs_newput (kd := 0) (ln := 120) (nb := 5) dX3_init_39 dX3_init_41 rfl (by decide) wd_186 rfl (by decide) (by omega) (by omega) hc_4 (f := 4) (by decide) wd_219 (by first | exact Or.inl rfl | exact Or.inr ⟨rfl, rfl, rfl⟩) rfl rfl rfl ?_
  refine am_aload_n dX3_init_44 (by repeat (first | exact List.Mem.head _ | apply List.Mem.tail)) ?_
  refine am_bipush dX3_init_45 (by decide) (by unfold am_rg; omega) ?_
  refine cs_newput (kd := 0) (ln := 120) (nb := 6) dX3_init_47 dX3_init_49 rfl (by decide) wd_186 rfl (by decide) (by omega) (by omega) hc_4 (f := 5) (by decide) wd_220 (by first | exact Or.inl rfl | exact Or.inr ⟨rfl, rfl, rfl⟩) rfl rfl rfl ?_
  refine am_aload_n dX3_init_52 (by repeat (first | exact List.Mem.head _ | apply List.Mem.tail)) ?_
  refine am_bipush dX3_init_53 (by decide) (by unfold am_rg; omega) ?_
  refine cs_newput (kd := 0) (ln := 30) (nb := 7) dX3_init_55 dX3_init_57 rfl (by decide) wd_186 rfl (by decide) (by omega) (by omega) hc_4 (f := 6) (by decide) wd_221 (by first | exact Or.inl rfl | exact Or.inr ⟨rfl, rfl, rfl⟩) rfl rfl rfl ?_
  refine am_aload_n dX3_init_60 (by repeat (first | exact List.Mem.head _ | apply List.Mem.tail)) ?_
  refine am_bipush dX3_init_61 (by decide) (by unfold am_rg; omega) ?_
  refine cs_newput (kd := 0) (ln := 8) (nb := 8) dX3_init_63 dX3_init_65 rfl (by decide) wd_186 rfl (by decide) (by omega) (by omega) hc_4 (f := 7) (by decide) wd_222 (by first | exact Or.inl rfl | exact Or.inr ⟨rfl, rfl, rfl⟩) rfl rfl rfl ?_
  refine am_aload_n dX3_init_68 (by repeat (first | exact List.Mem.head _ | apply List.Mem.tail)) ?_
  refine am_bipush dX3_init_69 (by decide) (by unfold am_rg; omega) ?_
  refine cs_newput (kd := 0) (ln := 8) (nb := 9) dX3_init_71 dX3_init_73 rfl (by decide) wd_186 rfl (by decide) (by omega) (by omega) hc_4 (f := 8) (by decide) wd_223 (by first | exact Or.inl rfl | exact Or.inr ⟨rfl, rfl, rfl⟩) rfl rfl rfl ?_
  refine am_aload_n dX3_init_76 (by repeat (first | exact List.Mem.head _ | apply List.Mem.tail)) ?_
  refine am_iconst dX3_init_77 (by unfold am_rg; omega) ?_
  refine cs_newput (kd := 0) (ln := 4) (nb := 10) dX3_init_78 dX3_init_80 rfl (by decide) wd_186 rfl (by decide) (by omega) (by omega) hc_4 (f := 9) (by decide) wd_224 (by first | exact Or.inl rfl | exact Or.inr ⟨rfl, rfl, rfl⟩) rfl rfl rfl ?_
  refine am_aload_n dX3_init_83 (by repeat (first | exact List.Mem.head _ | apply List.Mem.tail)) ?_
  refine am_iconst dX3_init_84 (by unfold am_rg; omega) ?_
  refine cs_put0 dX3_init_85 hc_4 (f := 10) (by decide) wd_227 rfl (by first | exact Or.inl rfl | exact Or.inr rfl) rfl rfl ?_
  refine am_aload_n dX3_init_88 (by repeat (first | exact List.Mem.head _ | apply List.Mem.tail)) ?_
  refine am_iconst dX3_init_89 (by unfold am_rg; omega) ?_
  refine cs_put0 dX3_init_90 hc_4 (f := 11) (by decide) wd_230 rfl (by first | exact Or.inl rfl | exact Or.inr rfl) rfl rfl ?_
  refine am_aload_n dX3_init_93 (by repeat (first | exact List.Mem.head _ | apply List.Mem.tail)) ?_
  refine am_iconst dX3_init_94 (by unfold am_rg; omega) ?_
  refine cs_put0 dX3_init_95 hc_4 (f := 12) (by decide) wd_231 rfl (by first | exact Or.inl rfl | exact Or.inr rfl) rfl rfl ?_
  refine am_aload_n dX3_init_98 (by repeat (first | exact List.Mem.head _ | apply List.Mem.tail)) ?_
  refine am_iconst dX3_init_99 (by unfold am_rg; omega) ?_
  refine cs_put0 dX3_init_100 hc_4 (f := 13) (by decide) wd_234 rfl (by first | exact Or.inl rfl | exact Or.inr rfl) rfl rfl ?_
  refine am_aload_n dX3_init_103 (by repeat (first | exact List.Mem.head _ | apply List.Mem.tail)) ?_
  refine am_iconst dX3_init_104 (by unfold am_rg; omega) ?_
  refine cs_put0 dX3_init_105 hc_4 (f := 14) (by decide) wd_237 rfl (by first | exact Or.inl rfl | exact Or.inr rfl) rfl rfl ?_
  refine am_aload_n dX3_init_108 (by repeat (first | exact List.Mem.head _ | apply List.Mem.tail)) ?_
  refine am_iconst dX3_init_109 (by unfold am_rg; omega) ?_
  refine cs_put0 dX3_init_110 hc_4 (f := 15) (by decide) wd_240 rfl (by first | exact Or.inl rfl | exact Or.inr rfl) rfl rfl ?_
  refine am_aload_n dX3_init_113 (by repeat (first | exact List.Mem.head _ | apply List.Mem.tail)) ?_
  refine am_iconst dX3_init_114 (by unfold am_rg; omega) ?_
  refine cs_put0 dX3_init_115 hc_4 (f := 16) (by decide) wd_243 rfl (by first | exact Or.inl rfl | exact Or.inr rfl) rfl rfl ?_
  refine am_aload_n dX3_init_118 (by repeat (first | exact List.Mem.head _ | apply List.Mem.tail)) ?_
  refine am_iconst dX3_init_119 (by unfold am_rg; omega) ?_
  refine cs_put0 dX3_init_120 hc_4 (f := 17) (by decide) wd_246 rfl (by first | exact Or.inl rfl | exact Or.inr rfl) rfl rfl ?_
  exact am_ret (r := none) dX3_init_123 rfl rfl K
def cs_X2 (n : Nat) : List cs_C := [(105, 0, [(15, (999, n + 16)), (14, (999, n + 15)), (13, (999, n + 14)), (12, (999, n + 13)), (11, (999, n + 12)), (10, (999, n + 11)), (9, (999, n + 10)), (8, (999, n + 9)), (7, (999, n + 8)), (6, (999, n + 7)), (5, (999, n + 6)), (4, (999, n + 5)), (3, (999, n + 4)), (2, (999, n + 3)), (1, (999, n + 2)), (0, (999, n + 1))], []), (0, 40, [], []), (0, 40, [], []), (0, 40, [], []), (0, 40, [], []), (0, 40, [], []), (0, 40, [], []), (0, 40, [], []), (0, 40, [], []), (1, 40, [], []), (1, 40, [], []), (1, 40, [], []), (0, 40, [], []), (0, 40, [], []), (0, 40, [], []), (0, 40, [], []), (1, 40, [], [])]
theorem cs_X2_l (n : Nat) : (cs_X2 n).length = 17 := rfl
theorem pX2_init {A : List cs_C} (hkc : 16 ≤ kc) (hks : 640 ≤ ks) (K : Q none (cs_W (A ++ cs_X2 A.length))) : am_M (mh_G X) SC (d + 1) kc ks mX2_init [.inr (.inr (some (999, A.length)))] (cs_W (A ++ [(105, 0, [], [])])) Q := by
  refine am_M_of (by decide) (Nat.le_of_ble_eq_true rfl) ?_
  refine am_aload_n dX2_init_0 (by repeat (first | exact List.Mem.head _ | apply List.Mem.tail)) ?_
  refine am_objinit dX2_init_1 wd_314 wd_142 wd_143 (by omega) (by decide) ?_
  refine am_aload_n dX2_init_4 (by repeat (first | exact List.Mem.head _ | apply List.Mem.tail)) ?_
  refine am_bipush dX2_init_5 (by decide) (by unfold am_rg; omega) ?_
  refine cs_newput (kd := 0) (ln := 40) (nb := 1) dX2_init_7 dX2_init_9 rfl (by decide) wd_186 rfl (by decide) (by omega) (by omega) hc_5 (f := 0) (by decide) wd_315 (by first | exact Or.inl rfl | exact Or.inr ⟨rfl, rfl, rfl⟩) rfl rfl rfl ?_
  refine am_aload_n dX2_init_12 (by repeat (first | exact List.Mem.head _ | apply List.Mem.tail)) ?_
  refine am_bipush dX2_init_13 (by decide) (by unfold am_rg; omega) ?_
  refine cs_newput (kd := 0) (ln := 40) (nb := 2) dX2_init_15 dX2_init_17 rfl (by decide) wd_186 rfl (by decide) (by omega) (by omega) hc_5 (f := 1) (by decide) wd_316 (by first | exact Or.inl rfl | exact Or.inr ⟨rfl, rfl, rfl⟩) rfl rfl rfl ?_
  refine am_aload_n dX2_init_20 (by repeat (first | exact List.Mem.head _ | apply List.Mem.tail)) ?_
  refine am_bipush dX2_init_21 (by decide) (by unfold am_rg; omega) ?_
  refine cs_newput (kd := 0) (ln := 40) (nb := 3) dX2_init_23 dX2_init_25 rfl (by decide) wd_186 rfl (by decide) (by omega) (by omega) hc_5 (f := 2) (by decide) wd_318 (by first | exact Or.inl rfl | exact Or.inr ⟨rfl, rfl, rfl⟩) rfl rfl rfl ?_
  refine am_aload_n dX2_init_28 (by repeat (first | exact List.Mem.head _ | apply List.Mem.tail)) ?_
  refine am_bipush dX2_init_29 (by decide) (by unfold am_rg; omega) ?_
  refine cs_newput (kd := 0) (ln := 40) (nb := 4) dX2_init_31 dX2_init_33 rfl (by decide) wd_186 rfl (by decide) (by omega) (by omega) hc_5 (f := 3) (by decide) wd_319 (by first | exact Or.inl rfl | exact Or.inr ⟨rfl, rfl, rfl⟩) rfl rfl rfl ?_
  refine am_aload_n dX2_init_36 (by repeat (first | exact List.Mem.head _ | apply List.Mem.tail)) ?_
  refine am_bipush dX2_init_37 (by decide) (by unfold am_rg; omega) ?_
  refine cs_newput (kd := 0) (ln := 40) (nb := 5) dX2_init_39 dX2_init_41 rfl (by decide) wd_186 rfl (by decide) (by omega) (by omega) hc_5 (f := 4) (by decide) wd_320 (by first | exact Or.inl rfl | exact Or.inr ⟨rfl, rfl, rfl⟩) rfl rfl rfl ?_
  refine am_aload_n dX2_init_44 (by repeat (first | exact List.Mem.head _ | apply List.Mem.tail)) ?_
  refine am_bipush dX2_init_45 (by decide) (by unfold am_rg; omega) ?_
  refine cs_newput (kd := 0) (ln := 40) (nb := 6) dX2_init_47 dX2_init_49 rfl (by decide) wd_186 rfl (by decide) (by omega) (by omega) hc_5 (f := 5) (by decide) wd_323 (by first | exact Or.inl rfl | exact Or.inr ⟨rfl, rfl, rfl⟩) rfl rfl rfl ?_
  refine am_aload_n dX2_init_52 (by repeat (first | exact List.Mem.head _ | apply List.Mem.tail)) ?_
  refine am_bipush dX2_init_53 (by decide) (by unfold am_rg; omega) ?_
  refine cs_newput (kd := 0) (ln := 40) (nb := 7) dX2_init_55 dX2_init_57 rfl (by decide) wd_186 rfl (by decide) (by omega) (by omega) hc_5 (f := 6) (by decide) wd_325 (by first | exact Or.inl rfl | exact Or.inr ⟨rfl, rfl, rfl⟩) rfl rfl rfl ?_
  refine am_aload_n dX2_init_60 (by repeat (first | exact List.Mem.head _ | apply List.Mem.tail)) ?_
  refine am_bipush dX2_init_61 (by decide) (by unfold am_rg; omega) ?_
  refine cs_newput (kd := 0) (ln := 40) (nb := 8) dX2_init_63 dX2_init_65 rfl (by decide) wd_186 rfl (by decide) (by omega) (by omega) hc_5 (f := 7) (by decide) wd_327 (by first | exact Or.inl rfl | exact Or.inr ⟨rfl, rfl, rfl⟩) rfl rfl rfl ?_
  refine am_aload_n dX2_init_68 (by repeat (first | exact List.Mem.head _ | apply List.Mem.tail)) ?_
  refine am_bipush dX2_init_69 (by decide) (by unfold am_rg; omega) ?_
  refine cs_newput (kd := 1) (ln := 40) (nb := 9) dX2_init_71 dX2_init_73 rfl (by decide) wd_385 rfl (by decide) (by omega) (by omega) hc_5 (f := 8) (by decide) wd_329 (by first | exact Or.inl rfl | exact Or.inr ⟨rfl, rfl, rfl⟩) rfl rfl rfl ?_
  refine am_aload_n dX2_init_76 (by repeat (first | exact List.Mem.head _ | apply List.Mem.tail)) ?_
  refine am_bipush dX2_init_77 (by decide) (by unfold am_rg; omega) ?_
  refine cs_newput (kd := 1) (ln := 40) (nb := 10) dX2_init_79 dX2_init_81 rfl (by decide) wd_385 rfl (by decide) (by omega) (by omega) hc_5 (f := 9) (by decide) wd_330 (by first | exact Or.inl rfl | exact Or.inr ⟨rfl, rfl, rfl⟩) rfl rfl rfl ?_
  refine am_aload_n dX2_init_84 (by repeat (first | exact List.Mem.head _ | apply List.Mem.tail)) ?_
  refine am_bipush dX2_init_85 (by decide) (by unfold am_rg; omega) ?_
  refine cs_newput (kd := 1) (ln := 40) (nb := 11) dX2_init_87 dX2_init_89 rfl (by decide) wd_385 rfl (by decide) (by omega) (by omega) hc_5 (f := 10) (by decide) wd_331 (by first | exact Or.inl rfl | exact Or.inr ⟨rfl, rfl, rfl⟩) rfl rfl rfl ?_
  refine am_aload_n dX2_init_92 (by repeat (first | exact List.Mem.head _ | apply List.Mem.tail)) ?_
  refine am_bipush dX2_init_93 (by decide) (by unfold am_rg; omega) ?_
  refine cs_newput (kd := 0) (ln := 40) (nb := 12) dX2_init_95 dX2_init_97 rfl (by decide) wd_186 rfl (by decide) (by omega) (by omega) hc_5 (f := 11) (by decide) wd_332 (by first | exact Or.inl rfl | exact Or.inr ⟨rfl, rfl, rfl⟩) rfl rfl rfl ?_
  refine am_aload_n dX2_init_100 (by repeat (first | exact List.Mem.head _ | apply List.Mem.tail)) ?_
  refine am_bipush dX2_init_101 (by decide) (by unfold am_rg; omega) ?_
  refine cs_newput (kd := 0) (ln := 40) (nb := 13) dX2_init_103 dX2_init_105 rfl (by decide) wd_186 rfl (by decide) (by omega) (by omega) hc_5 (f := 12) (by decide) wd_333 (by first | exact Or.inl rfl | exact Or.inr ⟨rfl, rfl, rfl⟩) rfl rfl rfl ?_
  refine am_aload_n dX2_init_108 (by repeat (first | exact List.Mem.head _ | apply List.Mem.tail)) ?_
  refine am_bipush dX2_init_109 (by decide) (by unfold am_rg; omega) ?_
  refine cs_newput (kd := 0) (ln := 40) (nb := 14) dX2_init_111 dX2_init_113 rfl (by decide) wd_186 rfl (by decide) (by omega) (by omega) hc_5 (f := 13) (by decide) wd_334 (by first | exact Or.inl rfl | exact Or.inr ⟨rfl, rfl, rfl⟩) rfl rfl rfl ?_
  refine am_aload_n dX2_init_116 (by repeat (first | exact List.Mem.head _ | apply List.Mem.tail)) ?_
  refine am_bipush dX2_init_117 (by decide) (by unfold am_rg; omega) ?_
  refine cs_newput (kd := 0) (ln := 40) (nb := 15) dX2_init_119 dX2_init_121 rfl (by decide) wd_186 rfl (by decide) (by omega) (by omega) hc_5 (f := 14) (by decide) wd_335 (by first | exact Or.inl rfl | exact Or.inr ⟨rfl, rfl, rfl⟩) rfl rfl rfl ?_
  refine am_aload_n dX2_init_124 (by repeat (first | exact List.Mem.head _ | apply List.Mem.tail)) ?_
  refine am_bipush dX2_init_125 (by decide) (by unfold am_rg; omega) ?_
  refine cs_newput (kd := 1) (ln := 40) (nb := 16) dX2_init_127 dX2_init_129 rfl (by decide) wd_385 rfl (by decide) (by omega) (by omega) hc_5 (f := 15) (by decide) wd_336 (by first | exact Or.inl rfl | exact Or.inr ⟨rfl, rfl, rfl⟩) rfl rfl rfl ?_
  refine am_aload_n dX2_init_132 (by repeat (first | exact List.Mem.head _ | apply List.Mem.tail)) ?_
  refine am_lconst (x := 0) dX2_init_133 rfl ?_
  refine cs_putl0 dX2_init_134 hc_5 (f := 16) (by decide) wd_337 rfl rfl rfl ?_
  refine am_aload_n dX2_init_137 (by repeat (first | exact List.Mem.head _ | apply List.Mem.tail)) ?_
  refine am_lconst (x := 0) dX2_init_138 rfl ?_
  refine cs_putl0 dX2_init_139 hc_5 (f := 17) (by decide) wd_338 rfl rfl rfl ?_
  refine am_aload_n dX2_init_142 (by repeat (first | exact List.Mem.head _ | apply List.Mem.tail)) ?_
  refine am_iconst dX2_init_143 (by unfold am_rg; omega) ?_
  refine cs_put0 dX2_init_144 hc_5 (f := 18) (by decide) wd_339 rfl (by first | exact Or.inl rfl | exact Or.inr rfl) rfl rfl ?_
  refine am_aload_n dX2_init_147 (by repeat (first | exact List.Mem.head _ | apply List.Mem.tail)) ?_
  refine am_iconst dX2_init_148 (by unfold am_rg; omega) ?_
  refine cs_put0 dX2_init_149 hc_5 (f := 19) (by decide) wd_342 rfl (by first | exact Or.inl rfl | exact Or.inr rfl) rfl rfl ?_
  exact am_ret (r := none) dX2_init_152 rfl rfl K
def cs_X5 (n : Nat) : List cs_C := [(107, 0, [(1, (999, n + 2)), (0, (999, n + 1))], [(3, -1)]), (0, 4, [], []), (0, 4, [], [])]
theorem cs_X5_l (n : Nat) : (cs_X5 n).length = 3 := rfl
theorem pX5_init {A : List cs_C} (hkc : 2 ≤ kc) (hks : 8 ≤ ks) (K : Q none (cs_W (A ++ cs_X5 A.length))) : am_M (mh_G X) SC (d + 1) kc ks mX5_init [.inr (.inr (some (999, A.length)))] (cs_W (A ++ [(107, 0, [], [])])) Q := by
  refine am_M_of (by decide) (Nat.le_of_ble_eq_true rfl) ?_
  refine am_aload_n dX5_init_0 (by repeat (first | exact List.Mem.head _ | apply List.Mem.tail)) ?_
  refine am_objinit dX5_init_1 wd_398 wd_142 wd_143 (by omega) (by decide) ?_
  refine am_aload_n dX5_init_4 (by repeat (first | exact List.Mem.head _ | apply List.Mem.tail)) ?_
  refine am_iconst dX5_init_5 (by unfold am_rg; omega) ?_
  refine cs_newput (kd := 0) (ln := 4) (nb := 1) dX5_init_6 dX5_init_8 rfl (by decide) wd_186 rfl (by decide) (by omega) (by omega) hc_7 (f := 0) (by decide) wd_399 (by first | exact Or.inl rfl | exact Or.inr ⟨rfl, rfl, rfl⟩) rfl rfl rfl ?_
  refine am_aload_n dX5_init_11 (by repeat (first | exact List.Mem.head _ | apply List.Mem.tail)) ?_
  refine am_iconst dX5_init_12 (by unfold am_rg; omega) ?_
  refine cs_newput (kd := 0) (ln := 4) (nb := 2) dX5_init_13 dX5_init_15 rfl (by decide) wd_186 rfl (by decide) (by omega) (by omega) hc_7 (f := 1) (by decide) wd_400 (by first | exact Or.inl rfl | exact Or.inr ⟨rfl, rfl, rfl⟩) rfl rfl rfl ?_
  refine am_aload_n dX5_init_18 (by repeat (first | exact List.Mem.head _ | apply List.Mem.tail)) ?_
  refine am_iconst dX5_init_19 (by unfold am_rg; omega) ?_
  refine cs_put0 dX5_init_20 hc_7 (f := 2) (by decide) wd_401 rfl (by first | exact Or.inl rfl | exact Or.inr rfl) rfl rfl ?_
  refine am_aload_n dX5_init_23 (by repeat (first | exact List.Mem.head _ | apply List.Mem.tail)) ?_
  refine am_iconst dX5_init_24 (by unfold am_rg; omega) ?_
  refine cs_puti dX5_init_25 hc_7 (f := 3) (by decide) wd_402 rfl (Or.inl rfl) rfl ?_
  refine am_aload_n dX5_init_28 (by repeat (first | exact List.Mem.head _ | apply List.Mem.tail)) ?_
  refine am_iconst dX5_init_29 (by unfold am_rg; omega) ?_
  refine cs_put0 dX5_init_30 hc_7 (f := 4) (by decide) wd_404 rfl (by first | exact Or.inl rfl | exact Or.inr rfl) rfl rfl ?_
  refine am_aload_n dX5_init_33 (by repeat (first | exact List.Mem.head _ | apply List.Mem.tail)) ?_
  refine am_iconst dX5_init_34 (by unfold am_rg; omega) ?_
  refine cs_put0 dX5_init_35 hc_7 (f := 5) (by decide) wd_406 rfl (by first | exact Or.inl rfl | exact Or.inr rfl) rfl rfl ?_
  refine am_aload_n dX5_init_38 (by repeat (first | exact List.Mem.head _ | apply List.Mem.tail)) ?_
  refine am_iconst dX5_init_39 (by unfold am_rg; omega) ?_
  refine cs_put0 dX5_init_40 hc_7 (f := 6) (by decide) wd_407 rfl (by first | exact Or.inl rfl | exact Or.inr rfl) rfl rfl ?_
  refine am_aload_n dX5_init_43 (by repeat (first | exact List.Mem.head _ | apply List.Mem.tail)) ?_
  refine am_iconst dX5_init_44 (by unfold am_rg; omega) ?_
  refine cs_put0 dX5_init_45 hc_7 (f := 7) (by decide) wd_409 rfl (by first | exact Or.inl rfl | exact Or.inr rfl) rfl rfl ?_
  refine am_aload_n dX5_init_48 (by repeat (first | exact List.Mem.head _ | apply List.Mem.tail)) ?_
  refine am_iconst dX5_init_49 (by unfold am_rg; omega) ?_
  refine cs_put0 dX5_init_50 hc_7 (f := 8) (by decide) wd_411 rfl (by first | exact Or.inl rfl | exact Or.inr rfl) rfl rfl ?_
  refine am_aload_n dX5_init_53 (by repeat (first | exact List.Mem.head _ | apply List.Mem.tail)) ?_
  refine am_iconst dX5_init_54 (by unfold am_rg; omega) ?_
  refine cs_put0 dX5_init_55 hc_7 (f := 9) (by decide) wd_413 rfl (by first | exact Or.inl rfl | exact Or.inr rfl) rfl rfl ?_
  refine am_aload_n dX5_init_58 (by repeat (first | exact List.Mem.head _ | apply List.Mem.tail)) ?_
  refine am_iconst dX5_init_59 (by unfold am_rg; omega) ?_
  refine cs_put0 dX5_init_60 hc_7 (f := 10) (by decide) wd_414 rfl (by first | exact Or.inl rfl | exact Or.inr rfl) rfl rfl ?_
  exact am_ret (r := none) dX5_init_63 rfl rfl K
def cs_X9 (n : Nat) : List cs_C := [(108, 0, [(7, (999, n + 8)), (6, (999, n + 7)), (5, (999, n + 6)), (4, (999, n + 5)), (3, (999, n + 4)), (2, (999, n + 3)), (1, (999, n + 2)), (0, (999, n + 1))], []), (0, 40, [], []), (0, 40, [], []), (4, 40, [], []), (0, 5, [], []), (0, 20, [], []), (0, 20, [], []), (0, 20, [], []), (0, 20, [], [])]
theorem cs_X9_l (n : Nat) : (cs_X9 n).length = 9 := rfl
theorem pX9_init {A : List cs_C} (hkc : 8 ≤ kc) (hks : 205 ≤ ks) (K : Q none (cs_W (A ++ cs_X9 A.length))) : am_M (mh_G X) SC (d + 1) kc ks mX9_init [.inr (.inr (some (999, A.length)))] (cs_W (A ++ [(108, 0, [], [])])) Q := by
  refine am_M_of (by decide) (Nat.le_of_ble_eq_true rfl) ?_
  refine am_aload_n dX9_init_0 (by repeat (first | exact List.Mem.head _ | apply List.Mem.tail)) ?_
  refine am_objinit dX9_init_1 wd_474 wd_142 wd_143 (by omega) (by decide) ?_
  refine am_aload_n dX9_init_4 (by repeat (first | exact List.Mem.head _ | apply List.Mem.tail)) ?_
  refine am_bipush dX9_init_5 (by decide) (by unfold am_rg; omega) ?_
  refine cs_newput (kd := 0) (ln := 40) (nb := 1) dX9_init_7 dX9_init_9 rfl (by decide) wd_186 rfl (by decide) (by omega) (by omega) hc_8 (f := 0) (by decide) wd_475 (by first | exact Or.inl rfl | exact Or.inr ⟨rfl, rfl, rfl⟩) rfl rfl rfl ?_
  refine am_aload_n dX9_init_12 (by repeat (first | exact List.Mem.head _ | apply List.Mem.tail)) ?_
  refine am_bipush dX9_init_13 (by decide) (by unfold am_rg; omega) ?_
  refine cs_newput (kd := 0) (ln := 40) (nb := 2) dX9_init_15 dX9_init_17 rfl (by decide) wd_186 rfl (by decide) (by omega) (by omega) hc_8 (f := 1) (by decide) wd_477 (by first | exact Or.inl rfl | exact Or.inr ⟨rfl, rfl, rfl⟩) rfl rfl rfl ?_
  refine am_aload_n dX9_init_20 (by repeat (first | exact List.Mem.head _ | apply List.Mem.tail)) ?_
  refine am_bipush dX9_init_21 (by decide) (by unfold am_rg; omega) ?_
  refine cs_newput (kd := 4) (ln := 40) (nb := 3) dX9_init_23 dX9_init_25 rfl (by decide) wd_522 rfl (by decide) (by omega) (by omega) hc_8 (f := 2) (by decide) wd_479 (by first | exact Or.inl rfl | exact Or.inr ⟨rfl, rfl, rfl⟩) rfl rfl rfl ?_
  refine am_aload_n dX9_init_28 (by repeat (first | exact List.Mem.head _ | apply List.Mem.tail)) ?_
  refine am_iconst dX9_init_29 (by unfold am_rg; omega) ?_
  refine cs_newput (kd := 0) (ln := 5) (nb := 4) dX9_init_30 dX9_init_32 rfl (by decide) wd_186 rfl (by decide) (by omega) (by omega) hc_8 (f := 3) (by decide) wd_481 (by first | exact Or.inl rfl | exact Or.inr ⟨rfl, rfl, rfl⟩) rfl rfl rfl ?_
  refine am_aload_n dX9_init_35 (by repeat (first | exact List.Mem.head _ | apply List.Mem.tail)) ?_
  refine am_bipush dX9_init_36 (by decide) (by unfold am_rg; omega) ?_
  refine cs_newput (kd := 0) (ln := 20) (nb := 5) dX9_init_38 dX9_init_40 rfl (by decide) wd_186 rfl (by decide) (by omega) (by omega) hc_8 (f := 4) (by decide) wd_483 (by first | exact Or.inl rfl | exact Or.inr ⟨rfl, rfl, rfl⟩) rfl rfl rfl ?_
  refine am_aload_n dX9_init_43 (by repeat (first | exact List.Mem.head _ | apply List.Mem.tail)) ?_
  refine am_bipush dX9_init_44 (by decide) (by unfold am_rg; omega) ?_
  refine cs_newput (kd := 0) (ln := 20) (nb := 6) dX9_init_46 dX9_init_48 rfl (by decide) wd_186 rfl (by decide) (by omega) (by omega) hc_8 (f := 5) (by decide) wd_484 (by first | exact Or.inl rfl | exact Or.inr ⟨rfl, rfl, rfl⟩) rfl rfl rfl ?_
  refine am_aload_n dX9_init_51 (by repeat (first | exact List.Mem.head _ | apply List.Mem.tail)) ?_
  refine am_bipush dX9_init_52 (by decide) (by unfold am_rg; omega) ?_
  refine cs_newput (kd := 0) (ln := 20) (nb := 7) dX9_init_54 dX9_init_56 rfl (by decide) wd_186 rfl (by decide) (by omega) (by omega) hc_8 (f := 6) (by decide) wd_485 (by first | exact Or.inl rfl | exact Or.inr ⟨rfl, rfl, rfl⟩) rfl rfl rfl ?_
  refine am_aload_n dX9_init_59 (by repeat (first | exact List.Mem.head _ | apply List.Mem.tail)) ?_
  refine am_bipush dX9_init_60 (by decide) (by unfold am_rg; omega) ?_
  refine cs_newput (kd := 0) (ln := 20) (nb := 8) dX9_init_62 dX9_init_64 rfl (by decide) wd_186 rfl (by decide) (by omega) (by omega) hc_8 (f := 7) (by decide) wd_486 (by first | exact Or.inl rfl | exact Or.inr ⟨rfl, rfl, rfl⟩) rfl rfl rfl ?_
  refine am_aload_n dX9_init_67 (by repeat (first | exact List.Mem.head _ | apply List.Mem.tail)) ?_
  refine am_iconst dX9_init_68 (by unfold am_rg; omega) ?_
  refine cs_put0 dX9_init_69 hc_8 (f := 8) (by decide) wd_488 rfl (by first | exact Or.inl rfl | exact Or.inr rfl) rfl rfl ?_
  refine am_aload_n dX9_init_72 (by repeat (first | exact List.Mem.head _ | apply List.Mem.tail)) ?_
  refine am_iconst dX9_init_73 (by unfold am_rg; omega) ?_
  refine cs_put0 dX9_init_74 hc_8 (f := 9) (by decide) wd_490 rfl (by first | exact Or.inl rfl | exact Or.inr rfl) rfl rfl ?_
  refine am_aload_n dX9_init_77 (by repeat (first | exact List.Mem.head _ | apply List.Mem.tail)) ?_
  refine am_iconst dX9_init_78 (by unfold am_rg; omega) ?_
  refine cs_put0 dX9_init_79 hc_8 (f := 10) (by decide) wd_493 rfl (by first | exact Or.inl rfl | exact Or.inr rfl) rfl rfl ?_
  refine am_aload_n dX9_init_82 (by repeat (first | exact List.Mem.head _ | apply List.Mem.tail)) ?_
  refine am_iconst dX9_init_83 (by unfold am_rg; omega) ?_
  refine cs_put0 dX9_init_84 hc_8 (f := 11) (by decide) wd_496 rfl (by first | exact Or.inl rfl | exact Or.inr rfl) rfl rfl ?_
  exact am_ret (r := none) dX9_init_87 rfl rfl K
def cs_X7 (n : Nat) (x1 : am_I) : List cs_C := [(109, 0, [(0, x1), (8, (999, n + 8)), (7, (999, n + 7)), (6, (999, n + 6)), (5, (999, n + 5)), (4, (999, n + 4)), (3, (999, n + 3)), (2, (999, n + 2)), (1, (999, n + 1))], []), (0, 5, [], []), (0, 5, [], []), (0, 5, [], []), (0, 5, [], []), (0, 5, [], []), (0, 5, [], []), (0, 5, [], []), (0, 24, [], [])]
theorem cs_X7_l (n : Nat) (x1 : am_I) : (cs_X7 n x1).length = 9 := rfl
theorem pX7_init {A : List cs_C} {x1 : am_I} (hkc : 8 ≤ kc) (hks : 59 ≤ ks) (K : Q none (cs_W (A ++ cs_X7 A.length x1))) : am_M (mh_G X) SC (d + 1) kc ks mX7_init [.inr (.inr (some (999, A.length))), .inr (.inr (some x1))] (cs_W (A ++ [(109, 0, [], [])])) Q := by
  refine am_M_of (by decide) (Nat.le_of_ble_eq_true rfl) ?_
  refine am_aload_n dX7_init_0 (by repeat (first | exact List.Mem.head _ | apply List.Mem.tail)) ?_
  refine am_objinit dX7_init_1 wd_528 wd_142 wd_143 (by omega) (by decide) ?_
  refine am_aload_n dX7_init_4 (by repeat (first | exact List.Mem.head _ | apply List.Mem.tail)) ?_
  refine am_iconst dX7_init_5 (by unfold am_rg; omega) ?_
  refine cs_newput (kd := 0) (ln := 5) (nb := 1) dX7_init_6 dX7_init_8 rfl (by decide) wd_186 rfl (by decide) (by omega) (by omega) hc_9 (f := 1) (by decide) wd_530 (by first | exact Or.inl rfl | exact Or.inr ⟨rfl, rfl, rfl⟩) rfl rfl rfl ?_
  refine am_aload_n dX7_init_11 (by repeat (first | exact List.Mem.head _ | apply List.Mem.tail)) ?_
  refine am_iconst dX7_init_12 (by unfold am_rg; omega) ?_
  refine cs_newput (kd := 0) (ln := 5) (nb := 2) dX7_init_13 dX7_init_15 rfl (by decide) wd_186 rfl (by decide) (by omega) (by omega) hc_9 (f := 2) (by decide) wd_531 (by first | exact Or.inl rfl | exact Or.inr ⟨rfl, rfl, rfl⟩) rfl rfl rfl ?_
  refine am_aload_n dX7_init_18 (by repeat (first | exact List.Mem.head _ | apply List.Mem.tail)) ?_
  refine am_iconst dX7_init_19 (by unfold am_rg; omega) ?_
  refine cs_newput (kd := 0) (ln := 5) (nb := 3) dX7_init_20 dX7_init_22 rfl (by decide) wd_186 rfl (by decide) (by omega) (by omega) hc_9 (f := 3) (by decide) wd_532 (by first | exact Or.inl rfl | exact Or.inr ⟨rfl, rfl, rfl⟩) rfl rfl rfl ?_
  refine am_aload_n dX7_init_25 (by repeat (first | exact List.Mem.head _ | apply List.Mem.tail)) ?_
  refine am_iconst dX7_init_26 (by unfold am_rg; omega) ?_
  refine cs_newput (kd := 0) (ln := 5) (nb := 4) dX7_init_27 dX7_init_29 rfl (by decide) wd_186 rfl (by decide) (by omega) (by omega) hc_9 (f := 4) (by decide) wd_533 (by first | exact Or.inl rfl | exact Or.inr ⟨rfl, rfl, rfl⟩) rfl rfl rfl ?_
  refine am_aload_n dX7_init_32 (by repeat (first | exact List.Mem.head _ | apply List.Mem.tail)) ?_
  refine am_iconst dX7_init_33 (by unfold am_rg; omega) ?_
  refine cs_newput (kd := 0) (ln := 5) (nb := 5) dX7_init_34 dX7_init_36 rfl (by decide) wd_186 rfl (by decide) (by omega) (by omega) hc_9 (f := 5) (by decide) wd_534 (by first | exact Or.inl rfl | exact Or.inr ⟨rfl, rfl, rfl⟩) rfl rfl rfl ?_
  refine am_aload_n dX7_init_39 (by repeat (first | exact List.Mem.head _ | apply List.Mem.tail)) ?_
  refine am_iconst dX7_init_40 (by unfold am_rg; omega) ?_
  refine cs_newput (kd := 0) (ln := 5) (nb := 6) dX7_init_41 dX7_init_43 rfl (by decide) wd_186 rfl (by decide) (by omega) (by omega) hc_9 (f := 6) (by decide) wd_535 (by first | exact Or.inl rfl | exact Or.inr ⟨rfl, rfl, rfl⟩) rfl rfl rfl ?_
  refine am_aload_n dX7_init_46 (by repeat (first | exact List.Mem.head _ | apply List.Mem.tail)) ?_
  refine am_iconst dX7_init_47 (by unfold am_rg; omega) ?_
  refine cs_newput (kd := 0) (ln := 5) (nb := 7) dX7_init_48 dX7_init_50 rfl (by decide) wd_186 rfl (by decide) (by omega) (by omega) hc_9 (f := 7) (by decide) wd_536 (by first | exact Or.inl rfl | exact Or.inr ⟨rfl, rfl, rfl⟩) rfl rfl rfl ?_
  refine am_aload_n dX7_init_53 (by repeat (first | exact List.Mem.head _ | apply List.Mem.tail)) ?_
  refine am_bipush dX7_init_54 (by decide) (by unfold am_rg; omega) ?_
  refine cs_newput (kd := 0) (ln := 24) (nb := 8) dX7_init_56 dX7_init_58 rfl (by decide) wd_186 rfl (by decide) (by omega) (by omega) hc_9 (f := 8) (by decide) wd_537 (by first | exact Or.inl rfl | exact Or.inr ⟨rfl, rfl, rfl⟩) rfl rfl rfl ?_
  refine am_aload_n dX7_init_61 (by repeat (first | exact List.Mem.head _ | apply List.Mem.tail)) ?_
  refine am_iconst dX7_init_62 (by unfold am_rg; omega) ?_
  refine cs_put0 dX7_init_63 hc_9 (f := 9) (by decide) wd_538 rfl (by first | exact Or.inl rfl | exact Or.inr rfl) rfl rfl ?_
  refine am_aload_n dX7_init_66 (by repeat (first | exact List.Mem.head _ | apply List.Mem.tail)) ?_
  refine am_iconst dX7_init_67 (by unfold am_rg; omega) ?_
  refine cs_put0 dX7_init_68 hc_9 (f := 10) (by decide) wd_539 rfl (by first | exact Or.inl rfl | exact Or.inr rfl) rfl rfl ?_
  refine am_aload_n dX7_init_71 (by repeat (first | exact List.Mem.head _ | apply List.Mem.tail)) ?_
  refine am_iconst dX7_init_72 (by unfold am_rg; omega) ?_
  refine cs_put0 dX7_init_73 hc_9 (f := 11) (by decide) wd_540 rfl (by first | exact Or.inl rfl | exact Or.inr rfl) rfl rfl ?_
  refine am_aload_n dX7_init_76 (by repeat (first | exact List.Mem.head _ | apply List.Mem.tail)) ?_
  refine am_lconst (x := 0) dX7_init_77 rfl ?_
  refine cs_putl0 dX7_init_78 hc_9 (f := 12) (by decide) wd_541 rfl rfl rfl ?_
  refine am_aload_n dX7_init_81 (by repeat (first | exact List.Mem.head _ | apply List.Mem.tail)) ?_
  refine am_aload_n dX7_init_82 (by repeat (first | exact List.Mem.head _ | apply List.Mem.tail)) ?_
  refine cs_putr dX7_init_83 hc_9 (f := 0) (by decide) wd_529 (by first | exact Or.inl rfl | exact Or.inr ⟨rfl, rfl, rfl⟩) rfl rfl ?_
  exact am_ret (r := none) dX7_init_86 rfl rfl K
def cs_X1i (n : Nat) (i : Nat) : List cs_C := (103, 0, [(4, (999, n + 5)), (3, (999, n + 4)), (2, (999, n + 3)), (1, (999, n + 2)), (0, (999, n + 1))], []) :: (7, 6, cs_rf (n + 6) 11 i, []) :: ([(0, 10, [], []), (0, 10, [], []), (0, 10, [], []), (0, 10, [], [])] ++ cs_rows cs_X3 (n + 6) 11 i)
def cs_X1 (n : Nat) : List cs_C := cs_X1i n 6
theorem cs_X1i_l (n : Nat) (i : Nat) : (cs_X1i n i).length = 6 + 11 * i := by
  unfold cs_X1i
  simp only [List.length_cons, List.length_append, List.length_nil, cs_rows_l (cs_X3_l)]
  omega
theorem cs_X1_l (n : Nat) : (cs_X1 n).length = 72 := cs_X1i_l n 6
theorem pX1_init {A : List cs_C} (hkc : 71 ≤ kc) (hks : 3694 ≤ ks) (K : Q none (cs_W (A ++ cs_X1 A.length))) : am_M (mh_G X) SC (d + 2) kc ks mX1_init [.inr (.inr (some (999, A.length)))] (cs_W (A ++ [(103, 0, [], [])])) Q := by
  have BL : ∀ (m i bc bs : Nat), i + m = 6 → 11 * m ≤ bc → 608 * m ≤ bs → am_A (mh_G X) SC (d + 2) mX1_init Q 57 [(1, .inl (i : Int)), (0, .inr (.inr (some (999, A.length))))] [] (cs_W (A ++ cs_X1i A.length i)) bc bs := by
    intro m
    induction m with
    | zero =>
      intro i bc bs hi hbc hbs
      obtain rfl : i = 6 := by omega
      refine am_iload_n dX1_init_57 (by repeat (first | exact List.Mem.head _ | apply List.Mem.tail)) ?_
      refine am_bipush dX1_init_58 (by decide) (by unfold am_rg; omega) ?_
      refine am_icmpge (tgt := 82) dX1_init_60 (by decide) (fun _ => ?_) (fun c => absurd (by decide) c)
      exact am_ret (r := none) dX1_init_82 rfl rfl K
    | succ m ih =>
      intro i bc bs hi hbc hbs
      have i1 : ¬ (6 : Int) ≤ (i : Int) := by omega
      refine am_iload_n dX1_init_57 (by repeat (first | exact List.Mem.head _ | apply List.Mem.tail)) ?_
      refine am_bipush dX1_init_58 (by decide) (by unfold am_rg; omega) ?_
      refine am_icmpge (tgt := 82) dX1_init_60 (by decide) (fun c => absurd c i1) (fun _ => ?_)
      refine am_aload_n dX1_init_63 (by repeat (first | exact List.Mem.head _ | apply List.Mem.tail)) ?_
      refine cs_getr dX1_init_64 hc_3 (f := 0) (by decide) wd_285 rfl rfl (r := (999, A.length + 1)) rfl ?_
      refine am_iload_n dX1_init_67 (by repeat (first | exact List.Mem.head _ | apply List.Mem.tail)) ?_
      refine cs_new (P := (A ++ cs_X1i A.length i)) dX1_init_68 hc_4 wd_208 wd_210 wd_116 (by omega) (by omega) ?_
      refine am_dup dX1_init_71 rfl ?_
      refine am_callin (d' := d + 1) (kc := 10) (ks := 590) (as := []) dX1_init_72 wc_X3_init (host := "MourningHouse") (by repeat (first | exact List.Mem.head _ | apply List.Mem.tail)) wd_212 rfl rfl wd_116 ds_X3_init (by decide) (by omega) (Nat.le_of_ble_eq_true rfl) (by omega) (by omega) rfl (pX3_init (A := (A ++ cs_X1i A.length i)) (Nat.le_refl _) (Nat.le_refl _) ?_)
      have hP : (A ++ cs_X1i A.length i).length = A.length + 6 + 11 * i := by rw [List.length_append, cs_X1i_l]; omega
      have hk : am_kd (mh_G X) (cs_W ((A ++ cs_X1i A.length i) ++ cs_X3 (A ++ cs_X1i A.length i).length)) 999 (A ++ cs_X1i A.length i).length = 104 := cs_kd _ _ _ _ _ _
      have e1 : (A ++ cs_X1i A.length i) ++ cs_X3 (A ++ cs_X1i A.length i).length = (A ++ [(103, 0, [(4, (999, A.length + 5)), (3, (999, A.length + 4)), (2, (999, A.length + 3)), (1, (999, A.length + 2)), (0, (999, A.length + 1))], [])]) ++ (7, 6, cs_rf (A.length + 6) 11 i, []) :: ([(0, 10, [], []), (0, 10, [], []), (0, 10, [], []), (0, 10, [], [])] ++ (cs_rows cs_X3 (A.length + 6) 11 i ++ cs_X3 (A ++ cs_X1i A.length i).length)) := cs_e1 A [(0, 10, [], []), (0, 10, [], []), (0, 10, [], []), (0, 10, [], [])] _ _ _ _
      rw [e1] at hk ⊢
      rw [hP] at hk ⊢
      have e3 : A.length + 1 = (A ++ [(103, 0, [(4, (999, A.length + 5)), (3, (999, A.length + 4)), (2, (999, A.length + 3)), (1, (999, A.length + 2)), (0, (999, A.length + 1))], [])]).length := (cs_e3 _ _).symm
      have KK : am_A (mh_G X) SC (d + 2) mX1_init Q 76 [(1, .inl (i : Int)), (0, .inr (.inr (some (999, A.length))))] [] (cs_W ((A ++ [(103, 0, [(4, (999, A.length + 5)), (3, (999, A.length + 4)), (2, (999, A.length + 3)), (1, (999, A.length + 2)), (0, (999, A.length + 1))], [])]) ++ (7, 6, (i, (999, A.length + 6 + 11 * i)) :: cs_rf (A.length + 6) 11 i, []) :: ([(0, 10, [], []), (0, 10, [], []), (0, 10, [], []), (0, 10, [], [])] ++ (cs_rows cs_X3 (A.length + 6) 11 i ++ cs_X3 (A.length + 6 + 11 * i))))) (bc - 1 - 10) (bs - 18 - 590) := by
        rw [cs_e2]
        refine am_iinc (x := (i : Int)) (ls' := [(1, .inl (am_w ((i : Int) + 1))), (0, .inr (.inr (some (999, A.length))))]) dX1_init_76 (by repeat (first | exact List.Mem.head _ | apply List.Mem.tail)) (by decide) rfl ?_
        refine am_goto (tgt := 57) dX1_init_79 (by decide) ?_
        rw [am_w_id (by unfold am_rg; omega), show (i : Int) + 1 = ((i + 1 : Nat) : Int) from rfl]
        exact ih (i + 1) _ _ (by omega) (by omega) (by omega)
      exact cs_aastN (i := i) (A := A ++ [(103, 0, [(4, (999, A.length + 5)), (3, (999, A.length + 4)), (2, (999, A.length + 3)), (1, (999, A.length + 2)), (0, (999, A.length + 1))], [])]) e3 dX1_init_75 (by decide) (by decide) hc_4 rfl (by decide) hk rfl (by omega) KK
  refine am_M_of (by decide) (Nat.le_of_ble_eq_true rfl) ?_
  refine am_aload_n dX1_init_0 (by repeat (first | exact List.Mem.head _ | apply List.Mem.tail)) ?_
  refine am_objinit dX1_init_1 wd_207 wd_142 wd_143 (by omega) (by decide) ?_
  refine am_aload_n dX1_init_4 (by repeat (first | exact List.Mem.head _ | apply List.Mem.tail)) ?_
  refine am_bipush dX1_init_5 (by decide) (by unfold am_rg; omega) ?_
  refine cs_anewput (kd := 7) (ln := 6) (nb := 1) dX1_init_7 dX1_init_10 rfl (by decide) (by decide) wd_208 (by decide) rfl (by decide) (by omega) (by omega) hc_3 (f := 0) (by decide) wd_285 (by first | exact Or.inl rfl | exact Or.inr ⟨rfl, rfl, rfl⟩) rfl rfl rfl ?_
  refine am_aload_n dX1_init_13 (by repeat (first | exact List.Mem.head _ | apply List.Mem.tail)) ?_
  refine am_bipush dX1_init_14 (by decide) (by unfold am_rg; omega) ?_
  refine cs_newput (kd := 0) (ln := 10) (nb := 2) dX1_init_16 dX1_init_18 rfl (by decide) wd_186 rfl (by decide) (by omega) (by omega) hc_3 (f := 1) (by decide) wd_286 (by first | exact Or.inl rfl | exact Or.inr ⟨rfl, rfl, rfl⟩) rfl rfl rfl ?_
  refine am_aload_n dX1_init_21 (by repeat (first | exact List.Mem.head _ | apply List.Mem.tail)) ?_
  refine am_bipush dX1_init_22 (by decide) (by unfold am_rg; omega) ?_
  refine cs_newput (kd := 0) (ln := 10) (nb := 3) dX1_init_24 dX1_init_26 rfl (by decide) wd_186 rfl (by decide) (by omega) (by omega) hc_3 (f := 2) (by decide) wd_287 (by first | exact Or.inl rfl | exact Or.inr ⟨rfl, rfl, rfl⟩) rfl rfl rfl ?_
  refine am_aload_n dX1_init_29 (by repeat (first | exact List.Mem.head _ | apply List.Mem.tail)) ?_
  refine am_bipush dX1_init_30 (by decide) (by unfold am_rg; omega) ?_
  refine cs_newput (kd := 0) (ln := 10) (nb := 4) dX1_init_32 dX1_init_34 rfl (by decide) wd_186 rfl (by decide) (by omega) (by omega) hc_3 (f := 3) (by decide) wd_288 (by first | exact Or.inl rfl | exact Or.inr ⟨rfl, rfl, rfl⟩) rfl rfl rfl ?_
  refine am_aload_n dX1_init_37 (by repeat (first | exact List.Mem.head _ | apply List.Mem.tail)) ?_
  refine am_bipush dX1_init_38 (by decide) (by unfold am_rg; omega) ?_
  refine cs_newput (kd := 0) (ln := 10) (nb := 5) dX1_init_40 dX1_init_42 rfl (by decide) wd_186 rfl (by decide) (by omega) (by omega) hc_3 (f := 4) (by decide) wd_289 (by first | exact Or.inl rfl | exact Or.inr ⟨rfl, rfl, rfl⟩) rfl rfl rfl ?_
  refine am_aload_n dX1_init_45 (by repeat (first | exact List.Mem.head _ | apply List.Mem.tail)) ?_
  refine am_iconst dX1_init_46 (by unfold am_rg; omega) ?_
  refine cs_put0 dX1_init_47 hc_3 (f := 5) (by decide) wd_290 rfl (by first | exact Or.inl rfl | exact Or.inr rfl) rfl rfl ?_
  refine am_aload_n dX1_init_50 (by repeat (first | exact List.Mem.head _ | apply List.Mem.tail)) ?_
  refine am_iconst dX1_init_51 (by unfold am_rg; omega) ?_
  refine cs_put0 dX1_init_52 hc_3 (f := 6) (by decide) wd_292 rfl (by first | exact Or.inl rfl | exact Or.inr rfl) rfl rfl ?_
  refine am_iconst dX1_init_55 (by unfold am_rg; omega) ?_
  refine am_istore_n (ls' := [(1, .inl 0), (0, .inr (.inr (some (999, A.length))))]) dX1_init_56 (by decide) rfl ?_
  exact BL 6 0 _ _ (by decide) (by omega) (by omega)
def cs_X4i (n : Nat) (x1 : am_I) (x2 : am_I) (i : Nat) : List cs_C := (106, 0, [(1, x2), (0, x1), (2, (999, n + 1))], []) :: (8, 40, cs_rf (n + 2) 3 i, []) :: ([] ++ cs_rows cs_X5 (n + 2) 3 i)
def cs_X4 (n : Nat) (x1 : am_I) (x2 : am_I) : List cs_C := cs_X4i n x1 x2 40
theorem cs_X4i_l (n : Nat) (x1 : am_I) (x2 : am_I) (i : Nat) : (cs_X4i n x1 x2 i).length = 2 + 3 * i := by
  unfold cs_X4i
  simp only [List.length_cons, List.length_append, List.length_nil, cs_rows_l (cs_X5_l)]
  omega
theorem cs_X4_l (n : Nat) (x1 : am_I) (x2 : am_I) : (cs_X4 n x1 x2).length = 122 := cs_X4i_l n x1 x2 40
theorem pX4_init {A : List cs_C} {x1 : am_I} {x2 : am_I} (hkc : 121 ≤ kc) (hks : 800 ≤ ks) (K : Q none (cs_W (A ++ cs_X4 A.length x1 x2))) : am_M (mh_G X) SC (d + 2) kc ks mX4_init [.inr (.inr (some (999, A.length))), .inr (.inr (some x1)), .inr (.inr (some x2))] (cs_W (A ++ [(106, 0, [], [])])) Q := by
  have BL : ∀ (m i bc bs : Nat), i + m = 40 → 3 * m ≤ bc → 19 * m ≤ bs → am_A (mh_G X) SC (d + 2) mX4_init Q 60 [(3, .inl (i : Int)), (0, .inr (.inr (some (999, A.length)))), (1, .inr (.inr (some x1))), (2, .inr (.inr (some x2)))] [] (cs_W (A ++ cs_X4i A.length x1 x2 i)) bc bs := by
    intro m
    induction m with
    | zero =>
      intro i bc bs hi hbc hbs
      obtain rfl : i = 40 := by omega
      refine am_iload_n dX4_init_60 (by repeat (first | exact List.Mem.head _ | apply List.Mem.tail)) ?_
      refine am_bipush dX4_init_61 (by decide) (by unfold am_rg; omega) ?_
      refine am_icmpge (tgt := 85) dX4_init_63 (by decide) (fun _ => ?_) (fun c => absurd (by decide) c)
      exact am_ret (r := none) dX4_init_85 rfl rfl K
    | succ m ih =>
      intro i bc bs hi hbc hbs
      have i1 : ¬ (40 : Int) ≤ (i : Int) := by omega
      refine am_iload_n dX4_init_60 (by repeat (first | exact List.Mem.head _ | apply List.Mem.tail)) ?_
      refine am_bipush dX4_init_61 (by decide) (by unfold am_rg; omega) ?_
      refine am_icmpge (tgt := 85) dX4_init_63 (by decide) (fun c => absurd c i1) (fun _ => ?_)
      refine am_aload_n dX4_init_66 (by repeat (first | exact List.Mem.head _ | apply List.Mem.tail)) ?_
      refine cs_getr dX4_init_67 hc_6 (f := 2) (by decide) wd_440 rfl rfl (r := (999, A.length + 1)) rfl ?_
      refine am_iload_n dX4_init_70 (by repeat (first | exact List.Mem.head _ | apply List.Mem.tail)) ?_
      refine cs_new (P := (A ++ cs_X4i A.length x1 x2 i)) dX4_init_71 hc_7 wd_392 wd_394 wd_119 (by omega) (by omega) ?_
      refine am_dup dX4_init_74 rfl ?_
      refine am_callin (d' := d + 1) (kc := 2) (ks := 8) (as := []) dX4_init_75 wc_X5_init (host := "MourningHouse") (by repeat (first | exact List.Mem.head _ | apply List.Mem.tail)) wd_396 rfl rfl wd_119 ds_X5_init (by decide) (by omega) (Nat.le_of_ble_eq_true rfl) (by omega) (by omega) rfl (pX5_init (A := (A ++ cs_X4i A.length x1 x2 i)) (Nat.le_refl _) (Nat.le_refl _) ?_)
      have hP : (A ++ cs_X4i A.length x1 x2 i).length = A.length + 2 + 3 * i := by rw [List.length_append, cs_X4i_l]; omega
      have hk : am_kd (mh_G X) (cs_W ((A ++ cs_X4i A.length x1 x2 i) ++ cs_X5 (A ++ cs_X4i A.length x1 x2 i).length)) 999 (A ++ cs_X4i A.length x1 x2 i).length = 107 := cs_kd _ _ _ _ _ _
      have e1 : (A ++ cs_X4i A.length x1 x2 i) ++ cs_X5 (A ++ cs_X4i A.length x1 x2 i).length = (A ++ [(106, 0, [(1, x2), (0, x1), (2, (999, A.length + 1))], [])]) ++ (8, 40, cs_rf (A.length + 2) 3 i, []) :: ([] ++ (cs_rows cs_X5 (A.length + 2) 3 i ++ cs_X5 (A ++ cs_X4i A.length x1 x2 i).length)) := cs_e1 A [] _ _ _ _
      rw [e1] at hk ⊢
      rw [hP] at hk ⊢
      have e3 : A.length + 1 = (A ++ [(106, 0, [(1, x2), (0, x1), (2, (999, A.length + 1))], [])]).length := (cs_e3 _ _).symm
      have KK : am_A (mh_G X) SC (d + 2) mX4_init Q 79 [(3, .inl (i : Int)), (0, .inr (.inr (some (999, A.length)))), (1, .inr (.inr (some x1))), (2, .inr (.inr (some x2)))] [] (cs_W ((A ++ [(106, 0, [(1, x2), (0, x1), (2, (999, A.length + 1))], [])]) ++ (8, 40, (i, (999, A.length + 2 + 3 * i)) :: cs_rf (A.length + 2) 3 i, []) :: ([] ++ (cs_rows cs_X5 (A.length + 2) 3 i ++ cs_X5 (A.length + 2 + 3 * i))))) (bc - 1 - 2) (bs - 11 - 8) := by
        rw [cs_e2]
        refine am_iinc (x := (i : Int)) (ls' := [(3, .inl (am_w ((i : Int) + 1))), (0, .inr (.inr (some (999, A.length)))), (1, .inr (.inr (some x1))), (2, .inr (.inr (some x2)))]) dX4_init_79 (by repeat (first | exact List.Mem.head _ | apply List.Mem.tail)) (by decide) rfl ?_
        refine am_goto (tgt := 60) dX4_init_82 (by decide) ?_
        rw [am_w_id (by unfold am_rg; omega), show (i : Int) + 1 = ((i + 1 : Nat) : Int) from rfl]
        exact ih (i + 1) _ _ (by omega) (by omega) (by omega)
      exact cs_aastN (i := i) (A := A ++ [(106, 0, [(1, x2), (0, x1), (2, (999, A.length + 1))], [])]) e3 dX4_init_78 (by decide) (by decide) hc_7 rfl (by decide) hk rfl (by omega) KK
  refine am_M_of (by decide) (Nat.le_of_ble_eq_true rfl) ?_
  refine am_aload_n dX4_init_0 (by repeat (first | exact List.Mem.head _ | apply List.Mem.tail)) ?_
  refine am_objinit dX4_init_1 wd_391 wd_142 wd_143 (by omega) (by decide) ?_
  refine am_aload_n dX4_init_4 (by repeat (first | exact List.Mem.head _ | apply List.Mem.tail)) ?_
  refine am_bipush dX4_init_5 (by decide) (by unfold am_rg; omega) ?_
  refine cs_anewput (kd := 8) (ln := 40) (nb := 1) dX4_init_7 dX4_init_10 rfl (by decide) (by decide) wd_392 (by decide) rfl (by decide) (by omega) (by omega) hc_6 (f := 2) (by decide) wd_440 (by first | exact Or.inl rfl | exact Or.inr ⟨rfl, rfl, rfl⟩) rfl rfl rfl ?_
  refine am_aload_n dX4_init_13 (by repeat (first | exact List.Mem.head _ | apply List.Mem.tail)) ?_
  refine am_iconst dX4_init_14 (by unfold am_rg; omega) ?_
  refine cs_put0 dX4_init_15 hc_6 (f := 3) (by decide) wd_441 rfl (by first | exact Or.inl rfl | exact Or.inr rfl) rfl rfl ?_
  refine am_aload_n dX4_init_18 (by repeat (first | exact List.Mem.head _ | apply List.Mem.tail)) ?_
  refine am_iconst dX4_init_19 (by unfold am_rg; omega) ?_
  refine cs_put0 dX4_init_20 hc_6 (f := 4) (by decide) wd_442 rfl (by first | exact Or.inl rfl | exact Or.inr rfl) rfl rfl ?_
  refine am_aload_n dX4_init_23 (by repeat (first | exact List.Mem.head _ | apply List.Mem.tail)) ?_
  refine am_iconst dX4_init_24 (by unfold am_rg; omega) ?_
  refine cs_put0 dX4_init_25 hc_6 (f := 5) (by decide) wd_443 rfl (by first | exact Or.inl rfl | exact Or.inr rfl) rfl rfl ?_
  refine am_aload_n dX4_init_28 (by repeat (first | exact List.Mem.head _ | apply List.Mem.tail)) ?_
  refine am_iconst dX4_init_29 (by unfold am_rg; omega) ?_
  refine cs_put0 dX4_init_30 hc_6 (f := 6) (by decide) wd_444 rfl (by first | exact Or.inl rfl | exact Or.inr rfl) rfl rfl ?_
  refine am_aload_n dX4_init_33 (by repeat (first | exact List.Mem.head _ | apply List.Mem.tail)) ?_
  refine am_iconst dX4_init_34 (by unfold am_rg; omega) ?_
  refine cs_put0 dX4_init_35 hc_6 (f := 7) (by decide) wd_445 rfl (by first | exact Or.inl rfl | exact Or.inr rfl) rfl rfl ?_
  refine am_aload_n dX4_init_38 (by repeat (first | exact List.Mem.head _ | apply List.Mem.tail)) ?_
  refine am_iconst dX4_init_39 (by unfold am_rg; omega) ?_
  refine cs_put0 dX4_init_40 hc_6 (f := 8) (by decide) wd_446 rfl (by first | exact Or.inl rfl | exact Or.inr rfl) rfl rfl ?_
  refine am_aload_n dX4_init_43 (by repeat (first | exact List.Mem.head _ | apply List.Mem.tail)) ?_
  refine am_iconst dX4_init_44 (by unfold am_rg; omega) ?_
  refine cs_put0 dX4_init_45 hc_6 (f := 9) (by decide) wd_447 rfl (by first | exact Or.inl rfl | exact Or.inr rfl) rfl rfl ?_
  refine am_aload_n dX4_init_48 (by repeat (first | exact List.Mem.head _ | apply List.Mem.tail)) ?_
  refine am_aload_n dX4_init_49 (by repeat (first | exact List.Mem.head _ | apply List.Mem.tail)) ?_
  refine cs_putr dX4_init_50 hc_6 (f := 0) (by decide) wd_438 (by first | exact Or.inl rfl | exact Or.inr ⟨rfl, rfl, rfl⟩) rfl rfl ?_
  refine am_aload_n dX4_init_53 (by repeat (first | exact List.Mem.head _ | apply List.Mem.tail)) ?_
  refine am_aload_n dX4_init_54 (by repeat (first | exact List.Mem.head _ | apply List.Mem.tail)) ?_
  refine cs_putr dX4_init_55 hc_6 (f := 1) (by decide) wd_439 (by first | exact Or.inl rfl | exact Or.inr ⟨rfl, rfl, rfl⟩) rfl rfl ?_
  refine am_iconst dX4_init_58 (by unfold am_rg; omega) ?_
  refine am_istore_n (ls' := [(3, .inl 0), (0, .inr (.inr (some (999, A.length)))), (1, .inr (.inr (some x1))), (2, .inr (.inr (some x2)))]) dX4_init_59 (by decide) rfl ?_
  exact BL 40 0 _ _ (by decide) (by omega) (by omega)
def cs_X11 (n : Nat) : List cs_C := (100, 0, [(10, (999, n + 239)), (9, (999, n + 238)), (8, (999, n + 237)), (7, (999, n + 236)), (6, (999, n + 227)), (5, (999, n + 218)), (4, (999, n + 96)), (3, (999, n + 79)), (2, (999, n + 7)), (1, (999, n + 5)), (0, (999, n + 1))], []) :: ([] ++ cs_X8 (n + 1) ++ cs_X6 (n + 5) ++ cs_X1 (n + 7) ++ cs_X2 (n + 79) ++ cs_X4 (n + 96) (999, n + 79) (999, n + 7) ++ cs_X9 (n + 218) ++ cs_X7 (n + 227) (999, n + 218) ++ [(0, 100, [], [])] ++ [(0, 100, [], [])] ++ [(0, 100, [], [])] ++ [(0, 60, [], [])])
theorem cs_X11_l (n : Nat) : (cs_X11 n).length = 240 := by
  unfold cs_X11
  simp only [List.length_append, List.length_cons, List.length_nil, cs_X8_l, cs_X6_l, cs_X1_l, cs_X4_l, cs_X2_l, cs_X9_l, cs_X7_l]
theorem pX11_init {A : List cs_C} (hkc : 239 ≤ kc) (hks : 9216 ≤ ks) (K : Q none (cs_W (A ++ cs_X11 A.length))) : am_M (mh_G X) SC (d + 3) kc ks mX11_init [.inr (.inr (some (999, A.length)))] (cs_W (A ++ [(100, 0, [], [])])) Q := by
  refine am_M_of (by decide) (Nat.le_of_ble_eq_true rfl) ?_
  refine am_aload_n dX11_init_0 (by repeat (first | exact List.Mem.head _ | apply List.Mem.tail)) ?_
  refine am_objinit dX11_init_1 wd_141 wd_142 wd_143 (by omega) (by decide) ?_
  refine am_aload_n dX11_init_4 (by repeat (first | exact List.Mem.head _ | apply List.Mem.tail)) ?_
  refine cs_new (P := (A ++ (100, 0, [], []) :: ([]))) dX11_init_5 hc_1 wd_144 wd_145 wd_113 (by omega) (by omega) ?_
  refine am_dup dX11_init_8 rfl ?_
  refine am_callin (d' := d + 2) (kc := 3) (ks := 3128) (as := []) dX11_init_9 wc_X8_init (host := "MourningHouse") (by repeat (first | exact List.Mem.head _ | apply List.Mem.tail)) wd_147 rfl rfl wd_113 ds_X8_init (by decide) (by omega) (Nat.le_of_ble_eq_true rfl) (by omega) (by omega) rfl (pX8_init (d := d + 1) (A := (A ++ (100, 0, [], []) :: ([]))) (Nat.le_refl _) (Nat.le_refl _) ?_)
  rw [cs_as, show List.length (α := cs_C) (A ++ (100, 0, [], []) :: ([])) = A.length + 1 from by rw [cs_len]; simp only [List.length_append, List.length_cons, List.length_nil, cs_X8_l, cs_X6_l, cs_X1_l, cs_X4_l, cs_X2_l, cs_X9_l, cs_X7_l]]
  refine cs_putr dX11_init_12 hc_0 (f := 0) (by decide) wd_569 (by first | exact Or.inl rfl | exact Or.inr ⟨rfl, rfl, rfl⟩) rfl rfl ?_
  refine am_aload_n dX11_init_15 (by repeat (first | exact List.Mem.head _ | apply List.Mem.tail)) ?_
  refine cs_new (P := (A ++ (100, 0, [(0, (999, A.length + 1))], []) :: ([] ++ cs_X8 (A.length + 1)))) dX11_init_16 hc_2 wd_187 wd_188 wd_114 (by omega) (by omega) ?_
  refine am_dup dX11_init_19 rfl ?_
  refine am_callin (d' := d + 2) (kc := 1) (ks := 256) (as := []) dX11_init_20 wc_X6_init (host := "MourningHouse") (by repeat (first | exact List.Mem.head _ | apply List.Mem.tail)) wd_190 rfl rfl wd_114 ds_X6_init (by decide) (by omega) (Nat.le_of_ble_eq_true rfl) (by omega) (by omega) rfl (pX6_init (d := d + 1) (A := (A ++ (100, 0, [(0, (999, A.length + 1))], []) :: ([] ++ cs_X8 (A.length + 1)))) (Nat.le_refl _) (Nat.le_refl _) ?_)
  rw [cs_as, show List.length (α := cs_C) (A ++ (100, 0, [(0, (999, A.length + 1))], []) :: ([] ++ cs_X8 (A.length + 1))) = A.length + 5 from by rw [cs_len]; simp only [List.length_append, List.length_cons, List.length_nil, cs_X8_l, cs_X6_l, cs_X1_l, cs_X4_l, cs_X2_l, cs_X9_l, cs_X7_l]]
  refine cs_putr dX11_init_23 hc_0 (f := 1) (by decide) wd_570 (by first | exact Or.inl rfl | exact Or.inr ⟨rfl, rfl, rfl⟩) rfl rfl ?_
  refine am_aload_n dX11_init_26 (by repeat (first | exact List.Mem.head _ | apply List.Mem.tail)) ?_
  refine cs_new (P := (A ++ (100, 0, [(1, (999, A.length + 5)), (0, (999, A.length + 1))], []) :: ([] ++ cs_X8 (A.length + 1) ++ cs_X6 (A.length + 5)))) dX11_init_27 hc_3 wd_202 wd_203 wd_115 (by omega) (by omega) ?_
  refine am_dup dX11_init_30 rfl ?_
  refine am_calli (d' := d + 2) (kc := 71) (ks := 3694) (as := []) dX11_init_31 wc_X1_init wd_204 wd_205 rfl rfl wd_115 ds_X1_init (by decide) (by omega) (Nat.le_of_ble_eq_true rfl) (by omega) (by omega) rfl (pX1_init (d := d + 0) (A := (A ++ (100, 0, [(1, (999, A.length + 5)), (0, (999, A.length + 1))], []) :: ([] ++ cs_X8 (A.length + 1) ++ cs_X6 (A.length + 5)))) (Nat.le_refl _) (Nat.le_refl _) ?_)
  rw [cs_as, show List.length (α := cs_C) (A ++ (100, 0, [(1, (999, A.length + 5)), (0, (999, A.length + 1))], []) :: ([] ++ cs_X8 (A.length + 1) ++ cs_X6 (A.length + 5))) = A.length + 7 from by rw [cs_len]; simp only [List.length_append, List.length_cons, List.length_nil, cs_X8_l, cs_X6_l, cs_X1_l, cs_X4_l, cs_X2_l, cs_X9_l, cs_X7_l]]
  refine cs_putr dX11_init_34 hc_0 (f := 2) (by decide) wd_571 (by first | exact Or.inl rfl | exact Or.inr ⟨rfl, rfl, rfl⟩) rfl rfl ?_
  refine am_aload_n dX11_init_37 (by repeat (first | exact List.Mem.head _ | apply List.Mem.tail)) ?_
  refine cs_new (P := (A ++ (100, 0, [(2, (999, A.length + 7)), (1, (999, A.length + 5)), (0, (999, A.length + 1))], []) :: ([] ++ cs_X8 (A.length + 1) ++ cs_X6 (A.length + 5) ++ cs_X1 (A.length + 7)))) dX11_init_38 hc_5 wd_309 wd_310 wd_117 (by omega) (by omega) ?_
  refine am_dup dX11_init_41 rfl ?_
  refine am_callin (d' := d + 2) (kc := 16) (ks := 640) (as := []) dX11_init_42 wc_X2_init (host := "MourningHouse") (by repeat (first | exact List.Mem.head _ | apply List.Mem.tail)) wd_312 rfl rfl wd_117 ds_X2_init (by decide) (by omega) (Nat.le_of_ble_eq_true rfl) (by omega) (by omega) rfl (pX2_init (d := d + 1) (A := (A ++ (100, 0, [(2, (999, A.length + 7)), (1, (999, A.length + 5)), (0, (999, A.length + 1))], []) :: ([] ++ cs_X8 (A.length + 1) ++ cs_X6 (A.length + 5) ++ cs_X1 (A.length + 7)))) (Nat.le_refl _) (Nat.le_refl _) ?_)
  rw [cs_as, show List.length (α := cs_C) (A ++ (100, 0, [(2, (999, A.length + 7)), (1, (999, A.length + 5)), (0, (999, A.length + 1))], []) :: ([] ++ cs_X8 (A.length + 1) ++ cs_X6 (A.length + 5) ++ cs_X1 (A.length + 7))) = A.length + 79 from by rw [cs_len]; simp only [List.length_append, List.length_cons, List.length_nil, cs_X8_l, cs_X6_l, cs_X1_l, cs_X4_l, cs_X2_l, cs_X9_l, cs_X7_l]]
  refine cs_putr dX11_init_45 hc_0 (f := 3) (by decide) wd_572 (by first | exact Or.inl rfl | exact Or.inr ⟨rfl, rfl, rfl⟩) rfl rfl ?_
  refine am_aload_n dX11_init_48 (by repeat (first | exact List.Mem.head _ | apply List.Mem.tail)) ?_
  refine cs_new (P := (A ++ (100, 0, [(3, (999, A.length + 79)), (2, (999, A.length + 7)), (1, (999, A.length + 5)), (0, (999, A.length + 1))], []) :: ([] ++ cs_X8 (A.length + 1) ++ cs_X6 (A.length + 5) ++ cs_X1 (A.length + 7) ++ cs_X2 (A.length + 79)))) dX11_init_49 hc_6 wd_386 wd_387 wd_118 (by omega) (by omega) ?_
  refine am_dup dX11_init_52 rfl ?_
  refine am_aload_n dX11_init_53 (by repeat (first | exact List.Mem.head _ | apply List.Mem.tail)) ?_
  rw [cs_as A ([] ++ cs_X8 (A.length + 1) ++ cs_X6 (A.length + 5) ++ cs_X1 (A.length + 7) ++ cs_X2 (A.length + 79)) [(106, 0, [], [])] (100, 0, [(3, (999, A.length + 79)), (2, (999, A.length + 7)), (1, (999, A.length + 5)), (0, (999, A.length + 1))], [])]
  refine cs_getr dX11_init_54 hc_0 (f := 3) (by decide) wd_572 rfl rfl (r := (999, A.length + 79)) rfl ?_
  rw [← cs_as A ([] ++ cs_X8 (A.length + 1) ++ cs_X6 (A.length + 5) ++ cs_X1 (A.length + 7) ++ cs_X2 (A.length + 79)) [(106, 0, [], [])] (100, 0, [(3, (999, A.length + 79)), (2, (999, A.length + 7)), (1, (999, A.length + 5)), (0, (999, A.length + 1))], [])]
  refine am_aload_n dX11_init_57 (by repeat (first | exact List.Mem.head _ | apply List.Mem.tail)) ?_
  rw [cs_as A ([] ++ cs_X8 (A.length + 1) ++ cs_X6 (A.length + 5) ++ cs_X1 (A.length + 7) ++ cs_X2 (A.length + 79)) [(106, 0, [], [])] (100, 0, [(3, (999, A.length + 79)), (2, (999, A.length + 7)), (1, (999, A.length + 5)), (0, (999, A.length + 1))], [])]
  refine cs_getr dX11_init_58 hc_0 (f := 2) (by decide) wd_571 rfl rfl (r := (999, A.length + 7)) rfl ?_
  rw [← cs_as A ([] ++ cs_X8 (A.length + 1) ++ cs_X6 (A.length + 5) ++ cs_X1 (A.length + 7) ++ cs_X2 (A.length + 79)) [(106, 0, [], [])] (100, 0, [(3, (999, A.length + 79)), (2, (999, A.length + 7)), (1, (999, A.length + 5)), (0, (999, A.length + 1))], [])]
  refine am_calli (d' := d + 2) (kc := 121) (ks := 800) (as := [.inr (.inr (some (999, A.length + 79))), .inr (.inr (some (999, A.length + 7)))]) dX11_init_61 wc_X4_init wd_388 wd_389 rfl rfl wd_118 ds_X4_init (by decide) (by omega) (Nat.le_of_ble_eq_true rfl) (by omega) (by omega) rfl (pX4_init (d := d + 0) (A := (A ++ (100, 0, [(3, (999, A.length + 79)), (2, (999, A.length + 7)), (1, (999, A.length + 5)), (0, (999, A.length + 1))], []) :: ([] ++ cs_X8 (A.length + 1) ++ cs_X6 (A.length + 5) ++ cs_X1 (A.length + 7) ++ cs_X2 (A.length + 79)))) (x1 := (999, A.length + 79)) (x2 := (999, A.length + 7)) (Nat.le_refl _) (Nat.le_refl _) ?_)
  rw [cs_as, show List.length (α := cs_C) (A ++ (100, 0, [(3, (999, A.length + 79)), (2, (999, A.length + 7)), (1, (999, A.length + 5)), (0, (999, A.length + 1))], []) :: ([] ++ cs_X8 (A.length + 1) ++ cs_X6 (A.length + 5) ++ cs_X1 (A.length + 7) ++ cs_X2 (A.length + 79))) = A.length + 96 from by rw [cs_len]; simp only [List.length_append, List.length_cons, List.length_nil, cs_X8_l, cs_X6_l, cs_X1_l, cs_X4_l, cs_X2_l, cs_X9_l, cs_X7_l]]
  refine cs_putr dX11_init_64 hc_0 (f := 4) (by decide) wd_573 (by first | exact Or.inl rfl | exact Or.inr ⟨rfl, rfl, rfl⟩) rfl rfl ?_
  refine am_aload_n dX11_init_67 (by repeat (first | exact List.Mem.head _ | apply List.Mem.tail)) ?_
  refine cs_new (P := (A ++ (100, 0, [(4, (999, A.length + 96)), (3, (999, A.length + 79)), (2, (999, A.length + 7)), (1, (999, A.length + 5)), (0, (999, A.length + 1))], []) :: ([] ++ cs_X8 (A.length + 1) ++ cs_X6 (A.length + 5) ++ cs_X1 (A.length + 7) ++ cs_X2 (A.length + 79) ++ cs_X4 (A.length + 96) (999, A.length + 79) (999, A.length + 7)))) dX11_init_68 hc_8 wd_469 wd_470 wd_120 (by omega) (by omega) ?_
  refine am_dup dX11_init_71 rfl ?_
  refine am_callin (d' := d + 2) (kc := 8) (ks := 205) (as := []) dX11_init_72 wc_X9_init (host := "MourningHouse") (by repeat (first | exact List.Mem.head _ | apply List.Mem.tail)) wd_472 rfl rfl wd_120 ds_X9_init (by decide) (by omega) (Nat.le_of_ble_eq_true rfl) (by omega) (by omega) rfl (pX9_init (d := d + 1) (A := (A ++ (100, 0, [(4, (999, A.length + 96)), (3, (999, A.length + 79)), (2, (999, A.length + 7)), (1, (999, A.length + 5)), (0, (999, A.length + 1))], []) :: ([] ++ cs_X8 (A.length + 1) ++ cs_X6 (A.length + 5) ++ cs_X1 (A.length + 7) ++ cs_X2 (A.length + 79) ++ cs_X4 (A.length + 96) (999, A.length + 79) (999, A.length + 7)))) (Nat.le_refl _) (Nat.le_refl _) ?_)
  rw [cs_as, show List.length (α := cs_C) (A ++ (100, 0, [(4, (999, A.length + 96)), (3, (999, A.length + 79)), (2, (999, A.length + 7)), (1, (999, A.length + 5)), (0, (999, A.length + 1))], []) :: ([] ++ cs_X8 (A.length + 1) ++ cs_X6 (A.length + 5) ++ cs_X1 (A.length + 7) ++ cs_X2 (A.length + 79) ++ cs_X4 (A.length + 96) (999, A.length + 79) (999, A.length + 7))) = A.length + 218 from by rw [cs_len]; simp only [List.length_append, List.length_cons, List.length_nil, cs_X8_l, cs_X6_l, cs_X1_l, cs_X4_l, cs_X2_l, cs_X9_l, cs_X7_l]]
  refine cs_putr dX11_init_75 hc_0 (f := 5) (by decide) wd_574 (by first | exact Or.inl rfl | exact Or.inr ⟨rfl, rfl, rfl⟩) rfl rfl ?_
  refine am_aload_n dX11_init_78 (by repeat (first | exact List.Mem.head _ | apply List.Mem.tail)) ?_
  refine cs_new (P := (A ++ (100, 0, [(5, (999, A.length + 218)), (4, (999, A.length + 96)), (3, (999, A.length + 79)), (2, (999, A.length + 7)), (1, (999, A.length + 5)), (0, (999, A.length + 1))], []) :: ([] ++ cs_X8 (A.length + 1) ++ cs_X6 (A.length + 5) ++ cs_X1 (A.length + 7) ++ cs_X2 (A.length + 79) ++ cs_X4 (A.length + 96) (999, A.length + 79) (999, A.length + 7) ++ cs_X9 (A.length + 218)))) dX11_init_79 hc_9 wd_523 wd_524 wd_121 (by omega) (by omega) ?_
  refine am_dup dX11_init_82 rfl ?_
  refine am_aload_n dX11_init_83 (by repeat (first | exact List.Mem.head _ | apply List.Mem.tail)) ?_
  rw [cs_as A ([] ++ cs_X8 (A.length + 1) ++ cs_X6 (A.length + 5) ++ cs_X1 (A.length + 7) ++ cs_X2 (A.length + 79) ++ cs_X4 (A.length + 96) (999, A.length + 79) (999, A.length + 7) ++ cs_X9 (A.length + 218)) [(109, 0, [], [])] (100, 0, [(5, (999, A.length + 218)), (4, (999, A.length + 96)), (3, (999, A.length + 79)), (2, (999, A.length + 7)), (1, (999, A.length + 5)), (0, (999, A.length + 1))], [])]
  refine cs_getr dX11_init_84 hc_0 (f := 5) (by decide) wd_574 rfl rfl (r := (999, A.length + 218)) rfl ?_
  rw [← cs_as A ([] ++ cs_X8 (A.length + 1) ++ cs_X6 (A.length + 5) ++ cs_X1 (A.length + 7) ++ cs_X2 (A.length + 79) ++ cs_X4 (A.length + 96) (999, A.length + 79) (999, A.length + 7) ++ cs_X9 (A.length + 218)) [(109, 0, [], [])] (100, 0, [(5, (999, A.length + 218)), (4, (999, A.length + 96)), (3, (999, A.length + 79)), (2, (999, A.length + 7)), (1, (999, A.length + 5)), (0, (999, A.length + 1))], [])]
  refine am_calli (d' := d + 2) (kc := 8) (ks := 59) (as := [.inr (.inr (some (999, A.length + 218)))]) dX11_init_87 wc_X7_init wd_525 wd_526 rfl rfl wd_121 ds_X7_init (by decide) (by omega) (Nat.le_of_ble_eq_true rfl) (by omega) (by omega) rfl (pX7_init (d := d + 1) (A := (A ++ (100, 0, [(5, (999, A.length + 218)), (4, (999, A.length + 96)), (3, (999, A.length + 79)), (2, (999, A.length + 7)), (1, (999, A.length + 5)), (0, (999, A.length + 1))], []) :: ([] ++ cs_X8 (A.length + 1) ++ cs_X6 (A.length + 5) ++ cs_X1 (A.length + 7) ++ cs_X2 (A.length + 79) ++ cs_X4 (A.length + 96) (999, A.length + 79) (999, A.length + 7) ++ cs_X9 (A.length + 218)))) (x1 := (999, A.length + 218)) (Nat.le_refl _) (Nat.le_refl _) ?_)
  rw [cs_as, show List.length (α := cs_C) (A ++ (100, 0, [(5, (999, A.length + 218)), (4, (999, A.length + 96)), (3, (999, A.length + 79)), (2, (999, A.length + 7)), (1, (999, A.length + 5)), (0, (999, A.length + 1))], []) :: ([] ++ cs_X8 (A.length + 1) ++ cs_X6 (A.length + 5) ++ cs_X1 (A.length + 7) ++ cs_X2 (A.length + 79) ++ cs_X4 (A.length + 96) (999, A.length + 79) (999, A.length + 7) ++ cs_X9 (A.length + 218))) = A.length + 227 from by rw [cs_len]; simp only [List.length_append, List.length_cons, List.length_nil, cs_X8_l, cs_X6_l, cs_X1_l, cs_X4_l, cs_X2_l, cs_X9_l, cs_X7_l]]
  refine cs_putr dX11_init_90 hc_0 (f := 6) (by decide) wd_575 (by first | exact Or.inl rfl | exact Or.inr ⟨rfl, rfl, rfl⟩) rfl rfl ?_
  refine am_aload_n dX11_init_93 (by repeat (first | exact List.Mem.head _ | apply List.Mem.tail)) ?_
  refine am_bipush dX11_init_94 (by decide) (by unfold am_rg; omega) ?_
  refine cs_newput (kd := 0) (ln := 100) (nb := 236) dX11_init_96 dX11_init_98 rfl (by decide) wd_186 rfl (by decide) (by omega) (by omega) hc_0 (f := 7) (by decide) wd_576 (by first | exact Or.inl rfl | exact Or.inr ⟨rfl, rfl, rfl⟩) rfl rfl (by simp only [List.length_append, List.length_cons, List.length_nil, cs_X8_l, cs_X6_l, cs_X1_l, cs_X4_l, cs_X2_l, cs_X9_l, cs_X7_l]) ?_
  refine am_aload_n dX11_init_101 (by repeat (first | exact List.Mem.head _ | apply List.Mem.tail)) ?_
  refine am_bipush dX11_init_102 (by decide) (by unfold am_rg; omega) ?_
  refine cs_newput (kd := 0) (ln := 100) (nb := 237) dX11_init_104 dX11_init_106 rfl (by decide) wd_186 rfl (by decide) (by omega) (by omega) hc_0 (f := 8) (by decide) wd_577 (by first | exact Or.inl rfl | exact Or.inr ⟨rfl, rfl, rfl⟩) rfl rfl (by simp only [List.length_append, List.length_cons, List.length_nil, cs_X8_l, cs_X6_l, cs_X1_l, cs_X4_l, cs_X2_l, cs_X9_l, cs_X7_l]) ?_
  refine am_aload_n dX11_init_109 (by repeat (first | exact List.Mem.head _ | apply List.Mem.tail)) ?_
  refine am_bipush dX11_init_110 (by decide) (by unfold am_rg; omega) ?_
  refine cs_newput (kd := 0) (ln := 100) (nb := 238) dX11_init_112 dX11_init_114 rfl (by decide) wd_186 rfl (by decide) (by omega) (by omega) hc_0 (f := 9) (by decide) wd_578 (by first | exact Or.inl rfl | exact Or.inr ⟨rfl, rfl, rfl⟩) rfl rfl (by simp only [List.length_append, List.length_cons, List.length_nil, cs_X8_l, cs_X6_l, cs_X1_l, cs_X4_l, cs_X2_l, cs_X9_l, cs_X7_l]) ?_
  refine am_aload_n dX11_init_117 (by repeat (first | exact List.Mem.head _ | apply List.Mem.tail)) ?_
  refine am_bipush dX11_init_118 (by decide) (by unfold am_rg; omega) ?_
  refine cs_newput (kd := 0) (ln := 60) (nb := 239) dX11_init_120 dX11_init_122 rfl (by decide) wd_186 rfl (by decide) (by omega) (by omega) hc_0 (f := 10) (by decide) wd_579 (by first | exact Or.inl rfl | exact Or.inr ⟨rfl, rfl, rfl⟩) rfl rfl (by simp only [List.length_append, List.length_cons, List.length_nil, cs_X8_l, cs_X6_l, cs_X1_l, cs_X4_l, cs_X2_l, cs_X9_l, cs_X7_l]) ?_
  refine am_aload_n dX11_init_125 (by repeat (first | exact List.Mem.head _ | apply List.Mem.tail)) ?_
  refine am_iconst dX11_init_126 (by unfold am_rg; omega) ?_
  refine cs_put0 dX11_init_127 hc_0 (f := 11) (by decide) wd_580 rfl (by first | exact Or.inl rfl | exact Or.inr rfl) rfl rfl ?_
  refine am_aload_n dX11_init_130 (by repeat (first | exact List.Mem.head _ | apply List.Mem.tail)) ?_
  refine am_iconst dX11_init_131 (by unfold am_rg; omega) ?_
  refine cs_put0 dX11_init_132 hc_0 (f := 12) (by decide) wd_581 rfl (by first | exact Or.inl rfl | exact Or.inr rfl) rfl rfl ?_
  exact am_ret (r := none) dX11_init_135 rfl rfl K
