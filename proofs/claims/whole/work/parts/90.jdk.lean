-- words of the JDK's methods
theorem wd_1413 : Cond.constant "java/lang/Integer" 265 (1431655765) ∈ am_TW := am_tk6 (List.mem_of_getElem? (i := 102) (by decide +kernel)) rfl
theorem wd_1414 : Cond.constant "java/lang/Integer" 266 (858993459) ∈ am_TW := am_tk6 (List.mem_of_getElem? (i := 103) (by decide +kernel)) rfl
theorem wd_1415 : Cond.constant "java/lang/Integer" 267 (252645135) ∈ am_TW := am_tk6 (List.mem_of_getElem? (i := 104) (by decide +kernel)) rfl
-- java/lang/Integer.bitCount(I)I
theorem dJ6_bitCount_0f7a4_0 : decode mJ6_bitCount_0f7a4.2.1 0 = .ok (.iload_n 0, 1) := by decide +kernel
theorem dJ6_bitCount_0f7a4_1 : decode mJ6_bitCount_0f7a4.2.1 1 = .ok (.iload_n 0, 1) := by decide +kernel
theorem dJ6_bitCount_0f7a4_2 : decode mJ6_bitCount_0f7a4.2.1 2 = .ok (.iconst 1, 1) := by decide +kernel
theorem dJ6_bitCount_0f7a4_3 : decode mJ6_bitCount_0f7a4.2.1 3 = .ok (.iushr, 1) := by decide +kernel
theorem dJ6_bitCount_0f7a4_4 : decode mJ6_bitCount_0f7a4.2.1 4 = .ok (.ldc_w 265, 3) := by decide +kernel
theorem dJ6_bitCount_0f7a4_7 : decode mJ6_bitCount_0f7a4.2.1 7 = .ok (.iand, 1) := by decide +kernel
theorem dJ6_bitCount_0f7a4_8 : decode mJ6_bitCount_0f7a4.2.1 8 = .ok (.isub, 1) := by decide +kernel
theorem dJ6_bitCount_0f7a4_9 : decode mJ6_bitCount_0f7a4.2.1 9 = .ok (.istore_n 0, 1) := by decide +kernel
theorem dJ6_bitCount_0f7a4_10 : decode mJ6_bitCount_0f7a4.2.1 10 = .ok (.iload_n 0, 1) := by decide +kernel
theorem dJ6_bitCount_0f7a4_11 : decode mJ6_bitCount_0f7a4.2.1 11 = .ok (.ldc_w 266, 3) := by decide +kernel
theorem dJ6_bitCount_0f7a4_14 : decode mJ6_bitCount_0f7a4.2.1 14 = .ok (.iand, 1) := by decide +kernel
theorem dJ6_bitCount_0f7a4_15 : decode mJ6_bitCount_0f7a4.2.1 15 = .ok (.iload_n 0, 1) := by decide +kernel
theorem dJ6_bitCount_0f7a4_16 : decode mJ6_bitCount_0f7a4.2.1 16 = .ok (.iconst 2, 1) := by decide +kernel
theorem dJ6_bitCount_0f7a4_17 : decode mJ6_bitCount_0f7a4.2.1 17 = .ok (.iushr, 1) := by decide +kernel
theorem dJ6_bitCount_0f7a4_18 : decode mJ6_bitCount_0f7a4.2.1 18 = .ok (.ldc_w 266, 3) := by decide +kernel
theorem dJ6_bitCount_0f7a4_21 : decode mJ6_bitCount_0f7a4.2.1 21 = .ok (.iand, 1) := by decide +kernel
theorem dJ6_bitCount_0f7a4_22 : decode mJ6_bitCount_0f7a4.2.1 22 = .ok (.iadd, 1) := by decide +kernel
theorem dJ6_bitCount_0f7a4_23 : decode mJ6_bitCount_0f7a4.2.1 23 = .ok (.istore_n 0, 1) := by decide +kernel
theorem dJ6_bitCount_0f7a4_24 : decode mJ6_bitCount_0f7a4.2.1 24 = .ok (.iload_n 0, 1) := by decide +kernel
theorem dJ6_bitCount_0f7a4_25 : decode mJ6_bitCount_0f7a4.2.1 25 = .ok (.iload_n 0, 1) := by decide +kernel
theorem dJ6_bitCount_0f7a4_26 : decode mJ6_bitCount_0f7a4.2.1 26 = .ok (.iconst 4, 1) := by decide +kernel
theorem dJ6_bitCount_0f7a4_27 : decode mJ6_bitCount_0f7a4.2.1 27 = .ok (.iushr, 1) := by decide +kernel
theorem dJ6_bitCount_0f7a4_28 : decode mJ6_bitCount_0f7a4.2.1 28 = .ok (.iadd, 1) := by decide +kernel
theorem dJ6_bitCount_0f7a4_29 : decode mJ6_bitCount_0f7a4.2.1 29 = .ok (.ldc_w 267, 3) := by decide +kernel
theorem dJ6_bitCount_0f7a4_32 : decode mJ6_bitCount_0f7a4.2.1 32 = .ok (.iand, 1) := by decide +kernel
theorem dJ6_bitCount_0f7a4_33 : decode mJ6_bitCount_0f7a4.2.1 33 = .ok (.istore_n 0, 1) := by decide +kernel
theorem dJ6_bitCount_0f7a4_34 : decode mJ6_bitCount_0f7a4.2.1 34 = .ok (.iload_n 0, 1) := by decide +kernel
theorem dJ6_bitCount_0f7a4_35 : decode mJ6_bitCount_0f7a4.2.1 35 = .ok (.iload_n 0, 1) := by decide +kernel
theorem dJ6_bitCount_0f7a4_36 : decode mJ6_bitCount_0f7a4.2.1 36 = .ok (.bipush 8, 2) := by decide +kernel
theorem dJ6_bitCount_0f7a4_38 : decode mJ6_bitCount_0f7a4.2.1 38 = .ok (.iushr, 1) := by decide +kernel
theorem dJ6_bitCount_0f7a4_39 : decode mJ6_bitCount_0f7a4.2.1 39 = .ok (.iadd, 1) := by decide +kernel
theorem dJ6_bitCount_0f7a4_40 : decode mJ6_bitCount_0f7a4.2.1 40 = .ok (.istore_n 0, 1) := by decide +kernel
theorem dJ6_bitCount_0f7a4_41 : decode mJ6_bitCount_0f7a4.2.1 41 = .ok (.iload_n 0, 1) := by decide +kernel
theorem dJ6_bitCount_0f7a4_42 : decode mJ6_bitCount_0f7a4.2.1 42 = .ok (.iload_n 0, 1) := by decide +kernel
theorem dJ6_bitCount_0f7a4_43 : decode mJ6_bitCount_0f7a4.2.1 43 = .ok (.bipush 16, 2) := by decide +kernel
theorem dJ6_bitCount_0f7a4_45 : decode mJ6_bitCount_0f7a4.2.1 45 = .ok (.iushr, 1) := by decide +kernel
theorem dJ6_bitCount_0f7a4_46 : decode mJ6_bitCount_0f7a4.2.1 46 = .ok (.iadd, 1) := by decide +kernel
theorem dJ6_bitCount_0f7a4_47 : decode mJ6_bitCount_0f7a4.2.1 47 = .ok (.istore_n 0, 1) := by decide +kernel
theorem dJ6_bitCount_0f7a4_48 : decode mJ6_bitCount_0f7a4.2.1 48 = .ok (.iload_n 0, 1) := by decide +kernel
theorem dJ6_bitCount_0f7a4_49 : decode mJ6_bitCount_0f7a4.2.1 49 = .ok (.bipush 63, 2) := by decide +kernel
theorem dJ6_bitCount_0f7a4_51 : decode mJ6_bitCount_0f7a4.2.1 51 = .ok (.iand, 1) := by decide +kernel
theorem dJ6_bitCount_0f7a4_52 : decode mJ6_bitCount_0f7a4.2.1 52 = .ok (.ireturn, 1) := by decide +kernel
theorem bJ6_bitCount_0f7a4_0 {SC : Nat → Nat} {X : mh_X} {d : Nat} {Q : Option am_V → am_W → Prop} {bc bs : Nat} {w : am_W} {x0 : Int}
    (h : (∀ n1 : Int, n1 = (am_w ((am_and (am_w (x0 - (am_and (am_ushr x0 1) 1431655765))) 858993459) + (am_and (am_ushr (am_w (x0 - (am_and (am_ushr x0 1) 1431655765))) 2) 858993459))) → (∀ n2 : Int, n2 = (am_w ((am_and (am_w (n1 + (am_ushr n1 4))) 252645135) + (am_ushr (am_and (am_w (n1 + (am_ushr n1 4))) 252645135) 8))) → Q (some (.inl (am_and (am_w (n2 + (am_ushr n2 16))) 63))) w))) :
    am_A (mh_G X) SC (d + 1) mJ6_bitCount_0f7a4 Q 0 [(0, .inl x0)] [] w bc bs := by
  refine am_iload_n dJ6_bitCount_0f7a4_0 (List.Mem.head _) ?_
  refine am_iload_n dJ6_bitCount_0f7a4_1 (List.Mem.head _) ?_
  refine am_iconst dJ6_bitCount_0f7a4_2 (by unfold am_rg; omega) ?_
  refine am_iushr dJ6_bitCount_0f7a4_3 ?_
  refine am_ldcwV (n := 1431655765) dJ6_bitCount_0f7a4_4 (by decide) wd_1413 (by unfold am_rg; omega) ?_
  refine am_iand dJ6_bitCount_0f7a4_7 ?_
  refine am_isub dJ6_bitCount_0f7a4_8 ?_
  refine am_istore_n (ls' := [(0, .inl (am_w (x0 - (am_and (am_ushr x0 1) 1431655765))))]) dJ6_bitCount_0f7a4_9 (by decide) rfl ?_
  refine am_iload_n dJ6_bitCount_0f7a4_10 (List.Mem.head _) ?_
  refine am_ldcwV (n := 858993459) dJ6_bitCount_0f7a4_11 (by decide) wd_1414 (by unfold am_rg; omega) ?_
  refine am_iand dJ6_bitCount_0f7a4_14 ?_
  refine am_iload_n dJ6_bitCount_0f7a4_15 (List.Mem.head _) ?_
  refine am_iconst dJ6_bitCount_0f7a4_16 (by unfold am_rg; omega) ?_
  refine am_iushr dJ6_bitCount_0f7a4_17 ?_
  refine am_ldcwV (n := 858993459) dJ6_bitCount_0f7a4_18 (by decide) wd_1414 (by unfold am_rg; omega) ?_
  refine am_iand dJ6_bitCount_0f7a4_21 ?_
  refine am_iadd dJ6_bitCount_0f7a4_22 ?_
  refine am_named (fun n1 en1 => ?_)
  replace h := h n1 en1
  refine am_istore_n (ls' := [(0, .inl n1)]) dJ6_bitCount_0f7a4_23 (by decide) rfl ?_
  refine am_iload_n dJ6_bitCount_0f7a4_24 (List.Mem.head _) ?_
  refine am_iload_n dJ6_bitCount_0f7a4_25 (List.Mem.head _) ?_
  refine am_iconst dJ6_bitCount_0f7a4_26 (by unfold am_rg; omega) ?_
  refine am_iushr dJ6_bitCount_0f7a4_27 ?_
  refine am_iadd dJ6_bitCount_0f7a4_28 ?_
  refine am_ldcwV (n := 252645135) dJ6_bitCount_0f7a4_29 (by decide) wd_1415 (by unfold am_rg; omega) ?_
  refine am_iand dJ6_bitCount_0f7a4_32 ?_
  refine am_istore_n (ls' := [(0, .inl (am_and (am_w (n1 + (am_ushr n1 4))) 252645135))]) dJ6_bitCount_0f7a4_33 (by decide) rfl ?_
  refine am_iload_n dJ6_bitCount_0f7a4_34 (List.Mem.head _) ?_
  refine am_iload_n dJ6_bitCount_0f7a4_35 (List.Mem.head _) ?_
  refine am_bipush dJ6_bitCount_0f7a4_36 (by decide) (by unfold am_rg; omega) ?_
  refine am_iushr dJ6_bitCount_0f7a4_38 ?_
  refine am_iadd dJ6_bitCount_0f7a4_39 ?_
  refine am_named (fun n2 en2 => ?_)
  replace h := h n2 en2
  refine am_istore_n (ls' := [(0, .inl n2)]) dJ6_bitCount_0f7a4_40 (by decide) rfl ?_
  refine am_iload_n dJ6_bitCount_0f7a4_41 (List.Mem.head _) ?_
  refine am_iload_n dJ6_bitCount_0f7a4_42 (List.Mem.head _) ?_
  refine am_bipush dJ6_bitCount_0f7a4_43 (by decide) (by unfold am_rg; omega) ?_
  refine am_iushr dJ6_bitCount_0f7a4_45 ?_
  refine am_iadd dJ6_bitCount_0f7a4_46 ?_
  refine am_istore_n (ls' := [(0, .inl (am_w (n2 + (am_ushr n2 16))))]) dJ6_bitCount_0f7a4_47 (by decide) rfl ?_
  refine am_iload_n dJ6_bitCount_0f7a4_48 (List.Mem.head _) ?_
  refine am_bipush dJ6_bitCount_0f7a4_49 (by decide) (by unfold am_rg; omega) ?_
  refine am_iand dJ6_bitCount_0f7a4_51 ?_
  exact am_ret (r := some (.inl (am_and (am_w (n2 + (am_ushr n2 16))) 63))) dJ6_bitCount_0f7a4_52 (Or.inl rfl) rfl h
