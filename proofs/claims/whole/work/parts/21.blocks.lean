-- MourningHouseModel.quarrel(II)I
theorem dX12_quarrel_0 : decode mX12_quarrel.2.1 0 = .ok (.iload_n 1, 1) := by decide +kernel
theorem dX12_quarrel_1 : decode mX12_quarrel.2.1 1 = .ok (.iconst 0, 1) := by decide +kernel
theorem dX12_quarrel_2 : decode mX12_quarrel.2.1 2 = .ok (.aload_n 0, 1) := by decide +kernel
theorem dX12_quarrel_3 : decode mX12_quarrel.2.1 3 = .ok (.getfield 435, 3) := by decide +kernel
theorem dX12_quarrel_6 : decode mX12_quarrel.2.1 6 = .ok (.iconst 1, 1) := by decide +kernel
theorem dX12_quarrel_7 : decode mX12_quarrel.2.1 7 = .ok (.isub, 1) := by decide +kernel
theorem dX12_quarrel_8 : decode mX12_quarrel.2.1 8 = .ok (.invokestatic 318, 3) := by decide +kernel
theorem dX12_quarrel_11 : decode mX12_quarrel.2.1 11 = .ok (.ifCond .ne 5, 3) := by decide +kernel
theorem dX12_quarrel_14 : decode mX12_quarrel.2.1 14 = .ok (.iconst (-1), 1) := by decide +kernel
theorem dX12_quarrel_15 : decode mX12_quarrel.2.1 15 = .ok (.ireturn, 1) := by decide +kernel
theorem dX12_quarrel_16 : decode mX12_quarrel.2.1 16 = .ok (.iconst 0, 1) := by decide +kernel
theorem dX12_quarrel_17 : decode mX12_quarrel.2.1 17 = .ok (.istore_n 3, 1) := by decide +kernel
theorem dX12_quarrel_18 : decode mX12_quarrel.2.1 18 = .ok (.iconst 0, 1) := by decide +kernel
theorem dX12_quarrel_19 : decode mX12_quarrel.2.1 19 = .ok (.istore 4, 2) := by decide +kernel
theorem dX12_quarrel_21 : decode mX12_quarrel.2.1 21 = .ok (.iload 4, 2) := by decide +kernel
theorem dX12_quarrel_23 : decode mX12_quarrel.2.1 23 = .ok (.aload_n 0, 1) := by decide +kernel
theorem dX12_quarrel_24 : decode mX12_quarrel.2.1 24 = .ok (.getfield 17, 3) := by decide +kernel
theorem dX12_quarrel_27 : decode mX12_quarrel.2.1 27 = .ok (.iload_n 1, 1) := by decide +kernel
theorem dX12_quarrel_28 : decode mX12_quarrel.2.1 28 = .ok (.iaload, 1) := by decide +kernel
theorem dX12_quarrel_29 : decode mX12_quarrel.2.1 29 = .ok (.if_icmp .ge 76, 3) := by decide +kernel
theorem dX12_quarrel_32 : decode mX12_quarrel.2.1 32 = .ok (.iload 4, 2) := by decide +kernel
theorem dX12_quarrel_34 : decode mX12_quarrel.2.1 34 = .ok (.iconst 1, 1) := by decide +kernel
theorem dX12_quarrel_35 : decode mX12_quarrel.2.1 35 = .ok (.iadd, 1) := by decide +kernel
theorem dX12_quarrel_36 : decode mX12_quarrel.2.1 36 = .ok (.istore 5, 2) := by decide +kernel
theorem dX12_quarrel_38 : decode mX12_quarrel.2.1 38 = .ok (.iload 5, 2) := by decide +kernel
theorem dX12_quarrel_40 : decode mX12_quarrel.2.1 40 = .ok (.aload_n 0, 1) := by decide +kernel
theorem dX12_quarrel_41 : decode mX12_quarrel.2.1 41 = .ok (.getfield 17, 3) := by decide +kernel
theorem dX12_quarrel_44 : decode mX12_quarrel.2.1 44 = .ok (.iload_n 1, 1) := by decide +kernel
theorem dX12_quarrel_45 : decode mX12_quarrel.2.1 45 = .ok (.iaload, 1) := by decide +kernel
theorem dX12_quarrel_46 : decode mX12_quarrel.2.1 46 = .ok (.if_icmp .ge 53, 3) := by decide +kernel
theorem dX12_quarrel_49 : decode mX12_quarrel.2.1 49 = .ok (.aload_n 0, 1) := by decide +kernel
theorem dX12_quarrel_50 : decode mX12_quarrel.2.1 50 = .ok (.iload_n 1, 1) := by decide +kernel
theorem dX12_quarrel_51 : decode mX12_quarrel.2.1 51 = .ok (.iload 4, 2) := by decide +kernel
theorem dX12_quarrel_53 : decode mX12_quarrel.2.1 53 = .ok (.iload 5, 2) := by decide +kernel
theorem dX12_quarrel_55 : decode mX12_quarrel.2.1 55 = .ok (.invokevirtual 672, 3) := by decide +kernel
theorem dX12_quarrel_58 : decode mX12_quarrel.2.1 58 = .ok (.ifCond .eq 35, 3) := by decide +kernel
theorem dX12_quarrel_61 : decode mX12_quarrel.2.1 61 = .ok (.aload_n 0, 1) := by decide +kernel
theorem dX12_quarrel_62 : decode mX12_quarrel.2.1 62 = .ok (.iload_n 1, 1) := by decide +kernel
theorem dX12_quarrel_63 : decode mX12_quarrel.2.1 63 = .ok (.iload 4, 2) := by decide +kernel
theorem dX12_quarrel_65 : decode mX12_quarrel.2.1 65 = .ok (.iload 5, 2) := by decide +kernel
theorem dX12_quarrel_67 : decode mX12_quarrel.2.1 67 = .ok (.invokevirtual 675, 3) := by decide +kernel
theorem dX12_quarrel_70 : decode mX12_quarrel.2.1 70 = .ok (.ifCond .eq 6, 3) := by decide +kernel
theorem dX12_quarrel_73 : decode mX12_quarrel.2.1 73 = .ok (.goto 20, 3) := by decide +kernel
theorem dX12_quarrel_76 : decode mX12_quarrel.2.1 76 = .ok (.iload_n 3, 1) := by decide +kernel
theorem dX12_quarrel_77 : decode mX12_quarrel.2.1 77 = .ok (.iload_n 2, 1) := by decide +kernel
theorem dX12_quarrel_78 : decode mX12_quarrel.2.1 78 = .ok (.if_icmp .ne 12, 3) := by decide +kernel
theorem dX12_quarrel_81 : decode mX12_quarrel.2.1 81 = .ok (.bipush 100, 2) := by decide +kernel
theorem dX12_quarrel_83 : decode mX12_quarrel.2.1 83 = .ok (.iload 4, 2) := by decide +kernel
theorem dX12_quarrel_85 : decode mX12_quarrel.2.1 85 = .ok (.imul, 1) := by decide +kernel
theorem dX12_quarrel_86 : decode mX12_quarrel.2.1 86 = .ok (.iload 5, 2) := by decide +kernel
theorem dX12_quarrel_88 : decode mX12_quarrel.2.1 88 = .ok (.iadd, 1) := by decide +kernel
theorem dX12_quarrel_89 : decode mX12_quarrel.2.1 89 = .ok (.ireturn, 1) := by decide +kernel
theorem dX12_quarrel_90 : decode mX12_quarrel.2.1 90 = .ok (.iinc 3 1, 3) := by decide +kernel
theorem dX12_quarrel_93 : decode mX12_quarrel.2.1 93 = .ok (.iinc 5 1, 3) := by decide +kernel
theorem dX12_quarrel_96 : decode mX12_quarrel.2.1 96 = .ok (.goto (-58), 3) := by decide +kernel
theorem dX12_quarrel_99 : decode mX12_quarrel.2.1 99 = .ok (.iinc 4 1, 3) := by decide +kernel
theorem dX12_quarrel_102 : decode mX12_quarrel.2.1 102 = .ok (.goto (-81), 3) := by decide +kernel
theorem dX12_quarrel_105 : decode mX12_quarrel.2.1 105 = .ok (.iconst (-1), 1) := by decide +kernel
theorem dX12_quarrel_106 : decode mX12_quarrel.2.1 106 = .ok (.ireturn, 1) := by decide +kernel
theorem bX12_quarrel_0 {SC : Nat → Nat} {X : mh_X} {d : Nat} {Q : Option am_V → am_W → Prop} {bc bs : Nat} {w : am_W} {x1 : Int} {x2 : Int}
    (h : (((¬ x1 < (0 : Int) ∧ (¬ (am_w ((w.1 9 0 21) - 1)) < x1)) → am_A (mh_G X) SC (d + 2) mX12_quarrel Q 21 [(0, .inr (.inr (some (9, 0)))), (1, .inl x1), (2, .inl x2), (3, .inl 0), (4, .inl 0)] [] w bc bs) ∧ (¬ (¬ x1 < (0 : Int) ∧ (¬ (am_w ((w.1 9 0 21) - 1)) < x1)) → Q (some (.inl (-1))) w))) :
    am_A (mh_G X) SC (d + 2) mX12_quarrel Q 0 [(0, .inr (.inr (some (9, 0)))), (1, .inl x1), (2, .inl x2)] [] w bc bs := by
  refine am_iload_n dX12_quarrel_0 (List.Mem.tail _ (List.Mem.head _)) ?_
  refine am_iconst dX12_quarrel_1 (by unfold am_rg; omega) ?_
  refine am_aload_n dX12_quarrel_2 (List.Mem.head _) ?_
  refine am_getf (f := 21) (v := .inl (w.1 9 0 21)) dX12_quarrel_3 hc_10 (by decide) wd_1570 (by decide) rfl rfl ?_
  refine am_iconst dX12_quarrel_6 (by unfold am_rg; omega) ?_
  refine am_isub dX12_quarrel_7 ?_
  refine am_calls (d' := d + 1) (kc := 0) (ks := 0) (as := [.inl x1, .inl 0, .inl (am_w ((w.1 9 0 21) - 1))]) dX12_quarrel_8 wc_X12_in wd_1859 wd_1860 wd_122 ds_X12_in (by decide) (by omega) (Nat.le_of_ble_eq_true rfl) (Nat.zero_le _) (Nat.zero_le _) rfl (sX12_in (d := d + 0) (x0 := x1) (x1 := 0) (x2 := (am_w ((w.1 9 0 21) - 1)))  ?_)
  show am_A (mh_G X) SC (d + 2) mX12_quarrel Q 11 [(0, .inr (.inr (some (9, 0)))), (1, .inl x1), (2, .inl x2)] [.inl (if (¬ x1 < (0 : Int) ∧ (¬ (am_w ((w.1 9 0 21) - 1)) < x1)) then 1 else 0)] w bc bs
  refine am_ifne (tgt := 16) dX12_quarrel_11 (by decide) (fun c1 => ?_) (fun c1 => ?_)
  · replace c1 := am_bne1 c1
    replace h := h.1 c1
    refine am_iconst dX12_quarrel_16 (by unfold am_rg; omega) ?_
    refine am_istore_n (ls' := [(3, .inl 0), (0, .inr (.inr (some (9, 0)))), (1, .inl x1), (2, .inl x2)]) dX12_quarrel_17 (by decide) rfl ?_
    refine am_iconst dX12_quarrel_18 (by unfold am_rg; omega) ?_
    refine am_istore (ls' := [(4, .inl 0), (3, .inl 0), (0, .inr (.inr (some (9, 0)))), (1, .inl x1), (2, .inl x2)]) dX12_quarrel_19 (by decide) rfl ?_
    exact am_sub [2, 3, 4, 1, 0] rfl h
  · replace c1 := am_bne2 c1
    replace h := h.2 c1
    refine am_iconst dX12_quarrel_14 (by unfold am_rg; omega) ?_
    exact am_ret (r := some (.inl (-1))) dX12_quarrel_15 (Or.inl rfl) rfl h
theorem bX12_quarrel_21 {SC : Nat → Nat} {X : mh_X} {d : Nat} {Q : Option am_V → am_W → Prop} {bc bs : Nat} {w : am_W} {x1 : Int} {x2 : Int} {x3 : Int} {x4 : Int}
    (h : (0 ≤ x1 ∧ (x1 < 7 ∧ (((w.1 68 0 x1.toNat) ≤ x4 → Q (some (.inl (-1))) w) ∧ (¬ (w.1 68 0 x1.toNat) ≤ x4 → am_A (mh_G X) SC (d + 2) mX12_quarrel Q 38 [(0, .inr (.inr (some (9, 0)))), (1, .inl x1), (2, .inl x2), (3, .inl x3), (4, .inl x4), (5, .inl (am_w (x4 + 1)))] [] w bc bs))))) :
    am_A (mh_G X) SC (d + 2) mX12_quarrel Q 21 [(0, .inr (.inr (some (9, 0)))), (1, .inl x1), (2, .inl x2), (3, .inl x3), (4, .inl x4)] [] w bc bs := by
  refine am_iload dX12_quarrel_21 (List.Mem.tail _ (List.Mem.tail _ (List.Mem.tail _ (List.Mem.tail _ (List.Mem.head _))))) ?_
  refine am_aload_n dX12_quarrel_23 (List.Mem.head _) ?_
  refine am_getf (f := 6) (v := .inr (.inr (some (68, 0)))) dX12_quarrel_24 hc_10 (by decide) wd_1555 (by decide) rfl rfl ?_
  refine am_iload_n dX12_quarrel_27 (List.Mem.tail _ (List.Mem.head _)) ?_
  have o1 := h.1
  replace h := h.2
  have o2 := h.1
  replace h := h.2
  refine am_iaload (v := (w.1 68 0 x1.toNat)) dX12_quarrel_28 (by decide) rfl o1 o2 rfl ?_
  refine am_icmpge (tgt := 105) dX12_quarrel_29 (by decide) (fun c3 => ?_) (fun c3 => ?_)
  · replace h := h.1 c3
    refine am_iconst dX12_quarrel_105 (by unfold am_rg; omega) ?_
    exact am_ret (r := some (.inl (-1))) dX12_quarrel_106 (Or.inl rfl) rfl h
  · replace h := h.2 c3
    refine am_iload dX12_quarrel_32 (List.Mem.tail _ (List.Mem.tail _ (List.Mem.tail _ (List.Mem.tail _ (List.Mem.head _))))) ?_
    refine am_iconst dX12_quarrel_34 (by unfold am_rg; omega) ?_
    refine am_iadd dX12_quarrel_35 ?_
    refine am_istore (ls' := [(5, .inl (am_w (x4 + 1))), (0, .inr (.inr (some (9, 0)))), (1, .inl x1), (2, .inl x2), (3, .inl x3), (4, .inl x4)]) dX12_quarrel_36 (by decide) rfl ?_
    exact am_sub [1, 2, 3, 4, 5, 0] rfl h
theorem bX12_quarrel_38 {SC : Nat → Nat} {X : mh_X} {d : Nat} {Q : Option am_V → am_W → Prop} {bc bs : Nat} {w : am_W} {x1 : Int} {x2 : Int} {x3 : Int} {x4 : Int} {x5 : Int}
    (h : (0 ≤ x1 ∧ (x1 < 7 ∧ (((w.1 68 0 x1.toNat) ≤ x5 → am_A (mh_G X) SC (d + 2) mX12_quarrel Q 21 [(0, .inr (.inr (some (9, 0)))), (1, .inl x1), (2, .inl x2), (3, .inl x3), (4, .inl (am_w (x4 + 1)))] [] w bc bs) ∧ (¬ (w.1 68 0 x1.toNat) ≤ x5 → am_M (mh_G X) SC (d + 1) 0 0 mX12_areOne [.inr (.inr (some (9, 0))), .inl x1, .inl x4, .inl x5] w (fun r w1 => am_A (mh_G X) SC (d + 2) mX12_quarrel Q 58 [(0, .inr (.inr (some (9, 0)))), (1, .inl x1), (2, .inl x2), (3, .inl x3), (4, .inl x4), (5, .inl x5)] (r.toList ++ []) w1 bc bs)))))) :
    am_A (mh_G X) SC (d + 2) mX12_quarrel Q 38 [(0, .inr (.inr (some (9, 0)))), (1, .inl x1), (2, .inl x2), (3, .inl x3), (4, .inl x4), (5, .inl x5)] [] w bc bs := by
  refine am_iload dX12_quarrel_38 (List.Mem.tail _ (List.Mem.tail _ (List.Mem.tail _ (List.Mem.tail _ (List.Mem.tail _ (List.Mem.head _)))))) ?_
  refine am_aload_n dX12_quarrel_40 (List.Mem.head _) ?_
  refine am_getf (f := 6) (v := .inr (.inr (some (68, 0)))) dX12_quarrel_41 hc_10 (by decide) wd_1555 (by decide) rfl rfl ?_
  refine am_iload_n dX12_quarrel_44 (List.Mem.tail _ (List.Mem.head _)) ?_
  have o1 := h.1
  replace h := h.2
  have o2 := h.1
  replace h := h.2
  refine am_iaload (v := (w.1 68 0 x1.toNat)) dX12_quarrel_45 (by decide) rfl o1 o2 rfl ?_
  refine am_icmpge (tgt := 99) dX12_quarrel_46 (by decide) (fun c3 => ?_) (fun c3 => ?_)
  · replace h := h.1 c3
    refine am_iinc (ls' := [(4, .inl (am_w (x4 + 1))), (0, .inr (.inr (some (9, 0)))), (1, .inl x1), (2, .inl x2), (3, .inl x3), (5, .inl x5)]) dX12_quarrel_99 (List.Mem.tail _ (List.Mem.tail _ (List.Mem.tail _ (List.Mem.tail _ (List.Mem.head _))))) (by decide) rfl ?_
    refine am_goto (tgt := 21) dX12_quarrel_102 (by decide) ?_
    exact am_sub [1, 2, 3, 4, 0] rfl h
  · replace h := h.2 c3
    refine am_aload_n dX12_quarrel_49 (List.Mem.head _) ?_
    refine am_iload_n dX12_quarrel_50 (List.Mem.tail _ (List.Mem.head _)) ?_
    refine am_iload dX12_quarrel_51 (List.Mem.tail _ (List.Mem.tail _ (List.Mem.tail _ (List.Mem.tail _ (List.Mem.head _))))) ?_
    refine am_iload dX12_quarrel_53 (List.Mem.tail _ (List.Mem.tail _ (List.Mem.tail _ (List.Mem.tail _ (List.Mem.tail _ (List.Mem.head _)))))) ?_
    exact am_callv (d' := d + 1) (kc := 0) (ks := 0) (as := [.inl x1, .inl x4, .inl x5]) dX12_quarrel_55 wc_X12_areOne wd_2483 wd_2485 wd_109 wd_122 ds_X12_areOne (by decide) (by omega) (Nat.le_of_ble_eq_true rfl) (Nat.zero_le _) (Nat.zero_le _) hc_10 (by decide) rfl rfl h
theorem bX12_quarrel_58 {SC : Nat → Nat} {X : mh_X} {d : Nat} {Q : Option am_V → am_W → Prop} {bc bs : Nat} {w : am_W} {x1 : Int} {x2 : Int} {x3 : Int} {x4 : Int} {x5 : Int} {xs0 : Int}
    (h : ((xs0 = 0 → am_A (mh_G X) SC (d + 2) mX12_quarrel Q 93 [(0, .inr (.inr (some (9, 0)))), (1, .inl x1), (2, .inl x2), (3, .inl x3), (4, .inl x4), (5, .inl x5)] [] w bc bs) ∧ (¬ xs0 = 0 → am_M (mh_G X) SC (d + 1) 0 0 mX12_areAlike [.inr (.inr (some (9, 0))), .inl x1, .inl x4, .inl x5] w (fun r w1 => am_A (mh_G X) SC (d + 2) mX12_quarrel Q 70 [(0, .inr (.inr (some (9, 0)))), (1, .inl x1), (2, .inl x2), (3, .inl x3), (4, .inl x4), (5, .inl x5)] (r.toList ++ []) w1 bc bs)))) :
    am_A (mh_G X) SC (d + 2) mX12_quarrel Q 58 [(0, .inr (.inr (some (9, 0)))), (1, .inl x1), (2, .inl x2), (3, .inl x3), (4, .inl x4), (5, .inl x5)] [.inl xs0] w bc bs := by
  refine am_ifeq (tgt := 93) dX12_quarrel_58 (by decide) (fun c1 => ?_) (fun c1 => ?_)
  · replace h := h.1 c1
    exact h
  · replace h := h.2 c1
    refine am_aload_n dX12_quarrel_61 (List.Mem.head _) ?_
    refine am_iload_n dX12_quarrel_62 (List.Mem.tail _ (List.Mem.head _)) ?_
    refine am_iload dX12_quarrel_63 (List.Mem.tail _ (List.Mem.tail _ (List.Mem.tail _ (List.Mem.tail _ (List.Mem.head _))))) ?_
    refine am_iload dX12_quarrel_65 (List.Mem.tail _ (List.Mem.tail _ (List.Mem.tail _ (List.Mem.tail _ (List.Mem.tail _ (List.Mem.head _)))))) ?_
    exact am_callv (d' := d + 1) (kc := 0) (ks := 0) (as := [.inl x1, .inl x4, .inl x5]) dX12_quarrel_67 wc_X12_areAlike wd_2487 wd_2489 wd_110 wd_122 ds_X12_areAlike (by decide) (by omega) (Nat.le_of_ble_eq_true rfl) (Nat.zero_le _) (Nat.zero_le _) hc_10 (by decide) rfl rfl h
theorem bX12_quarrel_93 {SC : Nat → Nat} {X : mh_X} {d : Nat} {Q : Option am_V → am_W → Prop} {bc bs : Nat} {w : am_W} {x1 : Int} {x2 : Int} {x3 : Int} {x4 : Int} {x5 : Int}
    (h : am_A (mh_G X) SC (d + 2) mX12_quarrel Q 38 [(0, .inr (.inr (some (9, 0)))), (1, .inl x1), (2, .inl x2), (3, .inl x3), (4, .inl x4), (5, .inl (am_w (x5 + 1)))] [] w bc bs) :
    am_A (mh_G X) SC (d + 2) mX12_quarrel Q 93 [(0, .inr (.inr (some (9, 0)))), (1, .inl x1), (2, .inl x2), (3, .inl x3), (4, .inl x4), (5, .inl x5)] [] w bc bs := by
  refine am_iinc (ls' := [(5, .inl (am_w (x5 + 1))), (0, .inr (.inr (some (9, 0)))), (1, .inl x1), (2, .inl x2), (3, .inl x3), (4, .inl x4)]) dX12_quarrel_93 (List.Mem.tail _ (List.Mem.tail _ (List.Mem.tail _ (List.Mem.tail _ (List.Mem.tail _ (List.Mem.head _)))))) (by decide) rfl ?_
  refine am_goto (tgt := 38) dX12_quarrel_96 (by decide) ?_
  exact am_sub [1, 2, 3, 4, 5, 0] rfl h
theorem bX12_quarrel_70 {SC : Nat → Nat} {X : mh_X} {d : Nat} {Q : Option am_V → am_W → Prop} {bc bs : Nat} {w : am_W} {x1 : Int} {x2 : Int} {x3 : Int} {x4 : Int} {x5 : Int} {xs0 : Int}
    (h : ((xs0 = 0 → ((¬ x3 = x2 → am_A (mh_G X) SC (d + 2) mX12_quarrel Q 93 [(0, .inr (.inr (some (9, 0)))), (1, .inl x1), (2, .inl x2), (3, .inl (am_w (x3 + 1))), (4, .inl x4), (5, .inl x5)] [] w bc bs) ∧ (x3 = x2 → Q (some (.inl (am_w ((am_w (100 * x4)) + x5)))) w))) ∧ (¬ xs0 = 0 → am_A (mh_G X) SC (d + 2) mX12_quarrel Q 93 [(0, .inr (.inr (some (9, 0)))), (1, .inl x1), (2, .inl x2), (3, .inl x3), (4, .inl x4), (5, .inl x5)] [] w bc bs))) :
    am_A (mh_G X) SC (d + 2) mX12_quarrel Q 70 [(0, .inr (.inr (some (9, 0)))), (1, .inl x1), (2, .inl x2), (3, .inl x3), (4, .inl x4), (5, .inl x5)] [.inl xs0] w bc bs := by
  refine am_ifeq (tgt := 76) dX12_quarrel_70 (by decide) (fun c1 => ?_) (fun c1 => ?_)
  · replace h := h.1 c1
    refine am_iload_n dX12_quarrel_76 (List.Mem.tail _ (List.Mem.tail _ (List.Mem.tail _ (List.Mem.head _)))) ?_
    refine am_iload_n dX12_quarrel_77 (List.Mem.tail _ (List.Mem.tail _ (List.Mem.head _))) ?_
    refine am_icmpne (tgt := 90) dX12_quarrel_78 (by decide) (fun c2 => ?_) (fun c2 => ?_)
    · replace h := h.1 c2
      refine am_iinc (ls' := [(3, .inl (am_w (x3 + 1))), (0, .inr (.inr (some (9, 0)))), (1, .inl x1), (2, .inl x2), (4, .inl x4), (5, .inl x5)]) dX12_quarrel_90 (List.Mem.tail _ (List.Mem.tail _ (List.Mem.tail _ (List.Mem.head _)))) (by decide) rfl ?_
      exact am_sub [1, 2, 3, 0, 4, 5] rfl h
    · replace h := h.2 c2
      refine am_bipush dX12_quarrel_81 (by decide) (by unfold am_rg; omega) ?_
      refine am_iload dX12_quarrel_83 (List.Mem.tail _ (List.Mem.tail _ (List.Mem.tail _ (List.Mem.tail _ (List.Mem.head _))))) ?_
      refine am_imul dX12_quarrel_85 ?_
      refine am_iload dX12_quarrel_86 (List.Mem.tail _ (List.Mem.tail _ (List.Mem.tail _ (List.Mem.tail _ (List.Mem.tail _ (List.Mem.head _)))))) ?_
      refine am_iadd dX12_quarrel_88 ?_
      exact am_ret (r := some (.inl (am_w ((am_w (100 * x4)) + x5)))) dX12_quarrel_89 (Or.inl rfl) rfl h
  · replace h := h.2 c1
    refine am_goto (tgt := 93) dX12_quarrel_73 (by decide) ?_
    exact h
-- MourningHouseModel.worn(II)I
theorem dX12_worn_0 : decode mX12_worn.2.1 0 = .ok (.iload_n 1, 1) := by decide +kernel
theorem dX12_worn_1 : decode mX12_worn.2.1 1 = .ok (.iconst 0, 1) := by decide +kernel
theorem dX12_worn_2 : decode mX12_worn.2.1 2 = .ok (.aload_n 0, 1) := by decide +kernel
theorem dX12_worn_3 : decode mX12_worn.2.1 3 = .ok (.getfield 582, 3) := by decide +kernel
theorem dX12_worn_6 : decode mX12_worn.2.1 6 = .ok (.iconst 1, 1) := by decide +kernel
theorem dX12_worn_7 : decode mX12_worn.2.1 7 = .ok (.isub, 1) := by decide +kernel
theorem dX12_worn_8 : decode mX12_worn.2.1 8 = .ok (.invokestatic 318, 3) := by decide +kernel
theorem dX12_worn_11 : decode mX12_worn.2.1 11 = .ok (.ifCond .ne 5, 3) := by decide +kernel
theorem dX12_worn_14 : decode mX12_worn.2.1 14 = .ok (.iconst (-1), 1) := by decide +kernel
theorem dX12_worn_15 : decode mX12_worn.2.1 15 = .ok (.ireturn, 1) := by decide +kernel
theorem dX12_worn_16 : decode mX12_worn.2.1 16 = .ok (.iload_n 2, 1) := by decide +kernel
theorem dX12_worn_17 : decode mX12_worn.2.1 17 = .ok (.ifCond .ne 12, 3) := by decide +kernel
theorem dX12_worn_20 : decode mX12_worn.2.1 20 = .ok (.aload_n 0, 1) := by decide +kernel
theorem dX12_worn_21 : decode mX12_worn.2.1 21 = .ok (.getfield 237, 3) := by decide +kernel
theorem dX12_worn_24 : decode mX12_worn.2.1 24 = .ok (.iload_n 1, 1) := by decide +kernel
theorem dX12_worn_25 : decode mX12_worn.2.1 25 = .ok (.iaload, 1) := by decide +kernel
theorem dX12_worn_26 : decode mX12_worn.2.1 26 = .ok (.goto 39, 3) := by decide +kernel
theorem dX12_worn_29 : decode mX12_worn.2.1 29 = .ok (.iload_n 2, 1) := by decide +kernel
theorem dX12_worn_30 : decode mX12_worn.2.1 30 = .ok (.iconst 1, 1) := by decide +kernel
theorem dX12_worn_31 : decode mX12_worn.2.1 31 = .ok (.if_icmp .ne 12, 3) := by decide +kernel
theorem dX12_worn_34 : decode mX12_worn.2.1 34 = .ok (.aload_n 0, 1) := by decide +kernel
theorem dX12_worn_35 : decode mX12_worn.2.1 35 = .ok (.getfield 240, 3) := by decide +kernel
theorem dX12_worn_38 : decode mX12_worn.2.1 38 = .ok (.iload_n 1, 1) := by decide +kernel
theorem dX12_worn_39 : decode mX12_worn.2.1 39 = .ok (.iaload, 1) := by decide +kernel
theorem dX12_worn_40 : decode mX12_worn.2.1 40 = .ok (.goto 25, 3) := by decide +kernel
theorem dX12_worn_43 : decode mX12_worn.2.1 43 = .ok (.iload_n 2, 1) := by decide +kernel
theorem dX12_worn_44 : decode mX12_worn.2.1 44 = .ok (.iconst 2, 1) := by decide +kernel
theorem dX12_worn_45 : decode mX12_worn.2.1 45 = .ok (.if_icmp .ne 19, 3) := by decide +kernel
theorem dX12_worn_48 : decode mX12_worn.2.1 48 = .ok (.aload_n 0, 1) := by decide +kernel
theorem dX12_worn_49 : decode mX12_worn.2.1 49 = .ok (.iload_n 1, 1) := by decide +kernel
theorem dX12_worn_50 : decode mX12_worn.2.1 50 = .ok (.invokevirtual 591, 3) := by decide +kernel
theorem dX12_worn_53 : decode mX12_worn.2.1 53 = .ok (.ifCond .eq 7, 3) := by decide +kernel
theorem dX12_worn_56 : decode mX12_worn.2.1 56 = .ok (.iconst 0, 1) := by decide +kernel
theorem dX12_worn_57 : decode mX12_worn.2.1 57 = .ok (.goto 8, 3) := by decide +kernel
theorem dX12_worn_60 : decode mX12_worn.2.1 60 = .ok (.iconst 1, 1) := by decide +kernel
theorem dX12_worn_61 : decode mX12_worn.2.1 61 = .ok (.goto 4, 3) := by decide +kernel
theorem dX12_worn_64 : decode mX12_worn.2.1 64 = .ok (.iconst (-1), 1) := by decide +kernel
theorem dX12_worn_65 : decode mX12_worn.2.1 65 = .ok (.ireturn, 1) := by decide +kernel
theorem bX12_worn_0 {SC : Nat → Nat} {X : mh_X} {d : Nat} {Q : Option am_V → am_W → Prop} {bc bs : Nat} {w : am_W} {x1 : Int} {x2 : Int}
    (h : (((¬ x1 < (0 : Int) ∧ (¬ (am_w ((w.1 9 0 75) - 1)) < x1)) → ((¬ x2 = 0 → ((¬ x2 = 1 → ((¬ x2 = 2 → Q (some (.inl (-1))) w) ∧ (x2 = 2 → am_M (mh_G X) SC (d + 1) 0 0 mX12_hasTask [.inr (.inr (some (9, 0))), .inl x1] w (fun r w1 => am_A (mh_G X) SC (d + 2) mX12_worn Q 53 [(0, .inr (.inr (some (9, 0)))), (1, .inl x1), (2, .inl x2)] (r.toList ++ []) w1 bc bs)))) ∧ (x2 = 1 → (0 ≤ x1 ∧ (x1 < 40 ∧ Q (some (.inl (w.1 127 0 x1.toNat))) w))))) ∧ (x2 = 0 → (0 ≤ x1 ∧ (x1 < 40 ∧ Q (some (.inl (w.1 126 0 x1.toNat))) w))))) ∧ (¬ (¬ x1 < (0 : Int) ∧ (¬ (am_w ((w.1 9 0 75) - 1)) < x1)) → Q (some (.inl (-1))) w))) :
    am_A (mh_G X) SC (d + 2) mX12_worn Q 0 [(0, .inr (.inr (some (9, 0)))), (1, .inl x1), (2, .inl x2)] [] w bc bs := by
  refine am_iload_n dX12_worn_0 (List.Mem.tail _ (List.Mem.head _)) ?_
  refine am_iconst dX12_worn_1 (by unfold am_rg; omega) ?_
  refine am_aload_n dX12_worn_2 (List.Mem.head _) ?_
  refine am_getf (f := 75) (v := .inl (w.1 9 0 75)) dX12_worn_3 hc_10 (by decide) wd_1624 (by decide) rfl rfl ?_
  refine am_iconst dX12_worn_6 (by unfold am_rg; omega) ?_
  refine am_isub dX12_worn_7 ?_
  refine am_calls (d' := d + 1) (kc := 0) (ks := 0) (as := [.inl x1, .inl 0, .inl (am_w ((w.1 9 0 75) - 1))]) dX12_worn_8 wc_X12_in wd_1859 wd_1860 wd_122 ds_X12_in (by decide) (by omega) (Nat.le_of_ble_eq_true rfl) (Nat.zero_le _) (Nat.zero_le _) rfl (sX12_in (d := d + 0) (x0 := x1) (x1 := 0) (x2 := (am_w ((w.1 9 0 75) - 1)))  ?_)
  show am_A (mh_G X) SC (d + 2) mX12_worn Q 11 [(0, .inr (.inr (some (9, 0)))), (1, .inl x1), (2, .inl x2)] [.inl (if (¬ x1 < (0 : Int) ∧ (¬ (am_w ((w.1 9 0 75) - 1)) < x1)) then 1 else 0)] w bc bs
  refine am_ifne (tgt := 16) dX12_worn_11 (by decide) (fun c1 => ?_) (fun c1 => ?_)
  · replace c1 := am_bne1 c1
    replace h := h.1 c1
    refine am_iload_n dX12_worn_16 (List.Mem.tail _ (List.Mem.tail _ (List.Mem.head _))) ?_
    refine am_ifne (tgt := 29) dX12_worn_17 (by decide) (fun c2 => ?_) (fun c2 => ?_)
    · replace h := h.1 c2
      refine am_iload_n dX12_worn_29 (List.Mem.tail _ (List.Mem.tail _ (List.Mem.head _))) ?_
      refine am_iconst dX12_worn_30 (by unfold am_rg; omega) ?_
      refine am_icmpne (tgt := 43) dX12_worn_31 (by decide) (fun c3 => ?_) (fun c3 => ?_)
      · replace h := h.1 c3
        refine am_iload_n dX12_worn_43 (List.Mem.tail _ (List.Mem.tail _ (List.Mem.head _))) ?_
        refine am_iconst dX12_worn_44 (by unfold am_rg; omega) ?_
        refine am_icmpne (tgt := 64) dX12_worn_45 (by decide) (fun c4 => ?_) (fun c4 => ?_)
        · replace h := h.1 c4
          refine am_iconst dX12_worn_64 (by unfold am_rg; omega) ?_
          exact am_ret (r := some (.inl (-1))) dX12_worn_65 (Or.inl rfl) rfl h
        · replace h := h.2 c4
          refine am_aload_n dX12_worn_48 (List.Mem.head _) ?_
          refine am_iload_n dX12_worn_49 (List.Mem.tail _ (List.Mem.head _)) ?_
          exact am_callv (d' := d + 1) (kc := 0) (ks := 0) (as := [.inl x1]) dX12_worn_50 wc_X12_hasTask wd_2202 wd_2204 wd_98 wd_122 ds_X12_hasTask (by decide) (by omega) (Nat.le_of_ble_eq_true rfl) (Nat.zero_le _) (Nat.zero_le _) hc_10 (by decide) rfl rfl h
      · replace h := h.2 c3
        refine am_aload_n dX12_worn_34 (List.Mem.head _) ?_
        refine am_getf (f := 73) (v := .inr (.inr (some (127, 0)))) dX12_worn_35 hc_10 (by decide) wd_1622 (by decide) rfl rfl ?_
        refine am_iload_n dX12_worn_38 (List.Mem.tail _ (List.Mem.head _)) ?_
        have o5 := h.1
        replace h := h.2
        have o6 := h.1
        replace h := h.2
        refine am_iaload (v := (w.1 127 0 x1.toNat)) dX12_worn_39 (by decide) rfl o5 o6 rfl ?_
        refine am_goto (tgt := 65) dX12_worn_40 (by decide) ?_
        exact am_ret (r := some (.inl (w.1 127 0 x1.toNat))) dX12_worn_65 (Or.inl rfl) rfl h
    · replace h := h.2 c2
      refine am_aload_n dX12_worn_20 (List.Mem.head _) ?_
      refine am_getf (f := 72) (v := .inr (.inr (some (126, 0)))) dX12_worn_21 hc_10 (by decide) wd_1621 (by decide) rfl rfl ?_
      refine am_iload_n dX12_worn_24 (List.Mem.tail _ (List.Mem.head _)) ?_
      have o7 := h.1
      replace h := h.2
      have o8 := h.1
      replace h := h.2
      refine am_iaload (v := (w.1 126 0 x1.toNat)) dX12_worn_25 (by decide) rfl o7 o8 rfl ?_
      refine am_goto (tgt := 65) dX12_worn_26 (by decide) ?_
      exact am_ret (r := some (.inl (w.1 126 0 x1.toNat))) dX12_worn_65 (Or.inl rfl) rfl h
  · replace c1 := am_bne2 c1
    replace h := h.2 c1
    refine am_iconst dX12_worn_14 (by unfold am_rg; omega) ?_
    exact am_ret (r := some (.inl (-1))) dX12_worn_15 (Or.inl rfl) rfl h
theorem bX12_worn_53 {SC : Nat → Nat} {X : mh_X} {d : Nat} {Q : Option am_V → am_W → Prop} {bc bs : Nat} {w : am_W} {x1 : Int} {x2 : Int} {xs0 : Int}
    (h : ((xs0 = 0 → Q (some (.inl 1)) w) ∧ (¬ xs0 = 0 → Q (some (.inl 0)) w))) :
    am_A (mh_G X) SC (d + 2) mX12_worn Q 53 [(0, .inr (.inr (some (9, 0)))), (1, .inl x1), (2, .inl x2)] [.inl xs0] w bc bs := by
  refine am_ifeq (tgt := 60) dX12_worn_53 (by decide) (fun c1 => ?_) (fun c1 => ?_)
  · replace h := h.1 c1
    refine am_iconst dX12_worn_60 (by unfold am_rg; omega) ?_
    refine am_goto (tgt := 65) dX12_worn_61 (by decide) ?_
    exact am_ret (r := some (.inl 1)) dX12_worn_65 (Or.inl rfl) rfl h
  · replace h := h.2 c1
    refine am_iconst dX12_worn_56 (by unfold am_rg; omega) ?_
    refine am_goto (tgt := 65) dX12_worn_57 (by decide) ?_
    exact am_ret (r := some (.inl 0)) dX12_worn_65 (Or.inl rfl) rfl h
-- MourningHouseModel.told(II)I
theorem dX12_told_0 : decode mX12_told.2.1 0 = .ok (.aload_n 0, 1) := by decide +kernel
theorem dX12_told_1 : decode mX12_told.2.1 1 = .ok (.iload_n 1, 1) := by decide +kernel
theorem dX12_told_2 : decode mX12_told.2.1 2 = .ok (.invokevirtual 453, 3) := by decide +kernel
theorem dX12_told_5 : decode mX12_told.2.1 5 = .ok (.ifCond .ne 7, 3) := by decide +kernel
theorem dX12_told_8 : decode mX12_told.2.1 8 = .ok (.ldc_w 325, 3) := by decide +kernel
theorem dX12_told_11 : decode mX12_told.2.1 11 = .ok (.ireturn, 1) := by decide +kernel
theorem dX12_told_12 : decode mX12_told.2.1 12 = .ok (.iload_n 2, 1) := by decide +kernel
theorem dX12_told_13 : decode mX12_told.2.1 13 = .ok (.tableswitch 142 0 6 #[43, 50, 57, 80, 103, 110, 117], 43) := by decide +kernel
theorem dX12_told_56 : decode mX12_told.2.1 56 = .ok (.aload_n 0, 1) := by decide +kernel
theorem dX12_told_57 : decode mX12_told.2.1 57 = .ok (.getfield 151, 3) := by decide +kernel
theorem dX12_told_60 : decode mX12_told.2.1 60 = .ok (.iload_n 1, 1) := by decide +kernel
theorem dX12_told_61 : decode mX12_told.2.1 61 = .ok (.iaload, 1) := by decide +kernel
theorem dX12_told_62 : decode mX12_told.2.1 62 = .ok (.ireturn, 1) := by decide +kernel
theorem dX12_told_63 : decode mX12_told.2.1 63 = .ok (.aload_n 0, 1) := by decide +kernel
theorem dX12_told_64 : decode mX12_told.2.1 64 = .ok (.getfield 154, 3) := by decide +kernel
theorem dX12_told_67 : decode mX12_told.2.1 67 = .ok (.iload_n 1, 1) := by decide +kernel
theorem dX12_told_68 : decode mX12_told.2.1 68 = .ok (.iaload, 1) := by decide +kernel
theorem dX12_told_69 : decode mX12_told.2.1 69 = .ok (.ireturn, 1) := by decide +kernel
theorem dX12_told_70 : decode mX12_told.2.1 70 = .ok (.aload_n 0, 1) := by decide +kernel
theorem dX12_told_71 : decode mX12_told.2.1 71 = .ok (.getfield 157, 3) := by decide +kernel
theorem dX12_told_74 : decode mX12_told.2.1 74 = .ok (.iload_n 1, 1) := by decide +kernel
theorem dX12_told_75 : decode mX12_told.2.1 75 = .ok (.iaload, 1) := by decide +kernel
theorem dX12_told_76 : decode mX12_told.2.1 76 = .ok (.iconst (-1), 1) := by decide +kernel
theorem dX12_told_77 : decode mX12_told.2.1 77 = .ok (.if_icmp .ne 9, 3) := by decide +kernel
theorem dX12_told_80 : decode mX12_told.2.1 80 = .ok (.ldc_w 325, 3) := by decide +kernel
theorem dX12_told_83 : decode mX12_told.2.1 83 = .ok (.goto 9, 3) := by decide +kernel
theorem dX12_told_86 : decode mX12_told.2.1 86 = .ok (.aload_n 0, 1) := by decide +kernel
theorem dX12_told_87 : decode mX12_told.2.1 87 = .ok (.getfield 157, 3) := by decide +kernel
theorem dX12_told_90 : decode mX12_told.2.1 90 = .ok (.iload_n 1, 1) := by decide +kernel
theorem dX12_told_91 : decode mX12_told.2.1 91 = .ok (.iaload, 1) := by decide +kernel
theorem dX12_told_92 : decode mX12_told.2.1 92 = .ok (.ireturn, 1) := by decide +kernel
theorem dX12_told_93 : decode mX12_told.2.1 93 = .ok (.aload_n 0, 1) := by decide +kernel
theorem dX12_told_94 : decode mX12_told.2.1 94 = .ok (.getfield 159, 3) := by decide +kernel
theorem dX12_told_97 : decode mX12_told.2.1 97 = .ok (.iload_n 1, 1) := by decide +kernel
theorem dX12_told_98 : decode mX12_told.2.1 98 = .ok (.iaload, 1) := by decide +kernel
theorem dX12_told_99 : decode mX12_told.2.1 99 = .ok (.iconst (-1), 1) := by decide +kernel
theorem dX12_told_100 : decode mX12_told.2.1 100 = .ok (.if_icmp .ne 9, 3) := by decide +kernel
theorem dX12_told_103 : decode mX12_told.2.1 103 = .ok (.ldc_w 325, 3) := by decide +kernel
theorem dX12_told_106 : decode mX12_told.2.1 106 = .ok (.goto 9, 3) := by decide +kernel
theorem dX12_told_109 : decode mX12_told.2.1 109 = .ok (.aload_n 0, 1) := by decide +kernel
theorem dX12_told_110 : decode mX12_told.2.1 110 = .ok (.getfield 159, 3) := by decide +kernel
theorem dX12_told_113 : decode mX12_told.2.1 113 = .ok (.iload_n 1, 1) := by decide +kernel
theorem dX12_told_114 : decode mX12_told.2.1 114 = .ok (.iaload, 1) := by decide +kernel
theorem dX12_told_115 : decode mX12_told.2.1 115 = .ok (.ireturn, 1) := by decide +kernel
theorem dX12_told_116 : decode mX12_told.2.1 116 = .ok (.aload_n 0, 1) := by decide +kernel
theorem dX12_told_117 : decode mX12_told.2.1 117 = .ok (.getfield 161, 3) := by decide +kernel
theorem dX12_told_120 : decode mX12_told.2.1 120 = .ok (.iload_n 1, 1) := by decide +kernel
theorem dX12_told_121 : decode mX12_told.2.1 121 = .ok (.iaload, 1) := by decide +kernel
theorem dX12_told_122 : decode mX12_told.2.1 122 = .ok (.ireturn, 1) := by decide +kernel
theorem dX12_told_123 : decode mX12_told.2.1 123 = .ok (.aload_n 0, 1) := by decide +kernel
theorem dX12_told_124 : decode mX12_told.2.1 124 = .ok (.getfield 167, 3) := by decide +kernel
theorem dX12_told_127 : decode mX12_told.2.1 127 = .ok (.iload_n 1, 1) := by decide +kernel
theorem dX12_told_128 : decode mX12_told.2.1 128 = .ok (.iaload, 1) := by decide +kernel
theorem dX12_told_129 : decode mX12_told.2.1 129 = .ok (.ireturn, 1) := by decide +kernel
theorem dX12_told_130 : decode mX12_told.2.1 130 = .ok (.aload_n 0, 1) := by decide +kernel
theorem dX12_told_131 : decode mX12_told.2.1 131 = .ok (.getfield 167, 3) := by decide +kernel
theorem dX12_told_134 : decode mX12_told.2.1 134 = .ok (.iload_n 1, 1) := by decide +kernel
theorem dX12_told_135 : decode mX12_told.2.1 135 = .ok (.iaload, 1) := by decide +kernel
theorem dX12_told_136 : decode mX12_told.2.1 136 = .ok (.ldc_w 325, 3) := by decide +kernel
theorem dX12_told_139 : decode mX12_told.2.1 139 = .ok (.if_icmp .ne 9, 3) := by decide +kernel
theorem dX12_told_142 : decode mX12_told.2.1 142 = .ok (.ldc_w 325, 3) := by decide +kernel
theorem dX12_told_145 : decode mX12_told.2.1 145 = .ok (.goto 9, 3) := by decide +kernel
theorem dX12_told_148 : decode mX12_told.2.1 148 = .ok (.aload_n 0, 1) := by decide +kernel
theorem dX12_told_149 : decode mX12_told.2.1 149 = .ok (.getfield 170, 3) := by decide +kernel
theorem dX12_told_152 : decode mX12_told.2.1 152 = .ok (.iload_n 1, 1) := by decide +kernel
theorem dX12_told_153 : decode mX12_told.2.1 153 = .ok (.iaload, 1) := by decide +kernel
theorem dX12_told_154 : decode mX12_told.2.1 154 = .ok (.ireturn, 1) := by decide +kernel
theorem dX12_told_155 : decode mX12_told.2.1 155 = .ok (.ldc_w 325, 3) := by decide +kernel
theorem dX12_told_158 : decode mX12_told.2.1 158 = .ok (.ireturn, 1) := by decide +kernel
theorem sX12_told {SC : Nat → Nat} {X : mh_X} {d kc ks : Nat} {Q : Option am_V → am_W → Prop} {w : am_W} {x1 : Int} {x2 : Int} (Ho3 : (¬ x1 < (0 : Int) ∧ (¬ (am_w ((w.1 9 0 42) - 1)) < x1)) → x2 = 0 → 0 ≤ x1) (Ho4 : (¬ x1 < (0 : Int) ∧ (¬ (am_w ((w.1 9 0 42) - 1)) < x1)) → x2 = 0 → x1 < 40) (Ho5 : (¬ x1 < (0 : Int) ∧ (¬ (am_w ((w.1 9 0 42) - 1)) < x1)) → x2 = 1 → 0 ≤ x1) (Ho6 : (¬ x1 < (0 : Int) ∧ (¬ (am_w ((w.1 9 0 42) - 1)) < x1)) → x2 = 1 → x1 < 40) (Ho7 : (¬ x1 < (0 : Int) ∧ (¬ (am_w ((w.1 9 0 42) - 1)) < x1)) → x2 = 2 → 0 ≤ x1) (Ho8 : (¬ x1 < (0 : Int) ∧ (¬ (am_w ((w.1 9 0 42) - 1)) < x1)) → x2 = 2 → x1 < 40) (Ho10 : (¬ x1 < (0 : Int) ∧ (¬ (am_w ((w.1 9 0 42) - 1)) < x1)) → x2 = 3 → 0 ≤ x1) (Ho11 : (¬ x1 < (0 : Int) ∧ (¬ (am_w ((w.1 9 0 42) - 1)) < x1)) → x2 = 3 → x1 < 40) (Ho13 : (¬ x1 < (0 : Int) ∧ (¬ (am_w ((w.1 9 0 42) - 1)) < x1)) → x2 = 4 → 0 ≤ x1) (Ho14 : (¬ x1 < (0 : Int) ∧ (¬ (am_w ((w.1 9 0 42) - 1)) < x1)) → x2 = 4 → x1 < 40) (Ho15 : (¬ x1 < (0 : Int) ∧ (¬ (am_w ((w.1 9 0 42) - 1)) < x1)) → x2 = 5 → 0 ≤ x1) (Ho16 : (¬ x1 < (0 : Int) ∧ (¬ (am_w ((w.1 9 0 42) - 1)) < x1)) → x2 = 5 → x1 < 40) (Ho17 : (¬ x1 < (0 : Int) ∧ (¬ (am_w ((w.1 9 0 42) - 1)) < x1)) → x2 = 6 → 0 ≤ x1) (Ho18 : (¬ x1 < (0 : Int) ∧ (¬ (am_w ((w.1 9 0 42) - 1)) < x1)) → x2 = 6 → x1 < 40)
    (h : Q (some (.inl (if (¬ x1 < (0 : Int) ∧ (¬ (am_w ((w.1 9 0 42) - 1)) < x1)) then (if x2 = 6 then (if (w.1 102 0 x1.toNat) = (-2147483648) then (-2147483648) else (w.1 103 0 x1.toNat)) else (if x2 = 5 then (w.1 102 0 x1.toNat) else (if x2 = 4 then (w.1 100 0 x1.toNat) else (if x2 = 3 then (if (w.1 99 0 x1.toNat) = (-1) then (-2147483648) else (w.1 99 0 x1.toNat)) else (if x2 = 2 then (if (w.1 98 0 x1.toNat) = (-1) then (-2147483648) else (w.1 98 0 x1.toNat)) else (if x2 = 1 then (w.1 97 0 x1.toNat) else (if x2 = 0 then (w.1 96 0 x1.toNat) else (-2147483648)))))))) else (-2147483648)))) w) : am_M (mh_G X) SC (d + 3) kc ks mX12_told [.inr (.inr (some (9, 0))), .inl x1, .inl x2] w Q := by
  refine am_M_of (by decide) (Nat.le_of_ble_eq_true rfl) ?_
  show am_A (mh_G X) SC (d + 3) mX12_told Q 0 [(0, .inr (.inr (some (9, 0)))), (1, .inl x1), (2, .inl x2)] [] w kc ks
  refine am_aload_n dX12_told_0 (List.Mem.head _) ?_
  refine am_iload_n dX12_told_1 (List.Mem.tail _ (List.Mem.head _)) ?_
  refine am_callv (d' := d + 2) (kc := 0) (ks := 0) (as := [.inl x1]) dX12_told_2 wc_X12_isPerson wd_2018 wd_2020 wd_73 wd_122 ds_X12_isPerson (by decide) (by omega) (Nat.le_of_ble_eq_true rfl) (Nat.zero_le _) (Nat.zero_le _) hc_10 (by decide) rfl rfl (sX12_isPerson (d := d + 0) (x1 := x1)  ?_)
  show am_A (mh_G X) SC (d + 3) mX12_told Q 5 [(0, .inr (.inr (some (9, 0)))), (1, .inl x1), (2, .inl x2)] [.inl (if (¬ x1 < (0 : Int) ∧ (¬ (am_w ((w.1 9 0 42) - 1)) < x1)) then 1 else 0)] w kc ks
  refine am_ifne (tgt := 12) dX12_told_5 (by decide) (fun c1 => ?_) (fun c1 => ?_)
  · replace c1 := am_bne1 c1
    refine am_iload_n dX12_told_12 (List.Mem.tail _ (List.Mem.tail _ (List.Mem.head _))) ?_
    by_cases c2 : (x2 < 0 ∨ 6 < x2)
    · refine am_tswOut (tgt := 155) dX12_told_13 c2 (by decide) ?_
      refine am_ldcwV (n := (-2147483648)) dX12_told_155 (by decide) wd_1887 (by unfold am_rg; omega) ?_
      rw [show ((if (¬ x1 < (0 : Int) ∧ (¬ (am_w ((w.1 9 0 42) - 1)) < x1)) then (if x2 = 6 then (if (w.1 102 0 x1.toNat) = (-2147483648) then (-2147483648) else (w.1 103 0 x1.toNat)) else (if x2 = 5 then (w.1 102 0 x1.toNat) else (if x2 = 4 then (w.1 100 0 x1.toNat) else (if x2 = 3 then (if (w.1 99 0 x1.toNat) = (-1) then (-2147483648) else (w.1 99 0 x1.toNat)) else (if x2 = 2 then (if (w.1 98 0 x1.toNat) = (-1) then (-2147483648) else (w.1 98 0 x1.toNat)) else (if x2 = 1 then (w.1 97 0 x1.toNat) else (if x2 = 0 then (w.1 96 0 x1.toNat) else (-2147483648)))))))) else (-2147483648)) : Int) = (-2147483648) from (if_pos c1).trans ((if_neg (show ¬ x2 = 6 by omega)).trans ((if_neg (show ¬ x2 = 5 by omega)).trans ((if_neg (show ¬ x2 = 4 by omega)).trans ((if_neg (show ¬ x2 = 3 by omega)).trans ((if_neg (show ¬ x2 = 2 by omega)).trans ((if_neg (show ¬ x2 = 1 by omega)).trans (if_neg (show ¬ x2 = 0 by omega))))))))] at h
      exact am_ret (r := some (.inl (-2147483648))) dX12_told_158 (Or.inl rfl) rfl h
    · rcases (show x2 = 0 ∨ x2 = 1 ∨ x2 = 2 ∨ x2 = 3 ∨ x2 = 4 ∨ x2 = 5 ∨ x2 = 6 by omega) with c2 | c2 | c2 | c2 | c2 | c2 | c2
      · refine am_tswIn (off := 43) (tgt := 56) dX12_told_13 (by omega) (by omega) (by rw [c2]; decide) (by decide) ?_
        refine am_aload_n dX12_told_56 (List.Mem.head _) ?_
        refine am_getf (f := 34) (v := .inr (.inr (some (96, 0)))) dX12_told_57 hc_10 (by decide) wd_1583 (by decide) rfl rfl ?_
        refine am_iload_n dX12_told_60 (List.Mem.tail _ (List.Mem.head _)) ?_
        have o3 := Ho3 c1 c2
        have o4 := Ho4 c1 c2
        refine am_iaload (v := (w.1 96 0 x1.toNat)) dX12_told_61 (by decide) rfl o3 o4 rfl ?_
        rw [show ((if (¬ x1 < (0 : Int) ∧ (¬ (am_w ((w.1 9 0 42) - 1)) < x1)) then (if x2 = 6 then (if (w.1 102 0 x1.toNat) = (-2147483648) then (-2147483648) else (w.1 103 0 x1.toNat)) else (if x2 = 5 then (w.1 102 0 x1.toNat) else (if x2 = 4 then (w.1 100 0 x1.toNat) else (if x2 = 3 then (if (w.1 99 0 x1.toNat) = (-1) then (-2147483648) else (w.1 99 0 x1.toNat)) else (if x2 = 2 then (if (w.1 98 0 x1.toNat) = (-1) then (-2147483648) else (w.1 98 0 x1.toNat)) else (if x2 = 1 then (w.1 97 0 x1.toNat) else (if x2 = 0 then (w.1 96 0 x1.toNat) else (-2147483648)))))))) else (-2147483648)) : Int) = (w.1 96 0 x1.toNat) from (if_pos c1).trans ((if_neg (show ¬ x2 = 6 by omega)).trans ((if_neg (show ¬ x2 = 5 by omega)).trans ((if_neg (show ¬ x2 = 4 by omega)).trans ((if_neg (show ¬ x2 = 3 by omega)).trans ((if_neg (show ¬ x2 = 2 by omega)).trans ((if_neg (show ¬ x2 = 1 by omega)).trans (if_pos c2)))))))] at h
        exact am_ret (r := some (.inl (w.1 96 0 x1.toNat))) dX12_told_62 (Or.inl rfl) rfl h
      · refine am_tswIn (off := 50) (tgt := 63) dX12_told_13 (by omega) (by omega) (by rw [c2]; decide) (by decide) ?_
        refine am_aload_n dX12_told_63 (List.Mem.head _) ?_
        refine am_getf (f := 35) (v := .inr (.inr (some (97, 0)))) dX12_told_64 hc_10 (by decide) wd_1584 (by decide) rfl rfl ?_
        refine am_iload_n dX12_told_67 (List.Mem.tail _ (List.Mem.head _)) ?_
        have o5 := Ho5 c1 c2
        have o6 := Ho6 c1 c2
        refine am_iaload (v := (w.1 97 0 x1.toNat)) dX12_told_68 (by decide) rfl o5 o6 rfl ?_
        rw [show ((if (¬ x1 < (0 : Int) ∧ (¬ (am_w ((w.1 9 0 42) - 1)) < x1)) then (if x2 = 6 then (if (w.1 102 0 x1.toNat) = (-2147483648) then (-2147483648) else (w.1 103 0 x1.toNat)) else (if x2 = 5 then (w.1 102 0 x1.toNat) else (if x2 = 4 then (w.1 100 0 x1.toNat) else (if x2 = 3 then (if (w.1 99 0 x1.toNat) = (-1) then (-2147483648) else (w.1 99 0 x1.toNat)) else (if x2 = 2 then (if (w.1 98 0 x1.toNat) = (-1) then (-2147483648) else (w.1 98 0 x1.toNat)) else (if x2 = 1 then (w.1 97 0 x1.toNat) else (if x2 = 0 then (w.1 96 0 x1.toNat) else (-2147483648)))))))) else (-2147483648)) : Int) = (w.1 97 0 x1.toNat) from (if_pos c1).trans ((if_neg (show ¬ x2 = 6 by omega)).trans ((if_neg (show ¬ x2 = 5 by omega)).trans ((if_neg (show ¬ x2 = 4 by omega)).trans ((if_neg (show ¬ x2 = 3 by omega)).trans ((if_neg (show ¬ x2 = 2 by omega)).trans (if_pos c2))))))] at h
        exact am_ret (r := some (.inl (w.1 97 0 x1.toNat))) dX12_told_69 (Or.inl rfl) rfl h
      · refine am_tswIn (off := 57) (tgt := 70) dX12_told_13 (by omega) (by omega) (by rw [c2]; decide) (by decide) ?_
        refine am_aload_n dX12_told_70 (List.Mem.head _) ?_
        refine am_getf (f := 36) (v := .inr (.inr (some (98, 0)))) dX12_told_71 hc_10 (by decide) wd_1585 (by decide) rfl rfl ?_
        refine am_iload_n dX12_told_74 (List.Mem.tail _ (List.Mem.head _)) ?_
        have o7 := Ho7 c1 c2
        have o8 := Ho8 c1 c2
        refine am_iaload (v := (w.1 98 0 x1.toNat)) dX12_told_75 (by decide) rfl o7 o8 rfl ?_
        refine am_iconst dX12_told_76 (by unfold am_rg; omega) ?_
        refine am_icmpne (tgt := 86) dX12_told_77 (by decide) (fun c9 => ?_) (fun c9 => ?_)
        · refine am_aload_n dX12_told_86 (List.Mem.head _) ?_
          refine am_getf (f := 36) (v := .inr (.inr (some (98, 0)))) dX12_told_87 hc_10 (by decide) wd_1585 (by decide) rfl rfl ?_
          refine am_iload_n dX12_told_90 (List.Mem.tail _ (List.Mem.head _)) ?_
          refine am_iaload (v := (w.1 98 0 x1.toNat)) dX12_told_91 (by decide) rfl o7 o8 rfl ?_
          rw [show ((if (¬ x1 < (0 : Int) ∧ (¬ (am_w ((w.1 9 0 42) - 1)) < x1)) then (if x2 = 6 then (if (w.1 102 0 x1.toNat) = (-2147483648) then (-2147483648) else (w.1 103 0 x1.toNat)) else (if x2 = 5 then (w.1 102 0 x1.toNat) else (if x2 = 4 then (w.1 100 0 x1.toNat) else (if x2 = 3 then (if (w.1 99 0 x1.toNat) = (-1) then (-2147483648) else (w.1 99 0 x1.toNat)) else (if x2 = 2 then (if (w.1 98 0 x1.toNat) = (-1) then (-2147483648) else (w.1 98 0 x1.toNat)) else (if x2 = 1 then (w.1 97 0 x1.toNat) else (if x2 = 0 then (w.1 96 0 x1.toNat) else (-2147483648)))))))) else (-2147483648)) : Int) = (w.1 98 0 x1.toNat) from (if_pos c1).trans ((if_neg (show ¬ x2 = 6 by omega)).trans ((if_neg (show ¬ x2 = 5 by omega)).trans ((if_neg (show ¬ x2 = 4 by omega)).trans ((if_neg (show ¬ x2 = 3 by omega)).trans ((if_pos c2).trans (if_neg c9))))))] at h
          exact am_ret (r := some (.inl (w.1 98 0 x1.toNat))) dX12_told_92 (Or.inl rfl) rfl h
        · refine am_ldcwV (n := (-2147483648)) dX12_told_80 (by decide) wd_1887 (by unfold am_rg; omega) ?_
          refine am_goto (tgt := 92) dX12_told_83 (by decide) ?_
          rw [show ((if (¬ x1 < (0 : Int) ∧ (¬ (am_w ((w.1 9 0 42) - 1)) < x1)) then (if x2 = 6 then (if (w.1 102 0 x1.toNat) = (-2147483648) then (-2147483648) else (w.1 103 0 x1.toNat)) else (if x2 = 5 then (w.1 102 0 x1.toNat) else (if x2 = 4 then (w.1 100 0 x1.toNat) else (if x2 = 3 then (if (w.1 99 0 x1.toNat) = (-1) then (-2147483648) else (w.1 99 0 x1.toNat)) else (if x2 = 2 then (if (w.1 98 0 x1.toNat) = (-1) then (-2147483648) else (w.1 98 0 x1.toNat)) else (if x2 = 1 then (w.1 97 0 x1.toNat) else (if x2 = 0 then (w.1 96 0 x1.toNat) else (-2147483648)))))))) else (-2147483648)) : Int) = (-2147483648) from (if_pos c1).trans ((if_neg (show ¬ x2 = 6 by omega)).trans ((if_neg (show ¬ x2 = 5 by omega)).trans ((if_neg (show ¬ x2 = 4 by omega)).trans ((if_neg (show ¬ x2 = 3 by omega)).trans ((if_pos c2).trans (if_pos c9))))))] at h
          exact am_ret (r := some (.inl (-2147483648))) dX12_told_92 (Or.inl rfl) rfl h
      · refine am_tswIn (off := 80) (tgt := 93) dX12_told_13 (by omega) (by omega) (by rw [c2]; decide) (by decide) ?_
        refine am_aload_n dX12_told_93 (List.Mem.head _) ?_
        refine am_getf (f := 37) (v := .inr (.inr (some (99, 0)))) dX12_told_94 hc_10 (by decide) wd_1586 (by decide) rfl rfl ?_
        refine am_iload_n dX12_told_97 (List.Mem.tail _ (List.Mem.head _)) ?_
        have o10 := Ho10 c1 c2
        have o11 := Ho11 c1 c2
        refine am_iaload (v := (w.1 99 0 x1.toNat)) dX12_told_98 (by decide) rfl o10 o11 rfl ?_
        refine am_iconst dX12_told_99 (by unfold am_rg; omega) ?_
        refine am_icmpne (tgt := 109) dX12_told_100 (by decide) (fun c12 => ?_) (fun c12 => ?_)
        · refine am_aload_n dX12_told_109 (List.Mem.head _) ?_
          refine am_getf (f := 37) (v := .inr (.inr (some (99, 0)))) dX12_told_110 hc_10 (by decide) wd_1586 (by decide) rfl rfl ?_
          refine am_iload_n dX12_told_113 (List.Mem.tail _ (List.Mem.head _)) ?_
          refine am_iaload (v := (w.1 99 0 x1.toNat)) dX12_told_114 (by decide) rfl o10 o11 rfl ?_
          rw [show ((if (¬ x1 < (0 : Int) ∧ (¬ (am_w ((w.1 9 0 42) - 1)) < x1)) then (if x2 = 6 then (if (w.1 102 0 x1.toNat) = (-2147483648) then (-2147483648) else (w.1 103 0 x1.toNat)) else (if x2 = 5 then (w.1 102 0 x1.toNat) else (if x2 = 4 then (w.1 100 0 x1.toNat) else (if x2 = 3 then (if (w.1 99 0 x1.toNat) = (-1) then (-2147483648) else (w.1 99 0 x1.toNat)) else (if x2 = 2 then (if (w.1 98 0 x1.toNat) = (-1) then (-2147483648) else (w.1 98 0 x1.toNat)) else (if x2 = 1 then (w.1 97 0 x1.toNat) else (if x2 = 0 then (w.1 96 0 x1.toNat) else (-2147483648)))))))) else (-2147483648)) : Int) = (w.1 99 0 x1.toNat) from (if_pos c1).trans ((if_neg (show ¬ x2 = 6 by omega)).trans ((if_neg (show ¬ x2 = 5 by omega)).trans ((if_neg (show ¬ x2 = 4 by omega)).trans ((if_pos c2).trans (if_neg c12)))))] at h
          exact am_ret (r := some (.inl (w.1 99 0 x1.toNat))) dX12_told_115 (Or.inl rfl) rfl h
        · refine am_ldcwV (n := (-2147483648)) dX12_told_103 (by decide) wd_1887 (by unfold am_rg; omega) ?_
          refine am_goto (tgt := 115) dX12_told_106 (by decide) ?_
          rw [show ((if (¬ x1 < (0 : Int) ∧ (¬ (am_w ((w.1 9 0 42) - 1)) < x1)) then (if x2 = 6 then (if (w.1 102 0 x1.toNat) = (-2147483648) then (-2147483648) else (w.1 103 0 x1.toNat)) else (if x2 = 5 then (w.1 102 0 x1.toNat) else (if x2 = 4 then (w.1 100 0 x1.toNat) else (if x2 = 3 then (if (w.1 99 0 x1.toNat) = (-1) then (-2147483648) else (w.1 99 0 x1.toNat)) else (if x2 = 2 then (if (w.1 98 0 x1.toNat) = (-1) then (-2147483648) else (w.1 98 0 x1.toNat)) else (if x2 = 1 then (w.1 97 0 x1.toNat) else (if x2 = 0 then (w.1 96 0 x1.toNat) else (-2147483648)))))))) else (-2147483648)) : Int) = (-2147483648) from (if_pos c1).trans ((if_neg (show ¬ x2 = 6 by omega)).trans ((if_neg (show ¬ x2 = 5 by omega)).trans ((if_neg (show ¬ x2 = 4 by omega)).trans ((if_pos c2).trans (if_pos c12)))))] at h
          exact am_ret (r := some (.inl (-2147483648))) dX12_told_115 (Or.inl rfl) rfl h
      · refine am_tswIn (off := 103) (tgt := 116) dX12_told_13 (by omega) (by omega) (by rw [c2]; decide) (by decide) ?_
        refine am_aload_n dX12_told_116 (List.Mem.head _) ?_
        refine am_getf (f := 38) (v := .inr (.inr (some (100, 0)))) dX12_told_117 hc_10 (by decide) wd_1587 (by decide) rfl rfl ?_
        refine am_iload_n dX12_told_120 (List.Mem.tail _ (List.Mem.head _)) ?_
        have o13 := Ho13 c1 c2
        have o14 := Ho14 c1 c2
        refine am_iaload (v := (w.1 100 0 x1.toNat)) dX12_told_121 (by decide) rfl o13 o14 rfl ?_
        rw [show ((if (¬ x1 < (0 : Int) ∧ (¬ (am_w ((w.1 9 0 42) - 1)) < x1)) then (if x2 = 6 then (if (w.1 102 0 x1.toNat) = (-2147483648) then (-2147483648) else (w.1 103 0 x1.toNat)) else (if x2 = 5 then (w.1 102 0 x1.toNat) else (if x2 = 4 then (w.1 100 0 x1.toNat) else (if x2 = 3 then (if (w.1 99 0 x1.toNat) = (-1) then (-2147483648) else (w.1 99 0 x1.toNat)) else (if x2 = 2 then (if (w.1 98 0 x1.toNat) = (-1) then (-2147483648) else (w.1 98 0 x1.toNat)) else (if x2 = 1 then (w.1 97 0 x1.toNat) else (if x2 = 0 then (w.1 96 0 x1.toNat) else (-2147483648)))))))) else (-2147483648)) : Int) = (w.1 100 0 x1.toNat) from (if_pos c1).trans ((if_neg (show ¬ x2 = 6 by omega)).trans ((if_neg (show ¬ x2 = 5 by omega)).trans (if_pos c2)))] at h
        exact am_ret (r := some (.inl (w.1 100 0 x1.toNat))) dX12_told_122 (Or.inl rfl) rfl h
      · refine am_tswIn (off := 110) (tgt := 123) dX12_told_13 (by omega) (by omega) (by rw [c2]; decide) (by decide) ?_
        refine am_aload_n dX12_told_123 (List.Mem.head _) ?_
        refine am_getf (f := 40) (v := .inr (.inr (some (102, 0)))) dX12_told_124 hc_10 (by decide) wd_1589 (by decide) rfl rfl ?_
        refine am_iload_n dX12_told_127 (List.Mem.tail _ (List.Mem.head _)) ?_
        have o15 := Ho15 c1 c2
        have o16 := Ho16 c1 c2
        refine am_iaload (v := (w.1 102 0 x1.toNat)) dX12_told_128 (by decide) rfl o15 o16 rfl ?_
        rw [show ((if (¬ x1 < (0 : Int) ∧ (¬ (am_w ((w.1 9 0 42) - 1)) < x1)) then (if x2 = 6 then (if (w.1 102 0 x1.toNat) = (-2147483648) then (-2147483648) else (w.1 103 0 x1.toNat)) else (if x2 = 5 then (w.1 102 0 x1.toNat) else (if x2 = 4 then (w.1 100 0 x1.toNat) else (if x2 = 3 then (if (w.1 99 0 x1.toNat) = (-1) then (-2147483648) else (w.1 99 0 x1.toNat)) else (if x2 = 2 then (if (w.1 98 0 x1.toNat) = (-1) then (-2147483648) else (w.1 98 0 x1.toNat)) else (if x2 = 1 then (w.1 97 0 x1.toNat) else (if x2 = 0 then (w.1 96 0 x1.toNat) else (-2147483648)))))))) else (-2147483648)) : Int) = (w.1 102 0 x1.toNat) from (if_pos c1).trans ((if_neg (show ¬ x2 = 6 by omega)).trans (if_pos c2))] at h
        exact am_ret (r := some (.inl (w.1 102 0 x1.toNat))) dX12_told_129 (Or.inl rfl) rfl h
      · refine am_tswIn (off := 117) (tgt := 130) dX12_told_13 (by omega) (by omega) (by rw [c2]; decide) (by decide) ?_
        refine am_aload_n dX12_told_130 (List.Mem.head _) ?_
        refine am_getf (f := 40) (v := .inr (.inr (some (102, 0)))) dX12_told_131 hc_10 (by decide) wd_1589 (by decide) rfl rfl ?_
        refine am_iload_n dX12_told_134 (List.Mem.tail _ (List.Mem.head _)) ?_
        have o17 := Ho17 c1 c2
        have o18 := Ho18 c1 c2
        refine am_iaload (v := (w.1 102 0 x1.toNat)) dX12_told_135 (by decide) rfl o17 o18 rfl ?_
        refine am_ldcwV (n := (-2147483648)) dX12_told_136 (by decide) wd_1887 (by unfold am_rg; omega) ?_
        refine am_icmpne (tgt := 148) dX12_told_139 (by decide) (fun c19 => ?_) (fun c19 => ?_)
        · refine am_aload_n dX12_told_148 (List.Mem.head _) ?_
          refine am_getf (f := 41) (v := .inr (.inr (some (103, 0)))) dX12_told_149 hc_10 (by decide) wd_1590 (by decide) rfl rfl ?_
          refine am_iload_n dX12_told_152 (List.Mem.tail _ (List.Mem.head _)) ?_
          refine am_iaload (v := (w.1 103 0 x1.toNat)) dX12_told_153 (by decide) rfl o17 o18 rfl ?_
          rw [show ((if (¬ x1 < (0 : Int) ∧ (¬ (am_w ((w.1 9 0 42) - 1)) < x1)) then (if x2 = 6 then (if (w.1 102 0 x1.toNat) = (-2147483648) then (-2147483648) else (w.1 103 0 x1.toNat)) else (if x2 = 5 then (w.1 102 0 x1.toNat) else (if x2 = 4 then (w.1 100 0 x1.toNat) else (if x2 = 3 then (if (w.1 99 0 x1.toNat) = (-1) then (-2147483648) else (w.1 99 0 x1.toNat)) else (if x2 = 2 then (if (w.1 98 0 x1.toNat) = (-1) then (-2147483648) else (w.1 98 0 x1.toNat)) else (if x2 = 1 then (w.1 97 0 x1.toNat) else (if x2 = 0 then (w.1 96 0 x1.toNat) else (-2147483648)))))))) else (-2147483648)) : Int) = (w.1 103 0 x1.toNat) from (if_pos c1).trans ((if_pos c2).trans (if_neg c19))] at h
          exact am_ret (r := some (.inl (w.1 103 0 x1.toNat))) dX12_told_154 (Or.inl rfl) rfl h
        · refine am_ldcwV (n := (-2147483648)) dX12_told_142 (by decide) wd_1887 (by unfold am_rg; omega) ?_
          refine am_goto (tgt := 154) dX12_told_145 (by decide) ?_
          rw [show ((if (¬ x1 < (0 : Int) ∧ (¬ (am_w ((w.1 9 0 42) - 1)) < x1)) then (if x2 = 6 then (if (w.1 102 0 x1.toNat) = (-2147483648) then (-2147483648) else (w.1 103 0 x1.toNat)) else (if x2 = 5 then (w.1 102 0 x1.toNat) else (if x2 = 4 then (w.1 100 0 x1.toNat) else (if x2 = 3 then (if (w.1 99 0 x1.toNat) = (-1) then (-2147483648) else (w.1 99 0 x1.toNat)) else (if x2 = 2 then (if (w.1 98 0 x1.toNat) = (-1) then (-2147483648) else (w.1 98 0 x1.toNat)) else (if x2 = 1 then (w.1 97 0 x1.toNat) else (if x2 = 0 then (w.1 96 0 x1.toNat) else (-2147483648)))))))) else (-2147483648)) : Int) = (-2147483648) from (if_pos c1).trans ((if_pos c2).trans (if_pos c19))] at h
          exact am_ret (r := some (.inl (-2147483648))) dX12_told_154 (Or.inl rfl) rfl h
  · replace c1 := am_bne2 c1
    refine am_ldcwV (n := (-2147483648)) dX12_told_8 (by decide) wd_1887 (by unfold am_rg; omega) ?_
    rw [show ((if (¬ x1 < (0 : Int) ∧ (¬ (am_w ((w.1 9 0 42) - 1)) < x1)) then (if x2 = 6 then (if (w.1 102 0 x1.toNat) = (-2147483648) then (-2147483648) else (w.1 103 0 x1.toNat)) else (if x2 = 5 then (w.1 102 0 x1.toNat) else (if x2 = 4 then (w.1 100 0 x1.toNat) else (if x2 = 3 then (if (w.1 99 0 x1.toNat) = (-1) then (-2147483648) else (w.1 99 0 x1.toNat)) else (if x2 = 2 then (if (w.1 98 0 x1.toNat) = (-1) then (-2147483648) else (w.1 98 0 x1.toNat)) else (if x2 = 1 then (w.1 97 0 x1.toNat) else (if x2 = 0 then (w.1 96 0 x1.toNat) else (-2147483648)))))))) else (-2147483648)) : Int) = (-2147483648) from if_neg c1] at h
    exact am_ret (r := some (.inl (-2147483648))) dX12_told_11 (Or.inl rfl) rfl h
-- MourningHouseModel.count(I)I
theorem dX12_count_0 : decode mX12_count.2.1 0 = .ok (.iload_n 1, 1) := by decide +kernel
theorem dX12_count_1 : decode mX12_count.2.1 1 = .ok (.bipush 10, 2) := by decide +kernel
theorem dX12_count_3 : decode mX12_count.2.1 3 = .ok (.bipush 14, 2) := by decide +kernel
theorem dX12_count_5 : decode mX12_count.2.1 5 = .ok (.invokestatic 318, 3) := by decide +kernel
theorem dX12_count_8 : decode mX12_count.2.1 8 = .ok (.ifCond .eq 13, 3) := by decide +kernel
theorem dX12_count_11 : decode mX12_count.2.1 11 = .ok (.aload_n 0, 1) := by decide +kernel
theorem dX12_count_12 : decode mX12_count.2.1 12 = .ok (.getfield 243, 3) := by decide +kernel
theorem dX12_count_15 : decode mX12_count.2.1 15 = .ok (.iload_n 1, 1) := by decide +kernel
theorem dX12_count_16 : decode mX12_count.2.1 16 = .ok (.bipush 10, 2) := by decide +kernel
theorem dX12_count_18 : decode mX12_count.2.1 18 = .ok (.isub, 1) := by decide +kernel
theorem dX12_count_19 : decode mX12_count.2.1 19 = .ok (.iaload, 1) := by decide +kernel
theorem dX12_count_20 : decode mX12_count.2.1 20 = .ok (.ireturn, 1) := by decide +kernel
theorem dX12_count_21 : decode mX12_count.2.1 21 = .ok (.iload_n 1, 1) := by decide +kernel
theorem dX12_count_22 : decode mX12_count.2.1 22 = .ok (.tableswitch 104 0 9 #[54, 59, 64, 69, 74, 79, 84, 89, 94, 99], 54) := by decide +kernel
theorem dX12_count_76 : decode mX12_count.2.1 76 = .ok (.aload_n 0, 1) := by decide +kernel
theorem dX12_count_77 : decode mX12_count.2.1 77 = .ok (.getfield 444, 3) := by decide +kernel
theorem dX12_count_80 : decode mX12_count.2.1 80 = .ok (.ireturn, 1) := by decide +kernel
theorem dX12_count_81 : decode mX12_count.2.1 81 = .ok (.aload_n 0, 1) := by decide +kernel
theorem dX12_count_82 : decode mX12_count.2.1 82 = .ok (.getfield 447, 3) := by decide +kernel
theorem dX12_count_85 : decode mX12_count.2.1 85 = .ok (.ireturn, 1) := by decide +kernel
theorem dX12_count_86 : decode mX12_count.2.1 86 = .ok (.aload_n 0, 1) := by decide +kernel
theorem dX12_count_87 : decode mX12_count.2.1 87 = .ok (.getfield 435, 3) := by decide +kernel
theorem dX12_count_90 : decode mX12_count.2.1 90 = .ok (.ireturn, 1) := by decide +kernel
theorem dX12_count_91 : decode mX12_count.2.1 91 = .ok (.aload_n 0, 1) := by decide +kernel
theorem dX12_count_92 : decode mX12_count.2.1 92 = .ok (.getfield 456, 3) := by decide +kernel
theorem dX12_count_95 : decode mX12_count.2.1 95 = .ok (.ireturn, 1) := by decide +kernel
theorem dX12_count_96 : decode mX12_count.2.1 96 = .ok (.aload_n 0, 1) := by decide +kernel
theorem dX12_count_97 : decode mX12_count.2.1 97 = .ok (.getfield 459, 3) := by decide +kernel
theorem dX12_count_100 : decode mX12_count.2.1 100 = .ok (.ireturn, 1) := by decide +kernel
theorem dX12_count_101 : decode mX12_count.2.1 101 = .ok (.aload_n 0, 1) := by decide +kernel
theorem dX12_count_102 : decode mX12_count.2.1 102 = .ok (.getfield 573, 3) := by decide +kernel
theorem dX12_count_105 : decode mX12_count.2.1 105 = .ok (.ireturn, 1) := by decide +kernel
theorem dX12_count_106 : decode mX12_count.2.1 106 = .ok (.aload_n 0, 1) := by decide +kernel
theorem dX12_count_107 : decode mX12_count.2.1 107 = .ok (.getfield 582, 3) := by decide +kernel
theorem dX12_count_110 : decode mX12_count.2.1 110 = .ok (.ireturn, 1) := by decide +kernel
theorem dX12_count_111 : decode mX12_count.2.1 111 = .ok (.aload_n 0, 1) := by decide +kernel
theorem dX12_count_112 : decode mX12_count.2.1 112 = .ok (.getfield 576, 3) := by decide +kernel
theorem dX12_count_115 : decode mX12_count.2.1 115 = .ok (.ireturn, 1) := by decide +kernel
theorem dX12_count_116 : decode mX12_count.2.1 116 = .ok (.aload_n 0, 1) := by decide +kernel
theorem dX12_count_117 : decode mX12_count.2.1 117 = .ok (.getfield 588, 3) := by decide +kernel
theorem dX12_count_120 : decode mX12_count.2.1 120 = .ok (.ireturn, 1) := by decide +kernel
theorem dX12_count_121 : decode mX12_count.2.1 121 = .ok (.aload_n 0, 1) := by decide +kernel
theorem dX12_count_122 : decode mX12_count.2.1 122 = .ok (.getfield 329, 3) := by decide +kernel
theorem dX12_count_125 : decode mX12_count.2.1 125 = .ok (.ireturn, 1) := by decide +kernel
theorem dX12_count_126 : decode mX12_count.2.1 126 = .ok (.iconst (-1), 1) := by decide +kernel
theorem dX12_count_127 : decode mX12_count.2.1 127 = .ok (.ireturn, 1) := by decide +kernel
theorem sX12_count {SC : Nat → Nat} {X : mh_X} {d kc ks : Nat} {Q : Option am_V → am_W → Prop} {w : am_W} {x1 : Int} (Ho3 : (¬ x1 < (10 : Int) ∧ (¬ (14 : Int) < x1)) → 0 ≤ (am_w (x1 - 10))) (Ho4 : (¬ x1 < (10 : Int) ∧ (¬ (14 : Int) < x1)) → (am_w (x1 - 10)) < 5)
    (h : Q (some (.inl (if (¬ x1 < (10 : Int) ∧ (¬ (14 : Int) < x1)) then (w.1 128 0 (am_w (x1 - 10)).toNat) else (if x1 = 9 then (w.1 9 0 1) else (if x1 = 8 then (w.1 9 0 76) else (if x1 = 7 then (w.1 9 0 81) else (if x1 = 6 then (w.1 9 0 75) else (if x1 = 5 then (w.1 9 0 70) else (if x1 = 4 then (w.1 9 0 52) else (if x1 = 3 then (w.1 9 0 47) else (if x1 = 2 then (w.1 9 0 21) else (if x1 = 1 then (w.1 9 0 42) else (if x1 = 0 then (w.1 9 0 33) else (-1)))))))))))))) w) : am_M (mh_G X) SC (d + 2) kc ks mX12_count [.inr (.inr (some (9, 0))), .inl x1] w Q := by
  refine am_M_of (by decide) (Nat.le_of_ble_eq_true rfl) ?_
  show am_A (mh_G X) SC (d + 2) mX12_count Q 0 [(0, .inr (.inr (some (9, 0)))), (1, .inl x1)] [] w kc ks
  refine am_iload_n dX12_count_0 (List.Mem.tail _ (List.Mem.head _)) ?_
  refine am_bipush dX12_count_1 (by decide) (by unfold am_rg; omega) ?_
  refine am_bipush dX12_count_3 (by decide) (by unfold am_rg; omega) ?_
  refine am_calls (d' := d + 1) (kc := 0) (ks := 0) (as := [.inl x1, .inl 10, .inl 14]) dX12_count_5 wc_X12_in wd_1859 wd_1860 wd_122 ds_X12_in (by decide) (by omega) (Nat.le_of_ble_eq_true rfl) (Nat.zero_le _) (Nat.zero_le _) rfl (sX12_in (d := d + 0) (x0 := x1) (x1 := 10) (x2 := 14)  ?_)
  show am_A (mh_G X) SC (d + 2) mX12_count Q 8 [(0, .inr (.inr (some (9, 0)))), (1, .inl x1)] [.inl (if (¬ x1 < (10 : Int) ∧ (¬ (14 : Int) < x1)) then 1 else 0)] w kc ks
  refine am_ifeq (tgt := 21) dX12_count_8 (by decide) (fun c1 => ?_) (fun c1 => ?_)
  · replace c1 := am_beq1 c1
    refine am_iload_n dX12_count_21 (List.Mem.tail _ (List.Mem.head _)) ?_
    by_cases c2 : (x1 < 0 ∨ 9 < x1)
    · refine am_tswOut (tgt := 126) dX12_count_22 c2 (by decide) ?_
      refine am_iconst dX12_count_126 (by unfold am_rg; omega) ?_
      rw [show ((if (¬ x1 < (10 : Int) ∧ (¬ (14 : Int) < x1)) then (w.1 128 0 (am_w (x1 - 10)).toNat) else (if x1 = 9 then (w.1 9 0 1) else (if x1 = 8 then (w.1 9 0 76) else (if x1 = 7 then (w.1 9 0 81) else (if x1 = 6 then (w.1 9 0 75) else (if x1 = 5 then (w.1 9 0 70) else (if x1 = 4 then (w.1 9 0 52) else (if x1 = 3 then (w.1 9 0 47) else (if x1 = 2 then (w.1 9 0 21) else (if x1 = 1 then (w.1 9 0 42) else (if x1 = 0 then (w.1 9 0 33) else (-1)))))))))))) : Int) = (-1) from (if_neg c1).trans ((if_neg (show ¬ x1 = 9 by omega)).trans ((if_neg (show ¬ x1 = 8 by omega)).trans ((if_neg (show ¬ x1 = 7 by omega)).trans ((if_neg (show ¬ x1 = 6 by omega)).trans ((if_neg (show ¬ x1 = 5 by omega)).trans ((if_neg (show ¬ x1 = 4 by omega)).trans ((if_neg (show ¬ x1 = 3 by omega)).trans ((if_neg (show ¬ x1 = 2 by omega)).trans ((if_neg (show ¬ x1 = 1 by omega)).trans (if_neg (show ¬ x1 = 0 by omega)))))))))))] at h
      exact am_ret (r := some (.inl (-1))) dX12_count_127 (Or.inl rfl) rfl h
    · rcases (show x1 = 0 ∨ x1 = 1 ∨ x1 = 2 ∨ x1 = 3 ∨ x1 = 4 ∨ x1 = 5 ∨ x1 = 6 ∨ x1 = 7 ∨ x1 = 8 ∨ x1 = 9 by omega) with c2 | c2 | c2 | c2 | c2 | c2 | c2 | c2 | c2 | c2
      · refine am_tswIn (off := 54) (tgt := 76) dX12_count_22 (by omega) (by omega) (by rw [c2]; decide) (by decide) ?_
        refine am_aload_n dX12_count_76 (List.Mem.head _) ?_
        refine am_getf (f := 33) (v := .inl (w.1 9 0 33)) dX12_count_77 hc_10 (by decide) wd_1582 (by decide) rfl rfl ?_
        rw [show ((if (¬ x1 < (10 : Int) ∧ (¬ (14 : Int) < x1)) then (w.1 128 0 (am_w (x1 - 10)).toNat) else (if x1 = 9 then (w.1 9 0 1) else (if x1 = 8 then (w.1 9 0 76) else (if x1 = 7 then (w.1 9 0 81) else (if x1 = 6 then (w.1 9 0 75) else (if x1 = 5 then (w.1 9 0 70) else (if x1 = 4 then (w.1 9 0 52) else (if x1 = 3 then (w.1 9 0 47) else (if x1 = 2 then (w.1 9 0 21) else (if x1 = 1 then (w.1 9 0 42) else (if x1 = 0 then (w.1 9 0 33) else (-1)))))))))))) : Int) = (w.1 9 0 33) from (if_neg c1).trans ((if_neg (show ¬ x1 = 9 by omega)).trans ((if_neg (show ¬ x1 = 8 by omega)).trans ((if_neg (show ¬ x1 = 7 by omega)).trans ((if_neg (show ¬ x1 = 6 by omega)).trans ((if_neg (show ¬ x1 = 5 by omega)).trans ((if_neg (show ¬ x1 = 4 by omega)).trans ((if_neg (show ¬ x1 = 3 by omega)).trans ((if_neg (show ¬ x1 = 2 by omega)).trans ((if_neg (show ¬ x1 = 1 by omega)).trans (if_pos c2))))))))))] at h
        exact am_ret (r := some (.inl (w.1 9 0 33))) dX12_count_80 (Or.inl rfl) rfl h
      · refine am_tswIn (off := 59) (tgt := 81) dX12_count_22 (by omega) (by omega) (by rw [c2]; decide) (by decide) ?_
        refine am_aload_n dX12_count_81 (List.Mem.head _) ?_
        refine am_getf (f := 42) (v := .inl (w.1 9 0 42)) dX12_count_82 hc_10 (by decide) wd_1591 (by decide) rfl rfl ?_
        rw [show ((if (¬ x1 < (10 : Int) ∧ (¬ (14 : Int) < x1)) then (w.1 128 0 (am_w (x1 - 10)).toNat) else (if x1 = 9 then (w.1 9 0 1) else (if x1 = 8 then (w.1 9 0 76) else (if x1 = 7 then (w.1 9 0 81) else (if x1 = 6 then (w.1 9 0 75) else (if x1 = 5 then (w.1 9 0 70) else (if x1 = 4 then (w.1 9 0 52) else (if x1 = 3 then (w.1 9 0 47) else (if x1 = 2 then (w.1 9 0 21) else (if x1 = 1 then (w.1 9 0 42) else (if x1 = 0 then (w.1 9 0 33) else (-1)))))))))))) : Int) = (w.1 9 0 42) from (if_neg c1).trans ((if_neg (show ¬ x1 = 9 by omega)).trans ((if_neg (show ¬ x1 = 8 by omega)).trans ((if_neg (show ¬ x1 = 7 by omega)).trans ((if_neg (show ¬ x1 = 6 by omega)).trans ((if_neg (show ¬ x1 = 5 by omega)).trans ((if_neg (show ¬ x1 = 4 by omega)).trans ((if_neg (show ¬ x1 = 3 by omega)).trans ((if_neg (show ¬ x1 = 2 by omega)).trans (if_pos c2)))))))))] at h
        exact am_ret (r := some (.inl (w.1 9 0 42))) dX12_count_85 (Or.inl rfl) rfl h
      · refine am_tswIn (off := 64) (tgt := 86) dX12_count_22 (by omega) (by omega) (by rw [c2]; decide) (by decide) ?_
        refine am_aload_n dX12_count_86 (List.Mem.head _) ?_
        refine am_getf (f := 21) (v := .inl (w.1 9 0 21)) dX12_count_87 hc_10 (by decide) wd_1570 (by decide) rfl rfl ?_
        rw [show ((if (¬ x1 < (10 : Int) ∧ (¬ (14 : Int) < x1)) then (w.1 128 0 (am_w (x1 - 10)).toNat) else (if x1 = 9 then (w.1 9 0 1) else (if x1 = 8 then (w.1 9 0 76) else (if x1 = 7 then (w.1 9 0 81) else (if x1 = 6 then (w.1 9 0 75) else (if x1 = 5 then (w.1 9 0 70) else (if x1 = 4 then (w.1 9 0 52) else (if x1 = 3 then (w.1 9 0 47) else (if x1 = 2 then (w.1 9 0 21) else (if x1 = 1 then (w.1 9 0 42) else (if x1 = 0 then (w.1 9 0 33) else (-1)))))))))))) : Int) = (w.1 9 0 21) from (if_neg c1).trans ((if_neg (show ¬ x1 = 9 by omega)).trans ((if_neg (show ¬ x1 = 8 by omega)).trans ((if_neg (show ¬ x1 = 7 by omega)).trans ((if_neg (show ¬ x1 = 6 by omega)).trans ((if_neg (show ¬ x1 = 5 by omega)).trans ((if_neg (show ¬ x1 = 4 by omega)).trans ((if_neg (show ¬ x1 = 3 by omega)).trans (if_pos c2))))))))] at h
        exact am_ret (r := some (.inl (w.1 9 0 21))) dX12_count_90 (Or.inl rfl) rfl h
      · refine am_tswIn (off := 69) (tgt := 91) dX12_count_22 (by omega) (by omega) (by rw [c2]; decide) (by decide) ?_
        refine am_aload_n dX12_count_91 (List.Mem.head _) ?_
        refine am_getf (f := 47) (v := .inl (w.1 9 0 47)) dX12_count_92 hc_10 (by decide) wd_1596 (by decide) rfl rfl ?_
        rw [show ((if (¬ x1 < (10 : Int) ∧ (¬ (14 : Int) < x1)) then (w.1 128 0 (am_w (x1 - 10)).toNat) else (if x1 = 9 then (w.1 9 0 1) else (if x1 = 8 then (w.1 9 0 76) else (if x1 = 7 then (w.1 9 0 81) else (if x1 = 6 then (w.1 9 0 75) else (if x1 = 5 then (w.1 9 0 70) else (if x1 = 4 then (w.1 9 0 52) else (if x1 = 3 then (w.1 9 0 47) else (if x1 = 2 then (w.1 9 0 21) else (if x1 = 1 then (w.1 9 0 42) else (if x1 = 0 then (w.1 9 0 33) else (-1)))))))))))) : Int) = (w.1 9 0 47) from (if_neg c1).trans ((if_neg (show ¬ x1 = 9 by omega)).trans ((if_neg (show ¬ x1 = 8 by omega)).trans ((if_neg (show ¬ x1 = 7 by omega)).trans ((if_neg (show ¬ x1 = 6 by omega)).trans ((if_neg (show ¬ x1 = 5 by omega)).trans ((if_neg (show ¬ x1 = 4 by omega)).trans (if_pos c2)))))))] at h
        exact am_ret (r := some (.inl (w.1 9 0 47))) dX12_count_95 (Or.inl rfl) rfl h
      · refine am_tswIn (off := 74) (tgt := 96) dX12_count_22 (by omega) (by omega) (by rw [c2]; decide) (by decide) ?_
        refine am_aload_n dX12_count_96 (List.Mem.head _) ?_
        refine am_getf (f := 52) (v := .inl (w.1 9 0 52)) dX12_count_97 hc_10 (by decide) wd_1601 (by decide) rfl rfl ?_
        rw [show ((if (¬ x1 < (10 : Int) ∧ (¬ (14 : Int) < x1)) then (w.1 128 0 (am_w (x1 - 10)).toNat) else (if x1 = 9 then (w.1 9 0 1) else (if x1 = 8 then (w.1 9 0 76) else (if x1 = 7 then (w.1 9 0 81) else (if x1 = 6 then (w.1 9 0 75) else (if x1 = 5 then (w.1 9 0 70) else (if x1 = 4 then (w.1 9 0 52) else (if x1 = 3 then (w.1 9 0 47) else (if x1 = 2 then (w.1 9 0 21) else (if x1 = 1 then (w.1 9 0 42) else (if x1 = 0 then (w.1 9 0 33) else (-1)))))))))))) : Int) = (w.1 9 0 52) from (if_neg c1).trans ((if_neg (show ¬ x1 = 9 by omega)).trans ((if_neg (show ¬ x1 = 8 by omega)).trans ((if_neg (show ¬ x1 = 7 by omega)).trans ((if_neg (show ¬ x1 = 6 by omega)).trans ((if_neg (show ¬ x1 = 5 by omega)).trans (if_pos c2))))))] at h
        exact am_ret (r := some (.inl (w.1 9 0 52))) dX12_count_100 (Or.inl rfl) rfl h
      · refine am_tswIn (off := 79) (tgt := 101) dX12_count_22 (by omega) (by omega) (by rw [c2]; decide) (by decide) ?_
        refine am_aload_n dX12_count_101 (List.Mem.head _) ?_
        refine am_getf (f := 70) (v := .inl (w.1 9 0 70)) dX12_count_102 hc_10 (by decide) wd_1619 (by decide) rfl rfl ?_
        rw [show ((if (¬ x1 < (10 : Int) ∧ (¬ (14 : Int) < x1)) then (w.1 128 0 (am_w (x1 - 10)).toNat) else (if x1 = 9 then (w.1 9 0 1) else (if x1 = 8 then (w.1 9 0 76) else (if x1 = 7 then (w.1 9 0 81) else (if x1 = 6 then (w.1 9 0 75) else (if x1 = 5 then (w.1 9 0 70) else (if x1 = 4 then (w.1 9 0 52) else (if x1 = 3 then (w.1 9 0 47) else (if x1 = 2 then (w.1 9 0 21) else (if x1 = 1 then (w.1 9 0 42) else (if x1 = 0 then (w.1 9 0 33) else (-1)))))))))))) : Int) = (w.1 9 0 70) from (if_neg c1).trans ((if_neg (show ¬ x1 = 9 by omega)).trans ((if_neg (show ¬ x1 = 8 by omega)).trans ((if_neg (show ¬ x1 = 7 by omega)).trans ((if_neg (show ¬ x1 = 6 by omega)).trans (if_pos c2)))))] at h
        exact am_ret (r := some (.inl (w.1 9 0 70))) dX12_count_105 (Or.inl rfl) rfl h
      · refine am_tswIn (off := 84) (tgt := 106) dX12_count_22 (by omega) (by omega) (by rw [c2]; decide) (by decide) ?_
        refine am_aload_n dX12_count_106 (List.Mem.head _) ?_
        refine am_getf (f := 75) (v := .inl (w.1 9 0 75)) dX12_count_107 hc_10 (by decide) wd_1624 (by decide) rfl rfl ?_
        rw [show ((if (¬ x1 < (10 : Int) ∧ (¬ (14 : Int) < x1)) then (w.1 128 0 (am_w (x1 - 10)).toNat) else (if x1 = 9 then (w.1 9 0 1) else (if x1 = 8 then (w.1 9 0 76) else (if x1 = 7 then (w.1 9 0 81) else (if x1 = 6 then (w.1 9 0 75) else (if x1 = 5 then (w.1 9 0 70) else (if x1 = 4 then (w.1 9 0 52) else (if x1 = 3 then (w.1 9 0 47) else (if x1 = 2 then (w.1 9 0 21) else (if x1 = 1 then (w.1 9 0 42) else (if x1 = 0 then (w.1 9 0 33) else (-1)))))))))))) : Int) = (w.1 9 0 75) from (if_neg c1).trans ((if_neg (show ¬ x1 = 9 by omega)).trans ((if_neg (show ¬ x1 = 8 by omega)).trans ((if_neg (show ¬ x1 = 7 by omega)).trans (if_pos c2))))] at h
        exact am_ret (r := some (.inl (w.1 9 0 75))) dX12_count_110 (Or.inl rfl) rfl h
      · refine am_tswIn (off := 89) (tgt := 111) dX12_count_22 (by omega) (by omega) (by rw [c2]; decide) (by decide) ?_
        refine am_aload_n dX12_count_111 (List.Mem.head _) ?_
        refine am_getf (f := 81) (v := .inl (w.1 9 0 81)) dX12_count_112 hc_10 (by decide) wd_1630 (by decide) rfl rfl ?_
        rw [show ((if (¬ x1 < (10 : Int) ∧ (¬ (14 : Int) < x1)) then (w.1 128 0 (am_w (x1 - 10)).toNat) else (if x1 = 9 then (w.1 9 0 1) else (if x1 = 8 then (w.1 9 0 76) else (if x1 = 7 then (w.1 9 0 81) else (if x1 = 6 then (w.1 9 0 75) else (if x1 = 5 then (w.1 9 0 70) else (if x1 = 4 then (w.1 9 0 52) else (if x1 = 3 then (w.1 9 0 47) else (if x1 = 2 then (w.1 9 0 21) else (if x1 = 1 then (w.1 9 0 42) else (if x1 = 0 then (w.1 9 0 33) else (-1)))))))))))) : Int) = (w.1 9 0 81) from (if_neg c1).trans ((if_neg (show ¬ x1 = 9 by omega)).trans ((if_neg (show ¬ x1 = 8 by omega)).trans (if_pos c2)))] at h
        exact am_ret (r := some (.inl (w.1 9 0 81))) dX12_count_115 (Or.inl rfl) rfl h
      · refine am_tswIn (off := 94) (tgt := 116) dX12_count_22 (by omega) (by omega) (by rw [c2]; decide) (by decide) ?_
        refine am_aload_n dX12_count_116 (List.Mem.head _) ?_
        refine am_getf (f := 76) (v := .inl (w.1 9 0 76)) dX12_count_117 hc_10 (by decide) wd_1625 (by decide) rfl rfl ?_
        rw [show ((if (¬ x1 < (10 : Int) ∧ (¬ (14 : Int) < x1)) then (w.1 128 0 (am_w (x1 - 10)).toNat) else (if x1 = 9 then (w.1 9 0 1) else (if x1 = 8 then (w.1 9 0 76) else (if x1 = 7 then (w.1 9 0 81) else (if x1 = 6 then (w.1 9 0 75) else (if x1 = 5 then (w.1 9 0 70) else (if x1 = 4 then (w.1 9 0 52) else (if x1 = 3 then (w.1 9 0 47) else (if x1 = 2 then (w.1 9 0 21) else (if x1 = 1 then (w.1 9 0 42) else (if x1 = 0 then (w.1 9 0 33) else (-1)))))))))))) : Int) = (w.1 9 0 76) from (if_neg c1).trans ((if_neg (show ¬ x1 = 9 by omega)).trans (if_pos c2))] at h
        exact am_ret (r := some (.inl (w.1 9 0 76))) dX12_count_120 (Or.inl rfl) rfl h
      · refine am_tswIn (off := 99) (tgt := 121) dX12_count_22 (by omega) (by omega) (by rw [c2]; decide) (by decide) ?_
        refine am_aload_n dX12_count_121 (List.Mem.head _) ?_
        refine am_getf (f := 1) (v := .inl (w.1 9 0 1)) dX12_count_122 hc_10 (by decide) wd_1550 (by decide) rfl rfl ?_
        rw [show ((if (¬ x1 < (10 : Int) ∧ (¬ (14 : Int) < x1)) then (w.1 128 0 (am_w (x1 - 10)).toNat) else (if x1 = 9 then (w.1 9 0 1) else (if x1 = 8 then (w.1 9 0 76) else (if x1 = 7 then (w.1 9 0 81) else (if x1 = 6 then (w.1 9 0 75) else (if x1 = 5 then (w.1 9 0 70) else (if x1 = 4 then (w.1 9 0 52) else (if x1 = 3 then (w.1 9 0 47) else (if x1 = 2 then (w.1 9 0 21) else (if x1 = 1 then (w.1 9 0 42) else (if x1 = 0 then (w.1 9 0 33) else (-1)))))))))))) : Int) = (w.1 9 0 1) from (if_neg c1).trans (if_pos c2)] at h
        exact am_ret (r := some (.inl (w.1 9 0 1))) dX12_count_125 (Or.inl rfl) rfl h
  · replace c1 := am_beq2 c1
    refine am_aload_n dX12_count_11 (List.Mem.head _) ?_
    refine am_getf (f := 74) (v := .inr (.inr (some (128, 0)))) dX12_count_12 hc_10 (by decide) wd_1623 (by decide) rfl rfl ?_
    refine am_iload_n dX12_count_15 (List.Mem.tail _ (List.Mem.head _)) ?_
    refine am_bipush dX12_count_16 (by decide) (by unfold am_rg; omega) ?_
    refine am_isub dX12_count_18 ?_
    have o3 := Ho3 c1
    have o4 := Ho4 c1
    refine am_iaload (v := (w.1 128 0 (am_w (x1 - 10)).toNat)) dX12_count_19 (by decide) rfl o3 o4 rfl ?_
    rw [show ((if (¬ x1 < (10 : Int) ∧ (¬ (14 : Int) < x1)) then (w.1 128 0 (am_w (x1 - 10)).toNat) else (if x1 = 9 then (w.1 9 0 1) else (if x1 = 8 then (w.1 9 0 76) else (if x1 = 7 then (w.1 9 0 81) else (if x1 = 6 then (w.1 9 0 75) else (if x1 = 5 then (w.1 9 0 70) else (if x1 = 4 then (w.1 9 0 52) else (if x1 = 3 then (w.1 9 0 47) else (if x1 = 2 then (w.1 9 0 21) else (if x1 = 1 then (w.1 9 0 42) else (if x1 = 0 then (w.1 9 0 33) else (-1)))))))))))) : Int) = (w.1 128 0 (am_w (x1 - 10)).toNat) from if_pos c1] at h
    exact am_ret (r := some (.inl (w.1 128 0 (am_w (x1 - 10)).toNat))) dX12_count_20 (Or.inl rfl) rfl h
