-- MourningHouse$Mourner.ruleFor(III)I
theorem dX4_ruleFor_0 : decode mX4_ruleFor.2.1 0 = .ok (.aload_n 0, 1) := by decide +kernel
theorem dX4_ruleFor_1 : decode mX4_ruleFor.2.1 1 = .ok (.getfield 41, 3) := by decide +kernel
theorem dX4_ruleFor_4 : decode mX4_ruleFor.2.1 4 = .ok (.getfield 50, 3) := by decide +kernel
theorem dX4_ruleFor_7 : decode mX4_ruleFor.2.1 7 = .ok (.iload_n 1, 1) := by decide +kernel
theorem dX4_ruleFor_8 : decode mX4_ruleFor.2.1 8 = .ok (.iaload, 1) := by decide +kernel
theorem dX4_ruleFor_9 : decode mX4_ruleFor.2.1 9 = .ok (.iload_n 3, 1) := by decide +kernel
theorem dX4_ruleFor_10 : decode mX4_ruleFor.2.1 10 = .ok (.if_icmp .gt 16, 3) := by decide +kernel
theorem dX4_ruleFor_13 : decode mX4_ruleFor.2.1 13 = .ok (.aload_n 0, 1) := by decide +kernel
theorem dX4_ruleFor_14 : decode mX4_ruleFor.2.1 14 = .ok (.getfield 41, 3) := by decide +kernel
theorem dX4_ruleFor_17 : decode mX4_ruleFor.2.1 17 = .ok (.getfield 56, 3) := by decide +kernel
theorem dX4_ruleFor_20 : decode mX4_ruleFor.2.1 20 = .ok (.iload_n 2, 1) := by decide +kernel
theorem dX4_ruleFor_21 : decode mX4_ruleFor.2.1 21 = .ok (.iaload, 1) := by decide +kernel
theorem dX4_ruleFor_22 : decode mX4_ruleFor.2.1 22 = .ok (.iload_n 3, 1) := by decide +kernel
theorem dX4_ruleFor_23 : decode mX4_ruleFor.2.1 23 = .ok (.if_icmp .le 5, 3) := by decide +kernel
theorem dX4_ruleFor_26 : decode mX4_ruleFor.2.1 26 = .ok (.iconst (-1), 1) := by decide +kernel
theorem dX4_ruleFor_27 : decode mX4_ruleFor.2.1 27 = .ok (.ireturn, 1) := by decide +kernel
theorem dX4_ruleFor_28 : decode mX4_ruleFor.2.1 28 = .ok (.aload_n 0, 1) := by decide +kernel
theorem dX4_ruleFor_29 : decode mX4_ruleFor.2.1 29 = .ok (.getfield 45, 3) := by decide +kernel
theorem dX4_ruleFor_32 : decode mX4_ruleFor.2.1 32 = .ok (.aload_n 0, 1) := by decide +kernel
theorem dX4_ruleFor_33 : decode mX4_ruleFor.2.1 33 = .ok (.getfield 41, 3) := by decide +kernel
theorem dX4_ruleFor_36 : decode mX4_ruleFor.2.1 36 = .ok (.getfield 59, 3) := by decide +kernel
theorem dX4_ruleFor_39 : decode mX4_ruleFor.2.1 39 = .ok (.iload_n 2, 1) := by decide +kernel
theorem dX4_ruleFor_40 : decode mX4_ruleFor.2.1 40 = .ok (.iaload, 1) := by decide +kernel
theorem dX4_ruleFor_41 : decode mX4_ruleFor.2.1 41 = .ok (.iload_n 3, 1) := by decide +kernel
theorem dX4_ruleFor_42 : decode mX4_ruleFor.2.1 42 = .ok (.invokevirtual 62, 3) := by decide +kernel
theorem dX4_ruleFor_45 : decode mX4_ruleFor.2.1 45 = .ok (.astore 4, 2) := by decide +kernel
theorem dX4_ruleFor_47 : decode mX4_ruleFor.2.1 47 = .ok (.aload 4, 2) := by decide +kernel
theorem dX4_ruleFor_49 : decode mX4_ruleFor.2.1 49 = .ok (.ifnonnull 5, 3) := by decide +kernel
theorem dX4_ruleFor_52 : decode mX4_ruleFor.2.1 52 = .ok (.iconst (-1), 1) := by decide +kernel
theorem dX4_ruleFor_53 : decode mX4_ruleFor.2.1 53 = .ok (.ireturn, 1) := by decide +kernel
theorem dX4_ruleFor_54 : decode mX4_ruleFor.2.1 54 = .ok (.aload_n 0, 1) := by decide +kernel
theorem dX4_ruleFor_55 : decode mX4_ruleFor.2.1 55 = .ok (.getfield 41, 3) := by decide +kernel
theorem dX4_ruleFor_58 : decode mX4_ruleFor.2.1 58 = .ok (.aload_n 0, 1) := by decide +kernel
theorem dX4_ruleFor_59 : decode mX4_ruleFor.2.1 59 = .ok (.getfield 41, 3) := by decide +kernel
theorem dX4_ruleFor_62 : decode mX4_ruleFor.2.1 62 = .ok (.getfield 59, 3) := by decide +kernel
theorem dX4_ruleFor_65 : decode mX4_ruleFor.2.1 65 = .ok (.iload_n 2, 1) := by decide +kernel
theorem dX4_ruleFor_66 : decode mX4_ruleFor.2.1 66 = .ok (.iaload, 1) := by decide +kernel
theorem dX4_ruleFor_67 : decode mX4_ruleFor.2.1 67 = .ok (.iload_n 3, 1) := by decide +kernel
theorem dX4_ruleFor_68 : decode mX4_ruleFor.2.1 68 = .ok (.invokevirtual 68, 3) := by decide +kernel
theorem dX4_ruleFor_71 : decode mX4_ruleFor.2.1 71 = .ok (.iconst (-1), 1) := by decide +kernel
theorem dX4_ruleFor_72 : decode mX4_ruleFor.2.1 72 = .ok (.istore 5, 2) := by decide +kernel
theorem dX4_ruleFor_74 : decode mX4_ruleFor.2.1 74 = .ok (.iconst 0, 1) := by decide +kernel
theorem dX4_ruleFor_75 : decode mX4_ruleFor.2.1 75 = .ok (.istore 6, 2) := by decide +kernel
theorem dX4_ruleFor_77 : decode mX4_ruleFor.2.1 77 = .ok (.iload 6, 2) := by decide +kernel
theorem dX4_ruleFor_79 : decode mX4_ruleFor.2.1 79 = .ok (.aload 4, 2) := by decide +kernel
theorem dX4_ruleFor_81 : decode mX4_ruleFor.2.1 81 = .ok (.getfield 72, 3) := by decide +kernel
theorem dX4_ruleFor_84 : decode mX4_ruleFor.2.1 84 = .ok (.if_icmp .ge 64, 3) := by decide +kernel
theorem dX4_ruleFor_87 : decode mX4_ruleFor.2.1 87 = .ok (.iload 5, 2) := by decide +kernel
theorem dX4_ruleFor_89 : decode mX4_ruleFor.2.1 89 = .ok (.iconst (-1), 1) := by decide +kernel
theorem dX4_ruleFor_90 : decode mX4_ruleFor.2.1 90 = .ok (.if_icmp .eq 20, 3) := by decide +kernel
theorem dX4_ruleFor_93 : decode mX4_ruleFor.2.1 93 = .ok (.aload 4, 2) := by decide +kernel
theorem dX4_ruleFor_95 : decode mX4_ruleFor.2.1 95 = .ok (.iload 6, 2) := by decide +kernel
theorem dX4_ruleFor_97 : decode mX4_ruleFor.2.1 97 = .ok (.invokevirtual 77, 3) := by decide +kernel
theorem dX4_ruleFor_100 : decode mX4_ruleFor.2.1 100 = .ok (.aload 4, 2) := by decide +kernel
theorem dX4_ruleFor_102 : decode mX4_ruleFor.2.1 102 = .ok (.iload 5, 2) := by decide +kernel
theorem dX4_ruleFor_104 : decode mX4_ruleFor.2.1 104 = .ok (.invokevirtual 77, 3) := by decide +kernel
theorem dX4_ruleFor_107 : decode mX4_ruleFor.2.1 107 = .ok (.if_icmp .gt 7, 3) := by decide +kernel
theorem dX4_ruleFor_110 : decode mX4_ruleFor.2.1 110 = .ok (.iconst 1, 1) := by decide +kernel
theorem dX4_ruleFor_111 : decode mX4_ruleFor.2.1 111 = .ok (.goto 4, 3) := by decide +kernel
theorem dX4_ruleFor_114 : decode mX4_ruleFor.2.1 114 = .ok (.iconst 0, 1) := by decide +kernel
theorem dX4_ruleFor_115 : decode mX4_ruleFor.2.1 115 = .ok (.istore 7, 2) := by decide +kernel
theorem dX4_ruleFor_117 : decode mX4_ruleFor.2.1 117 = .ok (.iload 7, 2) := by decide +kernel
theorem dX4_ruleFor_119 : decode mX4_ruleFor.2.1 119 = .ok (.ifCond .eq 23, 3) := by decide +kernel
theorem dX4_ruleFor_122 : decode mX4_ruleFor.2.1 122 = .ok (.aload_n 0, 1) := by decide +kernel
theorem dX4_ruleFor_123 : decode mX4_ruleFor.2.1 123 = .ok (.getfield 41, 3) := by decide +kernel
theorem dX4_ruleFor_126 : decode mX4_ruleFor.2.1 126 = .ok (.aload 4, 2) := by decide +kernel
theorem dX4_ruleFor_128 : decode mX4_ruleFor.2.1 128 = .ok (.iload 6, 2) := by decide +kernel
theorem dX4_ruleFor_130 : decode mX4_ruleFor.2.1 130 = .ok (.iload_n 1, 1) := by decide +kernel
theorem dX4_ruleFor_131 : decode mX4_ruleFor.2.1 131 = .ok (.iload_n 2, 1) := by decide +kernel
theorem dX4_ruleFor_132 : decode mX4_ruleFor.2.1 132 = .ok (.invokevirtual 81, 3) := by decide +kernel
theorem dX4_ruleFor_135 : decode mX4_ruleFor.2.1 135 = .ok (.ifCond .eq 7, 3) := by decide +kernel
theorem dX4_ruleFor_138 : decode mX4_ruleFor.2.1 138 = .ok (.iload 6, 2) := by decide +kernel
theorem dX4_ruleFor_140 : decode mX4_ruleFor.2.1 140 = .ok (.istore 5, 2) := by decide +kernel
theorem dX4_ruleFor_142 : decode mX4_ruleFor.2.1 142 = .ok (.iinc 6 1, 3) := by decide +kernel
theorem dX4_ruleFor_145 : decode mX4_ruleFor.2.1 145 = .ok (.goto (-68), 3) := by decide +kernel
theorem dX4_ruleFor_148 : decode mX4_ruleFor.2.1 148 = .ok (.iload 5, 2) := by decide +kernel
theorem dX4_ruleFor_150 : decode mX4_ruleFor.2.1 150 = .ok (.ireturn, 1) := by decide +kernel
theorem bX4_ruleFor_0 {SC : Nat → Nat} {X : mh_X} {d : Nat} {Q : Option am_V → am_W → Prop} {bc bs : Nat} {w : am_W} {x1 : Int} {x2 : Int} {x3 : Int}
    (h : (0 ≤ x1 ∧ (x1 < 40 ∧ ((x3 < (w.1 38 0 x1.toNat) → Q (some (.inl (-1))) w) ∧ (¬ x3 < (w.1 38 0 x1.toNat) → (0 ≤ x2 ∧ (x2 < 40 ∧ (((w.1 40 0 x2.toNat) ≤ x3 → am_M (mh_G X) SC d 0 0 mX1_lawOn [.inr (.inr (some (4, 0))), .inl (w.1 39 0 x2.toNat), .inl x3] w (fun r w1 => am_A (mh_G X) SC (d + 1) mX4_ruleFor Q 45 [(0, .inr (.inr (some (6, 0)))), (1, .inl x1), (2, .inl x2), (3, .inl x3)] (r.toList ++ []) w1 bc bs)) ∧ (¬ (w.1 40 0 x2.toNat) ≤ x3 → Q (some (.inl (-1))) w))))))))) :
    am_A (mh_G X) SC (d + 1) mX4_ruleFor Q 0 [(0, .inr (.inr (some (6, 0)))), (1, .inl x1), (2, .inl x2), (3, .inl x3)] [] w bc bs := by
  refine am_aload_n dX4_ruleFor_0 (List.Mem.head _) ?_
  refine am_getf (f := 0) (v := .inr (.inr (some (5, 0)))) dX4_ruleFor_1 hc_6 (by decide) wd_438 (by decide) rfl rfl ?_
  refine am_getf (f := 5) (v := .inr (.inr (some (38, 0)))) dX4_ruleFor_4 hc_5 (by decide) wd_324 (by decide) rfl rfl ?_
  refine am_iload_n dX4_ruleFor_7 (List.Mem.tail _ (List.Mem.head _)) ?_
  have o1 := h.1
  replace h := h.2
  have o2 := h.1
  replace h := h.2
  refine am_iaload (v := (w.1 38 0 x1.toNat)) dX4_ruleFor_8 (by decide) rfl o1 o2 rfl ?_
  refine am_iload_n dX4_ruleFor_9 (List.Mem.tail _ (List.Mem.tail _ (List.Mem.tail _ (List.Mem.head _)))) ?_
  refine am_icmpgt (tgt := 26) dX4_ruleFor_10 (by decide) (fun c3 => ?_) (fun c3 => ?_)
  · replace h := h.1 c3
    refine am_iconst dX4_ruleFor_26 (by unfold am_rg; omega) ?_
    exact am_ret (r := some (.inl (-1))) dX4_ruleFor_27 (Or.inl rfl) rfl h
  · replace h := h.2 c3
    refine am_aload_n dX4_ruleFor_13 (List.Mem.head _) ?_
    refine am_getf (f := 0) (v := .inr (.inr (some (5, 0)))) dX4_ruleFor_14 hc_6 (by decide) wd_438 (by decide) rfl rfl ?_
    refine am_getf (f := 7) (v := .inr (.inr (some (40, 0)))) dX4_ruleFor_17 hc_5 (by decide) wd_328 (by decide) rfl rfl ?_
    refine am_iload_n dX4_ruleFor_20 (List.Mem.tail _ (List.Mem.tail _ (List.Mem.head _))) ?_
    have o4 := h.1
    replace h := h.2
    have o5 := h.1
    replace h := h.2
    refine am_iaload (v := (w.1 40 0 x2.toNat)) dX4_ruleFor_21 (by decide) rfl o4 o5 rfl ?_
    refine am_iload_n dX4_ruleFor_22 (List.Mem.tail _ (List.Mem.tail _ (List.Mem.tail _ (List.Mem.head _)))) ?_
    refine am_icmple (tgt := 28) dX4_ruleFor_23 (by decide) (fun c6 => ?_) (fun c6 => ?_)
    · replace h := h.1 c6
      refine am_aload_n dX4_ruleFor_28 (List.Mem.head _) ?_
      refine am_getf (f := 1) (v := .inr (.inr (some (4, 0)))) dX4_ruleFor_29 hc_6 (by decide) wd_439 (by decide) rfl rfl ?_
      refine am_aload_n dX4_ruleFor_32 (List.Mem.head _) ?_
      refine am_getf (f := 0) (v := .inr (.inr (some (5, 0)))) dX4_ruleFor_33 hc_6 (by decide) wd_438 (by decide) rfl rfl ?_
      refine am_getf (f := 6) (v := .inr (.inr (some (39, 0)))) dX4_ruleFor_36 hc_5 (by decide) wd_326 (by decide) rfl rfl ?_
      refine am_iload_n dX4_ruleFor_39 (List.Mem.tail _ (List.Mem.tail _ (List.Mem.head _))) ?_
      refine am_iaload (v := (w.1 39 0 x2.toNat)) dX4_ruleFor_40 (by decide) rfl o4 o5 rfl ?_
      refine am_iload_n dX4_ruleFor_41 (List.Mem.tail _ (List.Mem.tail _ (List.Mem.tail _ (List.Mem.head _)))) ?_
      exact am_callv (d' := d) (kc := 0) (ks := 0) (as := [.inl (w.1 39 0 x2.toNat), .inl x3]) dX4_ruleFor_42 wc_X1_lawOn wd_1169 wd_1170 wd_1171 wd_115 ds_X1_lawOn (by decide) (Nat.le_refl _) (Nat.le_of_ble_eq_true rfl) (Nat.zero_le _) (Nat.zero_le _) hc_3 (by decide) rfl rfl h
    · replace h := h.2 c6
      refine am_iconst dX4_ruleFor_26 (by unfold am_rg; omega) ?_
      exact am_ret (r := some (.inl (-1))) dX4_ruleFor_27 (Or.inl rfl) rfl h
theorem bX4_ruleFor_45 {SC : Nat → Nat} {X : mh_X} {d : Nat} {Q : Option am_V → am_W → Prop} {bc bs : Nat} {w : am_W} {x1 : Int} {x2 : Int} {x3 : Int}
    (h : Q (some (.inl (-1))) w) :
    am_A (mh_G X) SC (d + 1) mX4_ruleFor Q 45 [(0, .inr (.inr (some (6, 0)))), (1, .inl x1), (2, .inl x2), (3, .inl x3)] [.inr (.inr none)] w bc bs := by
  refine am_astore (ls' := [(4, .inr (.inr none)), (0, .inr (.inr (some (6, 0)))), (1, .inl x1), (2, .inl x2), (3, .inl x3)]) dX4_ruleFor_45 (by decide) rfl ?_
  refine am_aload dX4_ruleFor_47 (List.Mem.head _) ?_
  refine am_ifnonnull (tgt := 54) dX4_ruleFor_49 (by decide) (fun e => absurd rfl e) (fun _ => ?_)
  refine am_iconst dX4_ruleFor_52 (by unfold am_rg; omega) ?_
  exact am_ret (r := some (.inl (-1))) dX4_ruleFor_53 (Or.inl rfl) rfl h
theorem bX4_ruleFor_45a {SC : Nat → Nat} {X : mh_X} {d : Nat} {Q : Option am_V → am_W → Prop} {bc bs : Nat} {w : am_W} {x1 : Int} {x2 : Int} {x3 : Int} {js0 : Nat}
    (h : (0 ≤ x2 ∧ (x2 < 40 ∧ am_M (mh_G X) SC d 0 0 mX2_gather [.inr (.inr (some (5, 0))), .inl (w.1 39 0 x2.toNat), .inl x3] w (fun r w1 => am_A (mh_G X) SC (d + 1) mX4_ruleFor Q 71 [(4, .inr (.inr (some (10, js0)))), (0, .inr (.inr (some (6, 0)))), (1, .inl x1), (2, .inl x2), (3, .inl x3)] (r.toList ++ []) w1 bc bs)))) :
    am_A (mh_G X) SC (d + 1) mX4_ruleFor Q 45 [(0, .inr (.inr (some (6, 0)))), (1, .inl x1), (2, .inl x2), (3, .inl x3)] [.inr (.inr (some (10, js0)))] w bc bs := by
  refine am_astore (ls' := [(4, .inr (.inr (some (10, js0)))), (0, .inr (.inr (some (6, 0)))), (1, .inl x1), (2, .inl x2), (3, .inl x3)]) dX4_ruleFor_45 (by decide) rfl ?_
  refine am_aload dX4_ruleFor_47 (List.Mem.head _) ?_
  refine am_ifnonnull (tgt := 54) dX4_ruleFor_49 (by decide) (fun _ => ?_) (fun e => by cases e)
  refine am_aload_n dX4_ruleFor_54 (List.Mem.tail _ (List.Mem.head _)) ?_
  refine am_getf (f := 0) (v := .inr (.inr (some (5, 0)))) dX4_ruleFor_55 hc_6 (by decide) wd_438 (by decide) rfl rfl ?_
  refine am_aload_n dX4_ruleFor_58 (List.Mem.tail _ (List.Mem.head _)) ?_
  refine am_getf (f := 0) (v := .inr (.inr (some (5, 0)))) dX4_ruleFor_59 hc_6 (by decide) wd_438 (by decide) rfl rfl ?_
  refine am_getf (f := 6) (v := .inr (.inr (some (39, 0)))) dX4_ruleFor_62 hc_5 (by decide) wd_326 (by decide) rfl rfl ?_
  refine am_iload_n dX4_ruleFor_65 (List.Mem.tail _ (List.Mem.tail _ (List.Mem.tail _ (List.Mem.head _)))) ?_
  have o1 := h.1
  replace h := h.2
  have o2 := h.1
  replace h := h.2
  refine am_iaload (v := (w.1 39 0 x2.toNat)) dX4_ruleFor_66 (by decide) rfl o1 o2 rfl ?_
  refine am_iload_n dX4_ruleFor_67 (List.Mem.tail _ (List.Mem.tail _ (List.Mem.tail _ (List.Mem.tail _ (List.Mem.head _))))) ?_
  exact am_callv (d' := d) (kc := 0) (ks := 0) (as := [.inl (w.1 39 0 x2.toNat), .inl x3]) dX4_ruleFor_68 wc_X2_gather wd_1173 wd_1140 wd_1141 wd_117 ds_X2_gather (by decide) (Nat.le_refl _) (Nat.le_of_ble_eq_true rfl) (Nat.zero_le _) (Nat.zero_le _) hc_5 (by decide) rfl rfl h
theorem bX4_ruleFor_71 {SC : Nat → Nat} {X : mh_X} {d : Nat} {Q : Option am_V → am_W → Prop} {bc bs : Nat} {w : am_W} {j4 : Nat} {x1 : Int} {x2 : Int} {x3 : Int}
    (h : am_A (mh_G X) SC (d + 1) mX4_ruleFor Q 77 [(0, .inr (.inr (some (6, 0)))), (1, .inl x1), (2, .inl x2), (4, .inr (.inr (some (10, j4)))), (5, .inl (-1)), (6, .inl 0)] [] w bc bs) :
    am_A (mh_G X) SC (d + 1) mX4_ruleFor Q 71 [(4, .inr (.inr (some (10, j4)))), (0, .inr (.inr (some (6, 0)))), (1, .inl x1), (2, .inl x2), (3, .inl x3)] [] w bc bs := by
  refine am_iconst dX4_ruleFor_71 (by unfold am_rg; omega) ?_
  refine am_istore (ls' := [(5, .inl (-1)), (4, .inr (.inr (some (10, j4)))), (0, .inr (.inr (some (6, 0)))), (1, .inl x1), (2, .inl x2), (3, .inl x3)]) dX4_ruleFor_72 (by decide) rfl ?_
  refine am_iconst dX4_ruleFor_74 (by unfold am_rg; omega) ?_
  refine am_istore (ls' := [(6, .inl 0), (5, .inl (-1)), (4, .inr (.inr (some (10, j4)))), (0, .inr (.inr (some (6, 0)))), (1, .inl x1), (2, .inl x2), (3, .inl x3)]) dX4_ruleFor_75 (by decide) rfl ?_
  exact am_sub [3, 4, 5, 2, 1, 0] rfl h
theorem bX4_ruleFor_77 {SC : Nat → Nat} {X : mh_X} {d : Nat} {Q : Option am_V → am_W → Prop} {bc bs : Nat} {w : am_W} {x1 : Int} {x2 : Int} {j4 : Nat} {x5 : Int} {x6 : Int}
    (h : (((w.1 10 j4 10) ≤ x6 → Q (some (.inl x5)) w) ∧ (¬ (w.1 10 j4 10) ≤ x6 → ((x5 = (-1) → am_A (mh_G X) SC (d + 1) mX4_ruleFor Q 110 [(0, .inr (.inr (some (6, 0)))), (1, .inl x1), (2, .inl x2), (4, .inr (.inr (some (10, j4)))), (5, .inl x5), (6, .inl x6)] [] w bc bs) ∧ (¬ x5 = (-1) → am_M (mh_G X) SC d 0 0 mX3_kinCount [.inr (.inr (some (10, j4))), .inl x6] w (fun r w1 => am_A (mh_G X) SC (d + 1) mX4_ruleFor Q 100 [(0, .inr (.inr (some (6, 0)))), (1, .inl x1), (2, .inl x2), (4, .inr (.inr (some (10, j4)))), (5, .inl x5), (6, .inl x6)] (r.toList ++ []) w1 bc bs)))))) :
    am_A (mh_G X) SC (d + 1) mX4_ruleFor Q 77 [(0, .inr (.inr (some (6, 0)))), (1, .inl x1), (2, .inl x2), (4, .inr (.inr (some (10, j4)))), (5, .inl x5), (6, .inl x6)] [] w bc bs := by
  refine am_iload dX4_ruleFor_77 (List.Mem.tail _ (List.Mem.tail _ (List.Mem.tail _ (List.Mem.tail _ (List.Mem.tail _ (List.Mem.head _)))))) ?_
  refine am_aload dX4_ruleFor_79 (List.Mem.tail _ (List.Mem.tail _ (List.Mem.tail _ (List.Mem.head _)))) ?_
  refine am_getf (f := 10) (v := .inl (w.1 10 j4 10)) dX4_ruleFor_81 hc_4 (by decide) wd_228 (by decide) rfl rfl ?_
  refine am_icmpge (tgt := 148) dX4_ruleFor_84 (by decide) (fun c1 => ?_) (fun c1 => ?_)
  · replace h := h.1 c1
    refine am_iload dX4_ruleFor_148 (List.Mem.tail _ (List.Mem.tail _ (List.Mem.tail _ (List.Mem.tail _ (List.Mem.head _))))) ?_
    exact am_ret (r := some (.inl x5)) dX4_ruleFor_150 (Or.inl rfl) rfl h
  · replace h := h.2 c1
    refine am_iload dX4_ruleFor_87 (List.Mem.tail _ (List.Mem.tail _ (List.Mem.tail _ (List.Mem.tail _ (List.Mem.head _))))) ?_
    refine am_iconst dX4_ruleFor_89 (by unfold am_rg; omega) ?_
    refine am_icmpeq (tgt := 110) dX4_ruleFor_90 (by decide) (fun c2 => ?_) (fun c2 => ?_)
    · replace h := h.1 c2
      exact h
    · replace h := h.2 c2
      refine am_aload dX4_ruleFor_93 (List.Mem.tail _ (List.Mem.tail _ (List.Mem.tail _ (List.Mem.head _)))) ?_
      refine am_iload dX4_ruleFor_95 (List.Mem.tail _ (List.Mem.tail _ (List.Mem.tail _ (List.Mem.tail _ (List.Mem.tail _ (List.Mem.head _)))))) ?_
      exact am_callv (d' := d) (kc := 0) (ks := 0) (as := [.inl x6]) dX4_ruleFor_97 wc_X3_kinCount wd_1174 wd_1149 wd_1150 wd_116 ds_X3_kinCount (by decide) (Nat.le_refl _) (Nat.le_of_ble_eq_true rfl) (Nat.zero_le _) (Nat.zero_le _) hc_4 (by decide) rfl rfl h
theorem bX4_ruleFor_110 {SC : Nat → Nat} {X : mh_X} {d : Nat} {Q : Option am_V → am_W → Prop} {bc bs : Nat} {w : am_W} {x1 : Int} {x2 : Int} {j4 : Nat} {x5 : Int} {x6 : Int}
    (h : am_A (mh_G X) SC (d + 1) mX4_ruleFor Q 115 [(0, .inr (.inr (some (6, 0)))), (1, .inl x1), (2, .inl x2), (4, .inr (.inr (some (10, j4)))), (5, .inl x5), (6, .inl x6)] [.inl 1] w bc bs) :
    am_A (mh_G X) SC (d + 1) mX4_ruleFor Q 110 [(0, .inr (.inr (some (6, 0)))), (1, .inl x1), (2, .inl x2), (4, .inr (.inr (some (10, j4)))), (5, .inl x5), (6, .inl x6)] [] w bc bs := by
  refine am_iconst dX4_ruleFor_110 (by unfold am_rg; omega) ?_
  refine am_goto (tgt := 115) dX4_ruleFor_111 (by decide) ?_
  exact h
theorem bX4_ruleFor_100 {SC : Nat → Nat} {X : mh_X} {d : Nat} {Q : Option am_V → am_W → Prop} {bc bs : Nat} {w : am_W} {x1 : Int} {x2 : Int} {j4 : Nat} {x5 : Int} {x6 : Int} {xs0 : Int}
    (h : am_M (mh_G X) SC d 0 0 mX3_kinCount [.inr (.inr (some (10, j4))), .inl x5] w (fun r w1 => am_A (mh_G X) SC (d + 1) mX4_ruleFor Q 107 [(0, .inr (.inr (some (6, 0)))), (1, .inl x1), (2, .inl x2), (4, .inr (.inr (some (10, j4)))), (5, .inl x5), (6, .inl x6)] (r.toList ++ [.inl xs0]) w1 bc bs)) :
    am_A (mh_G X) SC (d + 1) mX4_ruleFor Q 100 [(0, .inr (.inr (some (6, 0)))), (1, .inl x1), (2, .inl x2), (4, .inr (.inr (some (10, j4)))), (5, .inl x5), (6, .inl x6)] [.inl xs0] w bc bs := by
  refine am_aload dX4_ruleFor_100 (List.Mem.tail _ (List.Mem.tail _ (List.Mem.tail _ (List.Mem.head _)))) ?_
  refine am_iload dX4_ruleFor_102 (List.Mem.tail _ (List.Mem.tail _ (List.Mem.tail _ (List.Mem.tail _ (List.Mem.head _))))) ?_
  exact am_callv (d' := d) (kc := 0) (ks := 0) (as := [.inl x5]) dX4_ruleFor_104 wc_X3_kinCount wd_1174 wd_1149 wd_1150 wd_116 ds_X3_kinCount (by decide) (Nat.le_refl _) (Nat.le_of_ble_eq_true rfl) (Nat.zero_le _) (Nat.zero_le _) hc_4 (by decide) rfl rfl h
theorem bX4_ruleFor_115 {SC : Nat → Nat} {X : mh_X} {d : Nat} {Q : Option am_V → am_W → Prop} {bc bs : Nat} {w : am_W} {x1 : Int} {x2 : Int} {j4 : Nat} {x5 : Int} {x6 : Int} {xs0 : Int}
    (h : ((xs0 = 0 → am_A (mh_G X) SC (d + 1) mX4_ruleFor Q 142 [(0, .inr (.inr (some (6, 0)))), (1, .inl x1), (2, .inl x2), (4, .inr (.inr (some (10, j4)))), (5, .inl x5), (6, .inl x6)] [] w bc bs) ∧ (¬ xs0 = 0 → am_M (mh_G X) SC d 0 0 mX2_isKin [.inr (.inr (some (5, 0))), .inr (.inr (some (10, j4))), .inl x6, .inl x1, .inl x2] w (fun r w1 => am_A (mh_G X) SC (d + 1) mX4_ruleFor Q 135 [(7, .inl xs0), (0, .inr (.inr (some (6, 0)))), (1, .inl x1), (2, .inl x2), (4, .inr (.inr (some (10, j4)))), (5, .inl x5), (6, .inl x6)] (r.toList ++ []) w1 bc bs)))) :
    am_A (mh_G X) SC (d + 1) mX4_ruleFor Q 115 [(0, .inr (.inr (some (6, 0)))), (1, .inl x1), (2, .inl x2), (4, .inr (.inr (some (10, j4)))), (5, .inl x5), (6, .inl x6)] [.inl xs0] w bc bs := by
  refine am_istore (ls' := [(7, .inl xs0), (0, .inr (.inr (some (6, 0)))), (1, .inl x1), (2, .inl x2), (4, .inr (.inr (some (10, j4)))), (5, .inl x5), (6, .inl x6)]) dX4_ruleFor_115 (by decide) rfl ?_
  refine am_iload dX4_ruleFor_117 (List.Mem.head _) ?_
  refine am_ifeq (tgt := 142) dX4_ruleFor_119 (by decide) (fun c1 => ?_) (fun c1 => ?_)
  · replace h := h.1 c1
    exact am_sub [1, 2, 3, 4, 5, 6] rfl h
  · replace h := h.2 c1
    refine am_aload_n dX4_ruleFor_122 (List.Mem.tail _ (List.Mem.head _)) ?_
    refine am_getf (f := 0) (v := .inr (.inr (some (5, 0)))) dX4_ruleFor_123 hc_6 (by decide) wd_438 (by decide) rfl rfl ?_
    refine am_aload dX4_ruleFor_126 (List.Mem.tail _ (List.Mem.tail _ (List.Mem.tail _ (List.Mem.tail _ (List.Mem.head _))))) ?_
    refine am_iload dX4_ruleFor_128 (List.Mem.tail _ (List.Mem.tail _ (List.Mem.tail _ (List.Mem.tail _ (List.Mem.tail _ (List.Mem.tail _ (List.Mem.head _))))))) ?_
    refine am_iload_n dX4_ruleFor_130 (List.Mem.tail _ (List.Mem.tail _ (List.Mem.head _))) ?_
    refine am_iload_n dX4_ruleFor_131 (List.Mem.tail _ (List.Mem.tail _ (List.Mem.tail _ (List.Mem.head _)))) ?_
    exact am_callv (d' := d) (kc := 0) (ks := 0) (as := [.inr (.inr (some (10, j4))), .inl x6, .inl x1, .inl x2]) dX4_ruleFor_132 wc_X2_isKin wd_1175 wd_1144 wd_1145 wd_117 ds_X2_isKin (by decide) (Nat.le_refl _) (Nat.le_of_ble_eq_true rfl) (Nat.zero_le _) (Nat.zero_le _) hc_5 (by decide) rfl rfl h
theorem bX4_ruleFor_107 {SC : Nat → Nat} {X : mh_X} {d : Nat} {Q : Option am_V → am_W → Prop} {bc bs : Nat} {w : am_W} {x1 : Int} {x2 : Int} {j4 : Nat} {x5 : Int} {x6 : Int} {xs0 : Int} {xs1 : Int}
    (h : ((xs0 < xs1 → am_A (mh_G X) SC (d + 1) mX4_ruleFor Q 115 [(0, .inr (.inr (some (6, 0)))), (1, .inl x1), (2, .inl x2), (4, .inr (.inr (some (10, j4)))), (5, .inl x5), (6, .inl x6)] [.inl 0] w bc bs) ∧ (¬ xs0 < xs1 → am_A (mh_G X) SC (d + 1) mX4_ruleFor Q 110 [(0, .inr (.inr (some (6, 0)))), (1, .inl x1), (2, .inl x2), (4, .inr (.inr (some (10, j4)))), (5, .inl x5), (6, .inl x6)] [] w bc bs))) :
    am_A (mh_G X) SC (d + 1) mX4_ruleFor Q 107 [(0, .inr (.inr (some (6, 0)))), (1, .inl x1), (2, .inl x2), (4, .inr (.inr (some (10, j4)))), (5, .inl x5), (6, .inl x6)] [.inl xs0, .inl xs1] w bc bs := by
  refine am_icmpgt (tgt := 114) dX4_ruleFor_107 (by decide) (fun c1 => ?_) (fun c1 => ?_)
  · replace h := h.1 c1
    refine am_iconst dX4_ruleFor_114 (by unfold am_rg; omega) ?_
    exact h
  · replace h := h.2 c1
    exact h
theorem bX4_ruleFor_142 {SC : Nat → Nat} {X : mh_X} {d : Nat} {Q : Option am_V → am_W → Prop} {bc bs : Nat} {w : am_W} {x1 : Int} {x2 : Int} {j4 : Nat} {x5 : Int} {x6 : Int}
    (h : am_A (mh_G X) SC (d + 1) mX4_ruleFor Q 77 [(0, .inr (.inr (some (6, 0)))), (1, .inl x1), (2, .inl x2), (4, .inr (.inr (some (10, j4)))), (5, .inl x5), (6, .inl (am_w (x6 + 1)))] [] w bc bs) :
    am_A (mh_G X) SC (d + 1) mX4_ruleFor Q 142 [(0, .inr (.inr (some (6, 0)))), (1, .inl x1), (2, .inl x2), (4, .inr (.inr (some (10, j4)))), (5, .inl x5), (6, .inl x6)] [] w bc bs := by
  refine am_iinc (ls' := [(6, .inl (am_w (x6 + 1))), (0, .inr (.inr (some (6, 0)))), (1, .inl x1), (2, .inl x2), (4, .inr (.inr (some (10, j4)))), (5, .inl x5)]) dX4_ruleFor_142 (List.Mem.tail _ (List.Mem.tail _ (List.Mem.tail _ (List.Mem.tail _ (List.Mem.tail _ (List.Mem.head _)))))) (by decide) rfl ?_
  refine am_goto (tgt := 77) dX4_ruleFor_145 (by decide) ?_
  exact am_sub [1, 2, 3, 4, 5, 0] rfl h
theorem bX4_ruleFor_135 {SC : Nat → Nat} {X : mh_X} {d : Nat} {Q : Option am_V → am_W → Prop} {bc bs : Nat} {w : am_W} {x7 : Int} {x1 : Int} {x2 : Int} {j4 : Nat} {x5 : Int} {x6 : Int} {xs0 : Int}
    (h : ((xs0 = 0 → am_A (mh_G X) SC (d + 1) mX4_ruleFor Q 142 [(0, .inr (.inr (some (6, 0)))), (1, .inl x1), (2, .inl x2), (4, .inr (.inr (some (10, j4)))), (5, .inl x5), (6, .inl x6)] [] w bc bs) ∧ (¬ xs0 = 0 → am_A (mh_G X) SC (d + 1) mX4_ruleFor Q 142 [(0, .inr (.inr (some (6, 0)))), (1, .inl x1), (2, .inl x2), (4, .inr (.inr (some (10, j4)))), (5, .inl x6), (6, .inl x6)] [] w bc bs))) :
    am_A (mh_G X) SC (d + 1) mX4_ruleFor Q 135 [(7, .inl x7), (0, .inr (.inr (some (6, 0)))), (1, .inl x1), (2, .inl x2), (4, .inr (.inr (some (10, j4)))), (5, .inl x5), (6, .inl x6)] [.inl xs0] w bc bs := by
  refine am_ifeq (tgt := 142) dX4_ruleFor_135 (by decide) (fun c1 => ?_) (fun c1 => ?_)
  · replace h := h.1 c1
    exact am_sub [1, 2, 3, 4, 5, 6] rfl h
  · replace h := h.2 c1
    refine am_iload dX4_ruleFor_138 (List.Mem.tail _ (List.Mem.tail _ (List.Mem.tail _ (List.Mem.tail _ (List.Mem.tail _ (List.Mem.tail _ (List.Mem.head _))))))) ?_
    refine am_istore (ls' := [(5, .inl x6), (7, .inl x7), (0, .inr (.inr (some (6, 0)))), (1, .inl x1), (2, .inl x2), (4, .inr (.inr (some (10, j4)))), (6, .inl x6)]) dX4_ruleFor_140 (by decide) rfl ?_
    exact am_sub [2, 3, 4, 5, 0, 6] rfl h
-- MourningHouse$Mourner.study(II)V
theorem dX4_study_0 : decode mX4_study.2.1 0 = .ok (.aload_n 0, 1) := by decide +kernel
theorem dX4_study_1 : decode mX4_study.2.1 1 = .ok (.iload_n 1, 1) := by decide +kernel
theorem dX4_study_2 : decode mX4_study.2.1 2 = .ok (.putfield 23, 3) := by decide +kernel
theorem dX4_study_5 : decode mX4_study.2.1 5 = .ok (.aload_n 0, 1) := by decide +kernel
theorem dX4_study_6 : decode mX4_study.2.1 6 = .ok (.iload_n 2, 1) := by decide +kernel
theorem dX4_study_7 : decode mX4_study.2.1 7 = .ok (.putfield 26, 3) := by decide +kernel
theorem dX4_study_10 : decode mX4_study.2.1 10 = .ok (.aload_n 0, 1) := by decide +kernel
theorem dX4_study_11 : decode mX4_study.2.1 11 = .ok (.iconst 0, 1) := by decide +kernel
theorem dX4_study_12 : decode mX4_study.2.1 12 = .ok (.putfield 19, 3) := by decide +kernel
theorem dX4_study_15 : decode mX4_study.2.1 15 = .ok (.iconst 0, 1) := by decide +kernel
theorem dX4_study_16 : decode mX4_study.2.1 16 = .ok (.istore_n 3, 1) := by decide +kernel
theorem dX4_study_17 : decode mX4_study.2.1 17 = .ok (.iload_n 3, 1) := by decide +kernel
theorem dX4_study_18 : decode mX4_study.2.1 18 = .ok (.aload_n 0, 1) := by decide +kernel
theorem dX4_study_19 : decode mX4_study.2.1 19 = .ok (.getfield 41, 3) := by decide +kernel
theorem dX4_study_22 : decode mX4_study.2.1 22 = .ok (.getfield 85, 3) := by decide +kernel
theorem dX4_study_25 : decode mX4_study.2.1 25 = .ok (.if_icmp .ge 40, 3) := by decide +kernel
theorem dX4_study_28 : decode mX4_study.2.1 28 = .ok (.aload_n 0, 1) := by decide +kernel
theorem dX4_study_29 : decode mX4_study.2.1 29 = .ok (.getfield 19, 3) := by decide +kernel
theorem dX4_study_32 : decode mX4_study.2.1 32 = .ok (.bipush 40, 2) := by decide +kernel
theorem dX4_study_34 : decode mX4_study.2.1 34 = .ok (.if_icmp .ge 31, 3) := by decide +kernel
theorem dX4_study_37 : decode mX4_study.2.1 37 = .ok (.aload_n 0, 1) := by decide +kernel
theorem dX4_study_38 : decode mX4_study.2.1 38 = .ok (.iload_n 1, 1) := by decide +kernel
theorem dX4_study_39 : decode mX4_study.2.1 39 = .ok (.iload_n 3, 1) := by decide +kernel
theorem dX4_study_40 : decode mX4_study.2.1 40 = .ok (.iload_n 2, 1) := by decide +kernel
theorem dX4_study_41 : decode mX4_study.2.1 41 = .ok (.invokevirtual 88, 3) := by decide +kernel
theorem dX4_study_44 : decode mX4_study.2.1 44 = .ok (.istore 4, 2) := by decide +kernel
theorem dX4_study_46 : decode mX4_study.2.1 46 = .ok (.iload 4, 2) := by decide +kernel
theorem dX4_study_48 : decode mX4_study.2.1 48 = .ok (.iconst (-1), 1) := by decide +kernel
theorem dX4_study_49 : decode mX4_study.2.1 49 = .ok (.if_icmp .eq 10, 3) := by decide +kernel
theorem dX4_study_52 : decode mX4_study.2.1 52 = .ok (.aload_n 0, 1) := by decide +kernel
theorem dX4_study_53 : decode mX4_study.2.1 53 = .ok (.iload_n 3, 1) := by decide +kernel
theorem dX4_study_54 : decode mX4_study.2.1 54 = .ok (.iload 4, 2) := by decide +kernel
theorem dX4_study_56 : decode mX4_study.2.1 56 = .ok (.invokevirtual 92, 3) := by decide +kernel
theorem dX4_study_59 : decode mX4_study.2.1 59 = .ok (.iinc 3 1, 3) := by decide +kernel
theorem dX4_study_62 : decode mX4_study.2.1 62 = .ok (.goto (-45), 3) := by decide +kernel
theorem dX4_study_65 : decode mX4_study.2.1 65 = .ok (.aload_n 0, 1) := by decide +kernel
theorem dX4_study_66 : decode mX4_study.2.1 66 = .ok (.ldc 95, 2) := by decide +kernel
theorem dX4_study_68 : decode mX4_study.2.1 68 = .ok (.putfield 29, 3) := by decide +kernel
theorem dX4_study_71 : decode mX4_study.2.1 71 = .ok (.aload_n 0, 1) := by decide +kernel
theorem dX4_study_72 : decode mX4_study.2.1 72 = .ok (.invokevirtual 96, 3) := by decide +kernel
theorem dX4_study_75 : decode mX4_study.2.1 75 = .ok (.return_, 1) := by decide +kernel
theorem bX4_study_0 {SC : Nat → Nat} {X : mh_X} {d : Nat} {Q : Option am_V → am_W → Prop} {bc bs : Nat} {w : am_W} {x1 : Int} {x2 : Int}
    (h : am_A (mh_G X) SC (d + 1) mX4_study Q 17 [(0, .inr (.inr (some (6, 0)))), (1, .inl x1), (2, .inl x2), (3, .inl 0)] [] ((am_up (am_up (am_up w.1 6 0 4 x1) 6 0 5 x2) 6 0 3 0), w.2) bc bs) :
    am_A (mh_G X) SC (d + 1) mX4_study Q 0 [(0, .inr (.inr (some (6, 0)))), (1, .inl x1), (2, .inl x2)] [] w bc bs := by
  refine am_aload_n dX4_study_0 (List.Mem.head _) ?_
  refine am_iload_n dX4_study_1 (List.Mem.tail _ (List.Mem.head _)) ?_
  refine am_putf (f := 4) dX4_study_2 hc_6 (by decide) wd_442 rfl (Or.inl rfl) (Or.inl (by decide)) rfl ?_
  refine am_aload_n dX4_study_5 (List.Mem.head _) ?_
  refine am_iload_n dX4_study_6 (List.Mem.tail _ (List.Mem.tail _ (List.Mem.head _))) ?_
  refine am_putf (f := 5) dX4_study_7 hc_6 (by decide) wd_443 rfl (Or.inl rfl) (Or.inl (by decide)) rfl ?_
  refine am_aload_n dX4_study_10 (List.Mem.head _) ?_
  refine am_iconst dX4_study_11 (by unfold am_rg; omega) ?_
  refine am_putf (f := 3) dX4_study_12 hc_6 (by decide) wd_441 rfl (Or.inl rfl) (Or.inl (by decide)) rfl ?_
  refine am_iconst dX4_study_15 (by unfold am_rg; omega) ?_
  refine am_istore_n (ls' := [(3, .inl 0), (0, .inr (.inr (some (6, 0)))), (1, .inl x1), (2, .inl x2)]) dX4_study_16 (by decide) rfl ?_
  exact am_sub [1, 2, 3, 0] rfl h
theorem bX4_study_17 {SC : Nat → Nat} {X : mh_X} {d : Nat} {Q : Option am_V → am_W → Prop} {bc bs : Nat} {w : am_W} {x1 : Int} {x2 : Int} {x3 : Int}
    (h : (((w.1 5 0 18) ≤ x3 → am_A (mh_G X) SC (d + 1) mX4_study Q 65 [(0, .inr (.inr (some (6, 0))))] [] w bc bs) ∧ (¬ (w.1 5 0 18) ≤ x3 → ((40 ≤ (w.1 6 0 3) → am_A (mh_G X) SC (d + 1) mX4_study Q 65 [(0, .inr (.inr (some (6, 0))))] [] w bc bs) ∧ (¬ 40 ≤ (w.1 6 0 3) → am_M (mh_G X) SC d 0 0 mX4_ruleFor [.inr (.inr (some (6, 0))), .inl x1, .inl x3, .inl x2] w (fun r w1 => am_A (mh_G X) SC (d + 1) mX4_study Q 44 [(0, .inr (.inr (some (6, 0)))), (1, .inl x1), (2, .inl x2), (3, .inl x3)] (r.toList ++ []) w1 bc bs)))))) :
    am_A (mh_G X) SC (d + 1) mX4_study Q 17 [(0, .inr (.inr (some (6, 0)))), (1, .inl x1), (2, .inl x2), (3, .inl x3)] [] w bc bs := by
  refine am_iload_n dX4_study_17 (List.Mem.tail _ (List.Mem.tail _ (List.Mem.tail _ (List.Mem.head _)))) ?_
  refine am_aload_n dX4_study_18 (List.Mem.head _) ?_
  refine am_getf (f := 0) (v := .inr (.inr (some (5, 0)))) dX4_study_19 hc_6 (by decide) wd_438 (by decide) rfl rfl ?_
  refine am_getf (f := 18) (v := .inl (w.1 5 0 18)) dX4_study_22 hc_5 (by decide) wd_340 (by decide) rfl rfl ?_
  refine am_icmpge (tgt := 65) dX4_study_25 (by decide) (fun c1 => ?_) (fun c1 => ?_)
  · replace h := h.1 c1
    exact am_sub [0] rfl h
  · replace h := h.2 c1
    refine am_aload_n dX4_study_28 (List.Mem.head _) ?_
    refine am_getf (f := 3) (v := .inl (w.1 6 0 3)) dX4_study_29 hc_6 (by decide) wd_441 (by decide) rfl rfl ?_
    refine am_bipush dX4_study_32 (by decide) (by unfold am_rg; omega) ?_
    refine am_icmpge (tgt := 65) dX4_study_34 (by decide) (fun c2 => ?_) (fun c2 => ?_)
    · replace h := h.1 c2
      exact am_sub [0] rfl h
    · replace h := h.2 c2
      refine am_aload_n dX4_study_37 (List.Mem.head _) ?_
      refine am_iload_n dX4_study_38 (List.Mem.tail _ (List.Mem.head _)) ?_
      refine am_iload_n dX4_study_39 (List.Mem.tail _ (List.Mem.tail _ (List.Mem.tail _ (List.Mem.head _)))) ?_
      refine am_iload_n dX4_study_40 (List.Mem.tail _ (List.Mem.tail _ (List.Mem.head _))) ?_
      exact am_callv (d' := d) (kc := 0) (ks := 0) (as := [.inl x1, .inl x3, .inl x2]) dX4_study_41 wc_X4_ruleFor wd_1184 wd_1166 wd_1167 wd_118 ds_X4_ruleFor (by decide) (Nat.le_refl _) (Nat.le_of_ble_eq_true rfl) (Nat.zero_le _) (Nat.zero_le _) hc_6 (by decide) rfl rfl h
theorem bX4_study_65 {SC : Nat → Nat} {X : mh_X} {d : Nat} {Q : Option am_V → am_W → Prop} {bc bs : Nat} {w : am_W} 
    (h : am_M (mh_G X) SC d 0 0 mX4_lookAhead [.inr (.inr (some (6, 0)))] ((am_up w.1 6 0 6 (-36524)), w.2) (fun r w1 => am_A (mh_G X) SC (d + 1) mX4_study Q 75 [(0, .inr (.inr (some (6, 0))))] (r.toList ++ []) w1 bc bs)) :
    am_A (mh_G X) SC (d + 1) mX4_study Q 65 [(0, .inr (.inr (some (6, 0))))] [] w bc bs := by
  refine am_aload_n dX4_study_65 (List.Mem.head _) ?_
  refine am_ldcV (n := (-36524)) dX4_study_66 (by decide) wd_1211 (by unfold am_rg; omega) ?_
  refine am_putf (f := 6) dX4_study_68 hc_6 (by decide) wd_444 rfl (Or.inl rfl) (Or.inl (by decide)) rfl ?_
  refine am_aload_n dX4_study_71 (List.Mem.head _) ?_
  exact am_callv (d' := d) (kc := 0) (ks := 0) (as := []) dX4_study_72 wc_X4_lookAhead wd_1212 wd_1214 wd_34 wd_118 ds_X4_lookAhead (by decide) (Nat.le_refl _) (Nat.le_of_ble_eq_true rfl) (Nat.zero_le _) (Nat.zero_le _) hc_6 (by decide) rfl rfl h
theorem bX4_study_44 {SC : Nat → Nat} {X : mh_X} {d : Nat} {Q : Option am_V → am_W → Prop} {bc bs : Nat} {w : am_W} {x1 : Int} {x2 : Int} {x3 : Int} {xs0 : Int}
    (h : ((xs0 = (-1) → am_A (mh_G X) SC (d + 1) mX4_study Q 59 [(0, .inr (.inr (some (6, 0)))), (1, .inl x1), (2, .inl x2), (3, .inl x3)] [] w bc bs) ∧ (¬ xs0 = (-1) → am_M (mh_G X) SC d 0 0 mX4_startMourning [.inr (.inr (some (6, 0))), .inl x3, .inl xs0] w (fun r w1 => am_A (mh_G X) SC (d + 1) mX4_study Q 59 [(4, .inl xs0), (0, .inr (.inr (some (6, 0)))), (1, .inl x1), (2, .inl x2), (3, .inl x3)] (r.toList ++ []) w1 bc bs)))) :
    am_A (mh_G X) SC (d + 1) mX4_study Q 44 [(0, .inr (.inr (some (6, 0)))), (1, .inl x1), (2, .inl x2), (3, .inl x3)] [.inl xs0] w bc bs := by
  refine am_istore (ls' := [(4, .inl xs0), (0, .inr (.inr (some (6, 0)))), (1, .inl x1), (2, .inl x2), (3, .inl x3)]) dX4_study_44 (by decide) rfl ?_
  refine am_iload dX4_study_46 (List.Mem.head _) ?_
  refine am_iconst dX4_study_48 (by unfold am_rg; omega) ?_
  refine am_icmpeq (tgt := 59) dX4_study_49 (by decide) (fun c1 => ?_) (fun c1 => ?_)
  · replace h := h.1 c1
    exact am_sub [1, 2, 3, 4] rfl h
  · replace h := h.2 c1
    refine am_aload_n dX4_study_52 (List.Mem.tail _ (List.Mem.head _)) ?_
    refine am_iload_n dX4_study_53 (List.Mem.tail _ (List.Mem.tail _ (List.Mem.tail _ (List.Mem.tail _ (List.Mem.head _))))) ?_
    refine am_iload dX4_study_54 (List.Mem.head _) ?_
    exact am_callv (d' := d) (kc := 0) (ks := 0) (as := [.inl x3, .inl xs0]) dX4_study_56 wc_X4_startMourning wd_1185 wd_1187 wd_33 wd_118 ds_X4_startMourning (by decide) (Nat.le_refl _) (Nat.le_of_ble_eq_true rfl) (Nat.zero_le _) (Nat.zero_le _) hc_6 (by decide) rfl rfl h
theorem bX4_study_75 {SC : Nat → Nat} {X : mh_X} {d : Nat} {Q : Option am_V → am_W → Prop} {bc bs : Nat} {w : am_W} 
    (h : Q none w) :
    am_A (mh_G X) SC (d + 1) mX4_study Q 75 [(0, .inr (.inr (some (6, 0))))] [] w bc bs := by
  exact am_ret (r := none) dX4_study_75 rfl rfl h
theorem bX4_study_59 {SC : Nat → Nat} {X : mh_X} {d : Nat} {Q : Option am_V → am_W → Prop} {bc bs : Nat} {w : am_W} {x1 : Int} {x2 : Int} {x3 : Int}
    (h : am_A (mh_G X) SC (d + 1) mX4_study Q 17 [(0, .inr (.inr (some (6, 0)))), (1, .inl x1), (2, .inl x2), (3, .inl (am_w (x3 + 1)))] [] w bc bs) :
    am_A (mh_G X) SC (d + 1) mX4_study Q 59 [(0, .inr (.inr (some (6, 0)))), (1, .inl x1), (2, .inl x2), (3, .inl x3)] [] w bc bs := by
  refine am_iinc (ls' := [(3, .inl (am_w (x3 + 1))), (0, .inr (.inr (some (6, 0)))), (1, .inl x1), (2, .inl x2)]) dX4_study_59 (List.Mem.tail _ (List.Mem.tail _ (List.Mem.tail _ (List.Mem.head _)))) (by decide) rfl ?_
  refine am_goto (tgt := 17) dX4_study_62 (by decide) ?_
  exact am_sub [1, 2, 3, 0] rfl h
theorem bX4_study_59a {SC : Nat → Nat} {X : mh_X} {d : Nat} {Q : Option am_V → am_W → Prop} {bc bs : Nat} {w : am_W} {x4 : Int} {x1 : Int} {x2 : Int} {x3 : Int}
    (h : am_A (mh_G X) SC (d + 1) mX4_study Q 17 [(0, .inr (.inr (some (6, 0)))), (1, .inl x1), (2, .inl x2), (3, .inl (am_w (x3 + 1)))] [] w bc bs) :
    am_A (mh_G X) SC (d + 1) mX4_study Q 59 [(4, .inl x4), (0, .inr (.inr (some (6, 0)))), (1, .inl x1), (2, .inl x2), (3, .inl x3)] [] w bc bs := by
  refine am_iinc (ls' := [(3, .inl (am_w (x3 + 1))), (4, .inl x4), (0, .inr (.inr (some (6, 0)))), (1, .inl x1), (2, .inl x2)]) dX4_study_59 (List.Mem.tail _ (List.Mem.tail _ (List.Mem.tail _ (List.Mem.tail _ (List.Mem.head _))))) (by decide) rfl ?_
  refine am_goto (tgt := 17) dX4_study_62 (by decide) ?_
  exact am_sub [2, 3, 4, 0] rfl h
-- MourningHouse$Mourner.startMourning(II)V
theorem dX4_startMourning_0 : decode mX4_startMourning.2.1 0 = .ok (.aload_n 0, 1) := by decide +kernel
theorem dX4_startMourning_1 : decode mX4_startMourning.2.1 1 = .ok (.getfield 45, 3) := by decide +kernel
theorem dX4_startMourning_4 : decode mX4_startMourning.2.1 4 = .ok (.aload_n 0, 1) := by decide +kernel
theorem dX4_startMourning_5 : decode mX4_startMourning.2.1 5 = .ok (.getfield 41, 3) := by decide +kernel
theorem dX4_startMourning_8 : decode mX4_startMourning.2.1 8 = .ok (.getfield 59, 3) := by decide +kernel
theorem dX4_startMourning_11 : decode mX4_startMourning.2.1 11 = .ok (.iload_n 1, 1) := by decide +kernel
theorem dX4_startMourning_12 : decode mX4_startMourning.2.1 12 = .ok (.iaload, 1) := by decide +kernel
theorem dX4_startMourning_13 : decode mX4_startMourning.2.1 13 = .ok (.aload_n 0, 1) := by decide +kernel
theorem dX4_startMourning_14 : decode mX4_startMourning.2.1 14 = .ok (.getfield 26, 3) := by decide +kernel
theorem dX4_startMourning_17 : decode mX4_startMourning.2.1 17 = .ok (.invokevirtual 62, 3) := by decide +kernel
theorem dX4_startMourning_20 : decode mX4_startMourning.2.1 20 = .ok (.astore_n 3, 1) := by decide +kernel
theorem dX4_startMourning_21 : decode mX4_startMourning.2.1 21 = .ok (.aload_n 0, 1) := by decide +kernel
theorem dX4_startMourning_22 : decode mX4_startMourning.2.1 22 = .ok (.getfield 15, 3) := by decide +kernel
theorem dX4_startMourning_25 : decode mX4_startMourning.2.1 25 = .ok (.aload_n 0, 1) := by decide +kernel
theorem dX4_startMourning_26 : decode mX4_startMourning.2.1 26 = .ok (.getfield 19, 3) := by decide +kernel
theorem dX4_startMourning_29 : decode mX4_startMourning.2.1 29 = .ok (.aaload, 1) := by decide +kernel
theorem dX4_startMourning_30 : decode mX4_startMourning.2.1 30 = .ok (.astore 4, 2) := by decide +kernel
theorem dX4_startMourning_32 : decode mX4_startMourning.2.1 32 = .ok (.aload_n 3, 1) := by decide +kernel
theorem dX4_startMourning_33 : decode mX4_startMourning.2.1 33 = .ok (.ifnull 8, 3) := by decide +kernel
theorem dX4_startMourning_36 : decode mX4_startMourning.2.1 36 = .ok (.aload 4, 2) := by decide +kernel
theorem dX4_startMourning_38 : decode mX4_startMourning.2.1 38 = .ok (.ifnonnull 4, 3) := by decide +kernel
theorem dX4_startMourning_41 : decode mX4_startMourning.2.1 41 = .ok (.return_, 1) := by decide +kernel
theorem dX4_startMourning_42 : decode mX4_startMourning.2.1 42 = .ok (.aload_n 3, 1) := by decide +kernel
theorem dX4_startMourning_43 : decode mX4_startMourning.2.1 43 = .ok (.iload_n 2, 1) := by decide +kernel
theorem dX4_startMourning_44 : decode mX4_startMourning.2.1 44 = .ok (.iconst 3, 1) := by decide +kernel
theorem dX4_startMourning_45 : decode mX4_startMourning.2.1 45 = .ok (.invokevirtual 99, 3) := by decide +kernel
theorem dX4_startMourning_48 : decode mX4_startMourning.2.1 48 = .ok (.ifCond .eq 15, 3) := by decide +kernel
theorem dX4_startMourning_51 : decode mX4_startMourning.2.1 51 = .ok (.aload_n 0, 1) := by decide +kernel
theorem dX4_startMourning_52 : decode mX4_startMourning.2.1 52 = .ok (.getfield 41, 3) := by decide +kernel
theorem dX4_startMourning_55 : decode mX4_startMourning.2.1 55 = .ok (.getfield 56, 3) := by decide +kernel
theorem dX4_startMourning_58 : decode mX4_startMourning.2.1 58 = .ok (.iload_n 1, 1) := by decide +kernel
theorem dX4_startMourning_59 : decode mX4_startMourning.2.1 59 = .ok (.iaload, 1) := by decide +kernel
theorem dX4_startMourning_60 : decode mX4_startMourning.2.1 60 = .ok (.goto 12, 3) := by decide +kernel
theorem dX4_startMourning_63 : decode mX4_startMourning.2.1 63 = .ok (.aload_n 0, 1) := by decide +kernel
theorem dX4_startMourning_64 : decode mX4_startMourning.2.1 64 = .ok (.getfield 41, 3) := by decide +kernel
theorem dX4_startMourning_67 : decode mX4_startMourning.2.1 67 = .ok (.getfield 59, 3) := by decide +kernel
theorem dX4_startMourning_70 : decode mX4_startMourning.2.1 70 = .ok (.iload_n 1, 1) := by decide +kernel
theorem dX4_startMourning_71 : decode mX4_startMourning.2.1 71 = .ok (.iaload, 1) := by decide +kernel
theorem dX4_startMourning_72 : decode mX4_startMourning.2.1 72 = .ok (.istore 5, 2) := by decide +kernel
theorem dX4_startMourning_74 : decode mX4_startMourning.2.1 74 = .ok (.aload_n 3, 1) := by decide +kernel
theorem dX4_startMourning_75 : decode mX4_startMourning.2.1 75 = .ok (.iload_n 2, 1) := by decide +kernel
theorem dX4_startMourning_76 : decode mX4_startMourning.2.1 76 = .ok (.iconst 0, 1) := by decide +kernel
theorem dX4_startMourning_77 : decode mX4_startMourning.2.1 77 = .ok (.invokevirtual 99, 3) := by decide +kernel
theorem dX4_startMourning_80 : decode mX4_startMourning.2.1 80 = .ok (.ifCond .eq 21, 3) := by decide +kernel
theorem dX4_startMourning_83 : decode mX4_startMourning.2.1 83 = .ok (.aload_n 0, 1) := by decide +kernel
theorem dX4_startMourning_84 : decode mX4_startMourning.2.1 84 = .ok (.getfield 41, 3) := by decide +kernel
theorem dX4_startMourning_87 : decode mX4_startMourning.2.1 87 = .ok (.aload_n 0, 1) := by decide +kernel
theorem dX4_startMourning_88 : decode mX4_startMourning.2.1 88 = .ok (.getfield 23, 3) := by decide +kernel
theorem dX4_startMourning_91 : decode mX4_startMourning.2.1 91 = .ok (.invokevirtual 103, 3) := by decide +kernel
theorem dX4_startMourning_94 : decode mX4_startMourning.2.1 94 = .ok (.ifCond .eq 7, 3) := by decide +kernel
theorem dX4_startMourning_97 : decode mX4_startMourning.2.1 97 = .ok (.iconst 1, 1) := by decide +kernel
theorem dX4_startMourning_98 : decode mX4_startMourning.2.1 98 = .ok (.goto 4, 3) := by decide +kernel
theorem dX4_startMourning_101 : decode mX4_startMourning.2.1 101 = .ok (.iconst 0, 1) := by decide +kernel
theorem dX4_startMourning_102 : decode mX4_startMourning.2.1 102 = .ok (.istore 6, 2) := by decide +kernel
theorem dX4_startMourning_104 : decode mX4_startMourning.2.1 104 = .ok (.aload 4, 2) := by decide +kernel
theorem dX4_startMourning_106 : decode mX4_startMourning.2.1 106 = .ok (.iload_n 1, 1) := by decide +kernel
theorem dX4_startMourning_107 : decode mX4_startMourning.2.1 107 = .ok (.iload 5, 2) := by decide +kernel
theorem dX4_startMourning_109 : decode mX4_startMourning.2.1 109 = .ok (.aload_n 0, 1) := by decide +kernel
theorem dX4_startMourning_110 : decode mX4_startMourning.2.1 110 = .ok (.getfield 41, 3) := by decide +kernel
theorem dX4_startMourning_113 : decode mX4_startMourning.2.1 113 = .ok (.getfield 107, 3) := by decide +kernel
theorem dX4_startMourning_116 : decode mX4_startMourning.2.1 116 = .ok (.aload_n 0, 1) := by decide +kernel
theorem dX4_startMourning_117 : decode mX4_startMourning.2.1 117 = .ok (.getfield 23, 3) := by decide +kernel
theorem dX4_startMourning_120 : decode mX4_startMourning.2.1 120 = .ok (.iaload, 1) := by decide +kernel
theorem dX4_startMourning_121 : decode mX4_startMourning.2.1 121 = .ok (.invokestatic 110, 3) := by decide +kernel
theorem dX4_startMourning_124 : decode mX4_startMourning.2.1 124 = .ok (.aload_n 3, 1) := by decide +kernel
theorem dX4_startMourning_125 : decode mX4_startMourning.2.1 125 = .ok (.iload_n 2, 1) := by decide +kernel
theorem dX4_startMourning_126 : decode mX4_startMourning.2.1 126 = .ok (.iload 6, 2) := by decide +kernel
theorem dX4_startMourning_128 : decode mX4_startMourning.2.1 128 = .ok (.invokevirtual 116, 3) := by decide +kernel
theorem dX4_startMourning_131 : decode mX4_startMourning.2.1 131 = .ok (.aload_n 0, 1) := by decide +kernel
theorem dX4_startMourning_132 : decode mX4_startMourning.2.1 132 = .ok (.dup, 1) := by decide +kernel
theorem dX4_startMourning_133 : decode mX4_startMourning.2.1 133 = .ok (.getfield 19, 3) := by decide +kernel
theorem dX4_startMourning_136 : decode mX4_startMourning.2.1 136 = .ok (.iconst 1, 1) := by decide +kernel
theorem dX4_startMourning_137 : decode mX4_startMourning.2.1 137 = .ok (.iadd, 1) := by decide +kernel
theorem dX4_startMourning_138 : decode mX4_startMourning.2.1 138 = .ok (.putfield 19, 3) := by decide +kernel
theorem dX4_startMourning_141 : decode mX4_startMourning.2.1 141 = .ok (.return_, 1) := by decide +kernel
theorem bX4_startMourning_0 {SC : Nat → Nat} {X : mh_X} {d : Nat} {Q : Option am_V → am_W → Prop} {bc bs : Nat} {w : am_W} {x1 : Int} {x2 : Int}
    (h : (0 ≤ x1 ∧ (x1 < 40 ∧ am_M (mh_G X) SC d 0 0 mX1_lawOn [.inr (.inr (some (4, 0))), .inl (w.1 39 0 x1.toNat), .inl (w.1 6 0 5)] w (fun r w1 => am_A (mh_G X) SC (d + 1) mX4_startMourning Q 20 [(0, .inr (.inr (some (6, 0)))), (1, .inl x1), (2, .inl x2)] (r.toList ++ []) w1 bc bs)))) :
    am_A (mh_G X) SC (d + 1) mX4_startMourning Q 0 [(0, .inr (.inr (some (6, 0)))), (1, .inl x1), (2, .inl x2)] [] w bc bs := by
  refine am_aload_n dX4_startMourning_0 (List.Mem.head _) ?_
  refine am_getf (f := 1) (v := .inr (.inr (some (4, 0)))) dX4_startMourning_1 hc_6 (by decide) wd_439 (by decide) rfl rfl ?_
  refine am_aload_n dX4_startMourning_4 (List.Mem.head _) ?_
  refine am_getf (f := 0) (v := .inr (.inr (some (5, 0)))) dX4_startMourning_5 hc_6 (by decide) wd_438 (by decide) rfl rfl ?_
  refine am_getf (f := 6) (v := .inr (.inr (some (39, 0)))) dX4_startMourning_8 hc_5 (by decide) wd_326 (by decide) rfl rfl ?_
  refine am_iload_n dX4_startMourning_11 (List.Mem.tail _ (List.Mem.head _)) ?_
  have o1 := h.1
  replace h := h.2
  have o2 := h.1
  replace h := h.2
  refine am_iaload (v := (w.1 39 0 x1.toNat)) dX4_startMourning_12 (by decide) rfl o1 o2 rfl ?_
  refine am_aload_n dX4_startMourning_13 (List.Mem.head _) ?_
  refine am_getf (f := 5) (v := .inl (w.1 6 0 5)) dX4_startMourning_14 hc_6 (by decide) wd_443 (by decide) rfl rfl ?_
  exact am_callv (d' := d) (kc := 0) (ks := 0) (as := [.inl (w.1 39 0 x1.toNat), .inl (w.1 6 0 5)]) dX4_startMourning_17 wc_X1_lawOn wd_1169 wd_1170 wd_1171 wd_115 ds_X1_lawOn (by decide) (Nat.le_refl _) (Nat.le_of_ble_eq_true rfl) (Nat.zero_le _) (Nat.zero_le _) hc_3 (by decide) rfl rfl h
theorem bX4_startMourning_20 {SC : Nat → Nat} {X : mh_X} {d : Nat} {Q : Option am_V → am_W → Prop} {bc bs : Nat} {w : am_W} {x1 : Int} {x2 : Int}
    (h : (0 ≤ (w.1 6 0 3) ∧ ((w.1 6 0 3) < 40 ∧ Q none w))) :
    am_A (mh_G X) SC (d + 1) mX4_startMourning Q 20 [(0, .inr (.inr (some (6, 0)))), (1, .inl x1), (2, .inl x2)] [.inr (.inr none)] w bc bs := by
  refine am_astore_n (ls' := [(3, .inr (.inr none)), (0, .inr (.inr (some (6, 0)))), (1, .inl x1), (2, .inl x2)]) dX4_startMourning_20 (by decide) rfl ?_
  refine am_aload_n dX4_startMourning_21 (List.Mem.tail _ (List.Mem.head _)) ?_
  refine am_getf (f := 2) (v := .inr (.inr (some (49, 0)))) dX4_startMourning_22 hc_6 (by decide) wd_440 (by decide) rfl rfl ?_
  refine am_aload_n dX4_startMourning_25 (List.Mem.tail _ (List.Mem.head _)) ?_
  refine am_getf (f := 3) (v := .inl (w.1 6 0 3)) dX4_startMourning_26 hc_6 (by decide) wd_441 (by decide) rfl rfl ?_
  have o1 := h.1
  replace h := h.2
  have o2 := h.1
  replace h := h.2
  refine am_aaload (kd := 8) (r := some (11, (w.1 6 0 3).toNat)) dX4_startMourning_29 (by decide) rfl (by decide) (by decide) o1 o2 rfl ?_
  refine am_astore (ls' := [(4, .inr (.inr (some (11, (w.1 6 0 3).toNat)))), (3, .inr (.inr none)), (0, .inr (.inr (some (6, 0)))), (1, .inl x1), (2, .inl x2)]) dX4_startMourning_30 (by decide) rfl ?_
  refine am_aload_n dX4_startMourning_32 (List.Mem.tail _ (List.Mem.head _)) ?_
  refine am_ifnull (tgt := 41) dX4_startMourning_33 (by decide) (fun _ => ?_) (fun e => absurd rfl e)
  exact am_ret (r := none) dX4_startMourning_41 rfl rfl h
theorem bX4_startMourning_20a {SC : Nat → Nat} {X : mh_X} {d : Nat} {Q : Option am_V → am_W → Prop} {bc bs : Nat} {w : am_W} {x1 : Int} {x2 : Int} {js0 : Nat}
    (h : (0 ≤ (w.1 6 0 3) ∧ ((w.1 6 0 3) < 40 ∧ am_M (mh_G X) SC d 0 0 mX3_hasOption [.inr (.inr (some (10, js0))), .inl x2, .inl 3] w (fun r w1 => am_A (mh_G X) SC (d + 1) mX4_startMourning Q 48 [(4, .inr (.inr (some (11, (w.1 6 0 3).toNat)))), (3, .inr (.inr (some (10, js0)))), (0, .inr (.inr (some (6, 0)))), (1, .inl x1), (2, .inl x2)] (r.toList ++ []) w1 bc bs)))) :
    am_A (mh_G X) SC (d + 1) mX4_startMourning Q 20 [(0, .inr (.inr (some (6, 0)))), (1, .inl x1), (2, .inl x2)] [.inr (.inr (some (10, js0)))] w bc bs := by
  refine am_astore_n (ls' := [(3, .inr (.inr (some (10, js0)))), (0, .inr (.inr (some (6, 0)))), (1, .inl x1), (2, .inl x2)]) dX4_startMourning_20 (by decide) rfl ?_
  refine am_aload_n dX4_startMourning_21 (List.Mem.tail _ (List.Mem.head _)) ?_
  refine am_getf (f := 2) (v := .inr (.inr (some (49, 0)))) dX4_startMourning_22 hc_6 (by decide) wd_440 (by decide) rfl rfl ?_
  refine am_aload_n dX4_startMourning_25 (List.Mem.tail _ (List.Mem.head _)) ?_
  refine am_getf (f := 3) (v := .inl (w.1 6 0 3)) dX4_startMourning_26 hc_6 (by decide) wd_441 (by decide) rfl rfl ?_
  have o1 := h.1
  replace h := h.2
  have o2 := h.1
  replace h := h.2
  refine am_aaload (kd := 8) (r := some (11, (w.1 6 0 3).toNat)) dX4_startMourning_29 (by decide) rfl (by decide) (by decide) o1 o2 rfl ?_
  refine am_astore (ls' := [(4, .inr (.inr (some (11, (w.1 6 0 3).toNat)))), (3, .inr (.inr (some (10, js0)))), (0, .inr (.inr (some (6, 0)))), (1, .inl x1), (2, .inl x2)]) dX4_startMourning_30 (by decide) rfl ?_
  refine am_aload_n dX4_startMourning_32 (List.Mem.tail _ (List.Mem.head _)) ?_
  refine am_ifnull (tgt := 41) dX4_startMourning_33 (by decide) (fun e => by cases e) (fun _ => ?_)
  refine am_aload dX4_startMourning_36 (List.Mem.head _) ?_
  refine am_ifnonnull (tgt := 42) dX4_startMourning_38 (by decide) (fun _ => ?_) (fun e => by cases e)
  refine am_aload_n dX4_startMourning_42 (List.Mem.tail _ (List.Mem.head _)) ?_
  refine am_iload_n dX4_startMourning_43 (List.Mem.tail _ (List.Mem.tail _ (List.Mem.tail _ (List.Mem.tail _ (List.Mem.head _))))) ?_
  refine am_iconst dX4_startMourning_44 (by unfold am_rg; omega) ?_
  exact am_callv (d' := d) (kc := 0) (ks := 0) (as := [.inl x2, .inl 3]) dX4_startMourning_45 wc_X3_hasOption wd_1189 wd_970 wd_971 wd_116 ds_X3_hasOption (by decide) (Nat.le_refl _) (Nat.le_of_ble_eq_true rfl) (Nat.zero_le _) (Nat.zero_le _) hc_4 (by decide) rfl rfl h
theorem bX4_startMourning_48 {SC : Nat → Nat} {X : mh_X} {d : Nat} {Q : Option am_V → am_W → Prop} {bc bs : Nat} {w : am_W} {j4 : Nat} {j3 : Nat} {x1 : Int} {x2 : Int} {xs0 : Int}
    (h : ((xs0 = 0 → (0 ≤ x1 ∧ (x1 < 40 ∧ am_A (mh_G X) SC (d + 1) mX4_startMourning Q 72 [(0, .inr (.inr (some (6, 0)))), (1, .inl x1), (2, .inl x2), (3, .inr (.inr (some (10, j3)))), (4, .inr (.inr (some (11, j4))))] [.inl (w.1 39 0 x1.toNat)] w bc bs))) ∧ (¬ xs0 = 0 → (0 ≤ x1 ∧ (x1 < 40 ∧ am_A (mh_G X) SC (d + 1) mX4_startMourning Q 72 [(0, .inr (.inr (some (6, 0)))), (1, .inl x1), (2, .inl x2), (3, .inr (.inr (some (10, j3)))), (4, .inr (.inr (some (11, j4))))] [.inl (w.1 40 0 x1.toNat)] w bc bs))))) :
    am_A (mh_G X) SC (d + 1) mX4_startMourning Q 48 [(4, .inr (.inr (some (11, j4)))), (3, .inr (.inr (some (10, j3)))), (0, .inr (.inr (some (6, 0)))), (1, .inl x1), (2, .inl x2)] [.inl xs0] w bc bs := by
  refine am_ifeq (tgt := 63) dX4_startMourning_48 (by decide) (fun c1 => ?_) (fun c1 => ?_)
  · replace h := h.1 c1
    refine am_aload_n dX4_startMourning_63 (List.Mem.tail _ (List.Mem.tail _ (List.Mem.head _))) ?_
    refine am_getf (f := 0) (v := .inr (.inr (some (5, 0)))) dX4_startMourning_64 hc_6 (by decide) wd_438 (by decide) rfl rfl ?_
    refine am_getf (f := 6) (v := .inr (.inr (some (39, 0)))) dX4_startMourning_67 hc_5 (by decide) wd_326 (by decide) rfl rfl ?_
    refine am_iload_n dX4_startMourning_70 (List.Mem.tail _ (List.Mem.tail _ (List.Mem.tail _ (List.Mem.head _)))) ?_
    have o2 := h.1
    replace h := h.2
    have o3 := h.1
    replace h := h.2
    refine am_iaload (v := (w.1 39 0 x1.toNat)) dX4_startMourning_71 (by decide) rfl o2 o3 rfl ?_
    exact am_sub [2, 3, 4, 1, 0] rfl h
  · replace h := h.2 c1
    refine am_aload_n dX4_startMourning_51 (List.Mem.tail _ (List.Mem.tail _ (List.Mem.head _))) ?_
    refine am_getf (f := 0) (v := .inr (.inr (some (5, 0)))) dX4_startMourning_52 hc_6 (by decide) wd_438 (by decide) rfl rfl ?_
    refine am_getf (f := 7) (v := .inr (.inr (some (40, 0)))) dX4_startMourning_55 hc_5 (by decide) wd_328 (by decide) rfl rfl ?_
    refine am_iload_n dX4_startMourning_58 (List.Mem.tail _ (List.Mem.tail _ (List.Mem.tail _ (List.Mem.head _)))) ?_
    have o4 := h.1
    replace h := h.2
    have o5 := h.1
    replace h := h.2
    refine am_iaload (v := (w.1 40 0 x1.toNat)) dX4_startMourning_59 (by decide) rfl o4 o5 rfl ?_
    refine am_goto (tgt := 72) dX4_startMourning_60 (by decide) ?_
    exact am_sub [2, 3, 4, 1, 0] rfl h
theorem bX4_startMourning_72 {SC : Nat → Nat} {X : mh_X} {d : Nat} {Q : Option am_V → am_W → Prop} {bc bs : Nat} {w : am_W} {x1 : Int} {x2 : Int} {j3 : Nat} {j4 : Nat} {xs0 : Int}
    (h : am_M (mh_G X) SC d 0 0 mX3_hasOption [.inr (.inr (some (10, j3))), .inl x2, .inl 0] w (fun r w1 => am_A (mh_G X) SC (d + 1) mX4_startMourning Q 80 [(5, .inl xs0), (0, .inr (.inr (some (6, 0)))), (1, .inl x1), (2, .inl x2), (3, .inr (.inr (some (10, j3)))), (4, .inr (.inr (some (11, j4))))] (r.toList ++ []) w1 bc bs)) :
    am_A (mh_G X) SC (d + 1) mX4_startMourning Q 72 [(0, .inr (.inr (some (6, 0)))), (1, .inl x1), (2, .inl x2), (3, .inr (.inr (some (10, j3)))), (4, .inr (.inr (some (11, j4))))] [.inl xs0] w bc bs := by
  refine am_istore (ls' := [(5, .inl xs0), (0, .inr (.inr (some (6, 0)))), (1, .inl x1), (2, .inl x2), (3, .inr (.inr (some (10, j3)))), (4, .inr (.inr (some (11, j4))))]) dX4_startMourning_72 (by decide) rfl ?_
  refine am_aload_n dX4_startMourning_74 (List.Mem.tail _ (List.Mem.tail _ (List.Mem.tail _ (List.Mem.tail _ (List.Mem.head _))))) ?_
  refine am_iload_n dX4_startMourning_75 (List.Mem.tail _ (List.Mem.tail _ (List.Mem.tail _ (List.Mem.head _)))) ?_
  refine am_iconst dX4_startMourning_76 (by unfold am_rg; omega) ?_
  exact am_callv (d' := d) (kc := 0) (ks := 0) (as := [.inl x2, .inl 0]) dX4_startMourning_77 wc_X3_hasOption wd_1189 wd_970 wd_971 wd_116 ds_X3_hasOption (by decide) (Nat.le_refl _) (Nat.le_of_ble_eq_true rfl) (Nat.zero_le _) (Nat.zero_le _) hc_4 (by decide) rfl rfl h
theorem bX4_startMourning_80 {SC : Nat → Nat} {X : mh_X} {d : Nat} {Q : Option am_V → am_W → Prop} {bc bs : Nat} {w : am_W} {x5 : Int} {x1 : Int} {x2 : Int} {j3 : Nat} {j4 : Nat} {xs0 : Int}
    (h : ((xs0 = 0 → am_A (mh_G X) SC (d + 1) mX4_startMourning Q 101 [(0, .inr (.inr (some (6, 0)))), (1, .inl x1), (2, .inl x2), (3, .inr (.inr (some (10, j3)))), (4, .inr (.inr (some (11, j4)))), (5, .inl x5)] [] w bc bs) ∧ (¬ xs0 = 0 → am_M (mh_G X) SC d 0 0 mX2_isMan [.inr (.inr (some (5, 0))), .inl (w.1 6 0 4)] w (fun r w1 => am_A (mh_G X) SC (d + 1) mX4_startMourning Q 94 [(5, .inl x5), (0, .inr (.inr (some (6, 0)))), (1, .inl x1), (2, .inl x2), (3, .inr (.inr (some (10, j3)))), (4, .inr (.inr (some (11, j4))))] (r.toList ++ []) w1 bc bs)))) :
    am_A (mh_G X) SC (d + 1) mX4_startMourning Q 80 [(5, .inl x5), (0, .inr (.inr (some (6, 0)))), (1, .inl x1), (2, .inl x2), (3, .inr (.inr (some (10, j3)))), (4, .inr (.inr (some (11, j4))))] [.inl xs0] w bc bs := by
  refine am_ifeq (tgt := 101) dX4_startMourning_80 (by decide) (fun c1 => ?_) (fun c1 => ?_)
  · replace h := h.1 c1
    exact am_sub [1, 2, 3, 4, 5, 0] rfl h
  · replace h := h.2 c1
    refine am_aload_n dX4_startMourning_83 (List.Mem.tail _ (List.Mem.head _)) ?_
    refine am_getf (f := 0) (v := .inr (.inr (some (5, 0)))) dX4_startMourning_84 hc_6 (by decide) wd_438 (by decide) rfl rfl ?_
    refine am_aload_n dX4_startMourning_87 (List.Mem.tail _ (List.Mem.head _)) ?_
    refine am_getf (f := 4) (v := .inl (w.1 6 0 4)) dX4_startMourning_88 hc_6 (by decide) wd_442 (by decide) rfl rfl ?_
    exact am_callv (d' := d) (kc := 0) (ks := 0) (as := [.inl (w.1 6 0 4)]) dX4_startMourning_91 wc_X2_isMan wd_1190 wd_1091 wd_1092 wd_117 ds_X2_isMan (by decide) (Nat.le_refl _) (Nat.le_of_ble_eq_true rfl) (Nat.zero_le _) (Nat.zero_le _) hc_5 (by decide) rfl rfl h
theorem bX4_startMourning_101 {SC : Nat → Nat} {X : mh_X} {d : Nat} {Q : Option am_V → am_W → Prop} {bc bs : Nat} {w : am_W} {x1 : Int} {x2 : Int} {j3 : Nat} {j4 : Nat} {x5 : Int}
    (h : am_A (mh_G X) SC (d + 1) mX4_startMourning Q 102 [(0, .inr (.inr (some (6, 0)))), (1, .inl x1), (2, .inl x2), (3, .inr (.inr (some (10, j3)))), (4, .inr (.inr (some (11, j4)))), (5, .inl x5)] [.inl 0] w bc bs) :
    am_A (mh_G X) SC (d + 1) mX4_startMourning Q 101 [(0, .inr (.inr (some (6, 0)))), (1, .inl x1), (2, .inl x2), (3, .inr (.inr (some (10, j3)))), (4, .inr (.inr (some (11, j4)))), (5, .inl x5)] [] w bc bs := by
  refine am_iconst dX4_startMourning_101 (by unfold am_rg; omega) ?_
  exact h
theorem bX4_startMourning_94 {SC : Nat → Nat} {X : mh_X} {d : Nat} {Q : Option am_V → am_W → Prop} {bc bs : Nat} {w : am_W} {x5 : Int} {x1 : Int} {x2 : Int} {j3 : Nat} {j4 : Nat} {xs0 : Int}
    (h : ((xs0 = 0 → am_A (mh_G X) SC (d + 1) mX4_startMourning Q 101 [(0, .inr (.inr (some (6, 0)))), (1, .inl x1), (2, .inl x2), (3, .inr (.inr (some (10, j3)))), (4, .inr (.inr (some (11, j4)))), (5, .inl x5)] [] w bc bs) ∧ (¬ xs0 = 0 → am_A (mh_G X) SC (d + 1) mX4_startMourning Q 102 [(0, .inr (.inr (some (6, 0)))), (1, .inl x1), (2, .inl x2), (3, .inr (.inr (some (10, j3)))), (4, .inr (.inr (some (11, j4)))), (5, .inl x5)] [.inl 1] w bc bs))) :
    am_A (mh_G X) SC (d + 1) mX4_startMourning Q 94 [(5, .inl x5), (0, .inr (.inr (some (6, 0)))), (1, .inl x1), (2, .inl x2), (3, .inr (.inr (some (10, j3)))), (4, .inr (.inr (some (11, j4))))] [.inl xs0] w bc bs := by
  refine am_ifeq (tgt := 101) dX4_startMourning_94 (by decide) (fun c1 => ?_) (fun c1 => ?_)
  · replace h := h.1 c1
    exact am_sub [1, 2, 3, 4, 5, 0] rfl h
  · replace h := h.2 c1
    refine am_iconst dX4_startMourning_97 (by unfold am_rg; omega) ?_
    refine am_goto (tgt := 102) dX4_startMourning_98 (by decide) ?_
    exact am_sub [1, 2, 3, 4, 5, 0] rfl h
theorem bX4_startMourning_102 {SC : Nat → Nat} {X : mh_X} {d : Nat} {Q : Option am_V → am_W → Prop} {bc bs : Nat} {w : am_W} {x1 : Int} {x2 : Int} {j3 : Nat} {j4 : Nat} {x5 : Int} {xs0 : Int}
    (h : (0 ≤ (w.1 6 0 4) ∧ ((w.1 6 0 4) < 40 ∧ am_M (mh_G X) SC d 0 0 mJ9_max_7cf53 [.inl x5, .inl (w.1 37 0 (w.1 6 0 4).toNat)] w (fun r w1 => am_A (mh_G X) SC (d + 1) mX4_startMourning Q 124 [(6, .inl xs0), (0, .inr (.inr (some (6, 0)))), (1, .inl x1), (2, .inl x2), (3, .inr (.inr (some (10, j3)))), (4, .inr (.inr (some (11, j4)))), (5, .inl x5)] (r.toList ++ [.inl x1, .inr (.inr (some (11, j4)))]) w1 bc bs)))) :
    am_A (mh_G X) SC (d + 1) mX4_startMourning Q 102 [(0, .inr (.inr (some (6, 0)))), (1, .inl x1), (2, .inl x2), (3, .inr (.inr (some (10, j3)))), (4, .inr (.inr (some (11, j4)))), (5, .inl x5)] [.inl xs0] w bc bs := by
  refine am_istore (ls' := [(6, .inl xs0), (0, .inr (.inr (some (6, 0)))), (1, .inl x1), (2, .inl x2), (3, .inr (.inr (some (10, j3)))), (4, .inr (.inr (some (11, j4)))), (5, .inl x5)]) dX4_startMourning_102 (by decide) rfl ?_
  refine am_aload dX4_startMourning_104 (List.Mem.tail _ (List.Mem.tail _ (List.Mem.tail _ (List.Mem.tail _ (List.Mem.tail _ (List.Mem.head _)))))) ?_
  refine am_iload_n dX4_startMourning_106 (List.Mem.tail _ (List.Mem.tail _ (List.Mem.head _))) ?_
  refine am_iload dX4_startMourning_107 (List.Mem.tail _ (List.Mem.tail _ (List.Mem.tail _ (List.Mem.tail _ (List.Mem.tail _ (List.Mem.tail _ (List.Mem.head _))))))) ?_
  refine am_aload_n dX4_startMourning_109 (List.Mem.tail _ (List.Mem.head _)) ?_
  refine am_getf (f := 0) (v := .inr (.inr (some (5, 0)))) dX4_startMourning_110 hc_6 (by decide) wd_438 (by decide) rfl rfl ?_
  refine am_getf (f := 4) (v := .inr (.inr (some (37, 0)))) dX4_startMourning_113 hc_5 (by decide) wd_321 (by decide) rfl rfl ?_
  refine am_aload_n dX4_startMourning_116 (List.Mem.tail _ (List.Mem.head _)) ?_
  refine am_getf (f := 4) (v := .inl (w.1 6 0 4)) dX4_startMourning_117 hc_6 (by decide) wd_442 (by decide) rfl rfl ?_
  have o1 := h.1
  replace h := h.2
  have o2 := h.1
  replace h := h.2
  refine am_iaload (v := (w.1 37 0 (w.1 6 0 4).toNat)) dX4_startMourning_120 (by decide) rfl o1 o2 rfl ?_
  exact am_calls (d' := d) (kc := 0) (ks := 0) (as := [.inl x5, .inl (w.1 37 0 (w.1 6 0 4).toNat)]) dX4_startMourning_121 wc_J9_max_7cf53 wd_1191 wd_785 wd_128 ds_J9_max_7cf53 (by decide) (Nat.le_refl _) (Nat.le_of_ble_eq_true rfl) (Nat.zero_le _) (Nat.zero_le _) rfl h
theorem bX4_startMourning_124 {SC : Nat → Nat} {X : mh_X} {d : Nat} {Q : Option am_V → am_W → Prop} {bc bs : Nat} {w : am_W} {x6 : Int} {x1 : Int} {x2 : Int} {j3 : Nat} {j4 : Nat} {x5 : Int} {xs0 : Int} {xs1 : Int} {js2 : Nat}
    (h : am_M (mh_G X) SC d 0 0 mX5_start [.inr (.inr (some (11, js2))), .inl xs1, .inl xs0, .inr (.inr (some (10, j3))), .inl x2, .inl x6] w (fun r w1 => am_A (mh_G X) SC (d + 1) mX4_startMourning Q 131 [(6, .inl x6), (0, .inr (.inr (some (6, 0)))), (1, .inl x1), (2, .inl x2), (3, .inr (.inr (some (10, j3)))), (4, .inr (.inr (some (11, j4)))), (5, .inl x5)] (r.toList ++ []) w1 bc bs)) :
    am_A (mh_G X) SC (d + 1) mX4_startMourning Q 124 [(6, .inl x6), (0, .inr (.inr (some (6, 0)))), (1, .inl x1), (2, .inl x2), (3, .inr (.inr (some (10, j3)))), (4, .inr (.inr (some (11, j4)))), (5, .inl x5)] [.inl xs0, .inl xs1, .inr (.inr (some (11, js2)))] w bc bs := by
  refine am_aload_n dX4_startMourning_124 (List.Mem.tail _ (List.Mem.tail _ (List.Mem.tail _ (List.Mem.tail _ (List.Mem.head _))))) ?_
  refine am_iload_n dX4_startMourning_125 (List.Mem.tail _ (List.Mem.tail _ (List.Mem.tail _ (List.Mem.head _)))) ?_
  refine am_iload dX4_startMourning_126 (List.Mem.head _) ?_
  exact am_callv (d' := d) (kc := 0) (ks := 0) (as := [.inl xs1, .inl xs0, .inr (.inr (some (10, j3))), .inl x2, .inl x6]) dX4_startMourning_128 wc_X5_start wd_1192 wd_1193 wd_1194 wd_119 ds_X5_start (by decide) (Nat.le_refl _) (Nat.le_of_ble_eq_true rfl) (Nat.zero_le _) (Nat.zero_le _) hc_7 (by decide) rfl rfl h
theorem bX4_startMourning_131 {SC : Nat → Nat} {X : mh_X} {d : Nat} {Q : Option am_V → am_W → Prop} {bc bs : Nat} {w : am_W} {x6 : Int} {x1 : Int} {x2 : Int} {j3 : Nat} {j4 : Nat} {x5 : Int}
    (h : Q none ((am_up w.1 6 0 3 (am_w ((w.1 6 0 3) + 1))), w.2)) :
    am_A (mh_G X) SC (d + 1) mX4_startMourning Q 131 [(6, .inl x6), (0, .inr (.inr (some (6, 0)))), (1, .inl x1), (2, .inl x2), (3, .inr (.inr (some (10, j3)))), (4, .inr (.inr (some (11, j4)))), (5, .inl x5)] [] w bc bs := by
  refine am_aload_n dX4_startMourning_131 (List.Mem.tail _ (List.Mem.head _)) ?_
  refine am_dup dX4_startMourning_132 rfl ?_
  refine am_getf (f := 3) (v := .inl (w.1 6 0 3)) dX4_startMourning_133 hc_6 (by decide) wd_441 (by decide) rfl rfl ?_
  refine am_iconst dX4_startMourning_136 (by unfold am_rg; omega) ?_
  refine am_iadd dX4_startMourning_137 ?_
  refine am_putf (f := 3) dX4_startMourning_138 hc_6 (by decide) wd_441 rfl (Or.inl rfl) (Or.inl (by decide)) rfl ?_
  exact am_ret (r := none) dX4_startMourning_141 rfl rfl h
-- MourningHouse$Mourner.moveTo(I)V
theorem dX4_moveTo_0 : decode mX4_moveTo.2.1 0 = .ok (.iconst 0, 1) := by decide +kernel
theorem dX4_moveTo_1 : decode mX4_moveTo.2.1 1 = .ok (.istore_n 2, 1) := by decide +kernel
theorem dX4_moveTo_2 : decode mX4_moveTo.2.1 2 = .ok (.iload_n 2, 1) := by decide +kernel
theorem dX4_moveTo_3 : decode mX4_moveTo.2.1 3 = .ok (.ldc 120, 2) := by decide +kernel
theorem dX4_moveTo_5 : decode mX4_moveTo.2.1 5 = .ok (.if_icmp .ge 38, 3) := by decide +kernel
theorem dX4_moveTo_8 : decode mX4_moveTo.2.1 8 = .ok (.aload_n 0, 1) := by decide +kernel
theorem dX4_moveTo_9 : decode mX4_moveTo.2.1 9 = .ok (.getfield 29, 3) := by decide +kernel
theorem dX4_moveTo_12 : decode mX4_moveTo.2.1 12 = .ok (.iload_n 1, 1) := by decide +kernel
theorem dX4_moveTo_13 : decode mX4_moveTo.2.1 13 = .ok (.if_icmp .ge 30, 3) := by decide +kernel
theorem dX4_moveTo_16 : decode mX4_moveTo.2.1 16 = .ok (.aload_n 0, 1) := by decide +kernel
theorem dX4_moveTo_17 : decode mX4_moveTo.2.1 17 = .ok (.getfield 32, 3) := by decide +kernel
theorem dX4_moveTo_20 : decode mX4_moveTo.2.1 20 = .ok (.iload_n 1, 1) := by decide +kernel
theorem dX4_moveTo_21 : decode mX4_moveTo.2.1 21 = .ok (.if_icmp .gt 22, 3) := by decide +kernel
theorem dX4_moveTo_24 : decode mX4_moveTo.2.1 24 = .ok (.aload_n 0, 1) := by decide +kernel
theorem dX4_moveTo_25 : decode mX4_moveTo.2.1 25 = .ok (.aload_n 0, 1) := by decide +kernel
theorem dX4_moveTo_26 : decode mX4_moveTo.2.1 26 = .ok (.getfield 32, 3) := by decide +kernel
theorem dX4_moveTo_29 : decode mX4_moveTo.2.1 29 = .ok (.aload_n 0, 1) := by decide +kernel
theorem dX4_moveTo_30 : decode mX4_moveTo.2.1 30 = .ok (.getfield 29, 3) := by decide +kernel
theorem dX4_moveTo_33 : decode mX4_moveTo.2.1 33 = .ok (.isub, 1) := by decide +kernel
theorem dX4_moveTo_34 : decode mX4_moveTo.2.1 34 = .ok (.invokevirtual 121, 3) := by decide +kernel
theorem dX4_moveTo_37 : decode mX4_moveTo.2.1 37 = .ok (.iinc 2 1, 3) := by decide +kernel
theorem dX4_moveTo_40 : decode mX4_moveTo.2.1 40 = .ok (.goto (-38), 3) := by decide +kernel
theorem dX4_moveTo_43 : decode mX4_moveTo.2.1 43 = .ok (.return_, 1) := by decide +kernel
theorem bX4_moveTo_0 {SC : Nat → Nat} {X : mh_X} {d : Nat} {Q : Option am_V → am_W → Prop} {bc bs : Nat} {w : am_W} {x1 : Int}
    (h : am_A (mh_G X) SC (d + 1) mX4_moveTo Q 2 [(0, .inr (.inr (some (6, 0)))), (1, .inl x1), (2, .inl 0)] [] w bc bs) :
    am_A (mh_G X) SC (d + 1) mX4_moveTo Q 0 [(0, .inr (.inr (some (6, 0)))), (1, .inl x1)] [] w bc bs := by
  refine am_iconst dX4_moveTo_0 (by unfold am_rg; omega) ?_
  refine am_istore_n (ls' := [(2, .inl 0), (0, .inr (.inr (some (6, 0)))), (1, .inl x1)]) dX4_moveTo_1 (by decide) rfl ?_
  exact am_sub [1, 2, 0] rfl h
theorem bX4_moveTo_2 {SC : Nat → Nat} {X : mh_X} {d : Nat} {Q : Option am_V → am_W → Prop} {bc bs : Nat} {w : am_W} {x1 : Int} {x2 : Int}
    (h : ((100000 ≤ x2 → Q none w) ∧ (¬ 100000 ≤ x2 → ((x1 ≤ (w.1 6 0 6) → Q none w) ∧ (¬ x1 ≤ (w.1 6 0 6) → ((x1 < (w.1 6 0 7) → Q none w) ∧ (¬ x1 < (w.1 6 0 7) → am_M (mh_G X) SC d 0 0 mX4_passDays [.inr (.inr (some (6, 0))), .inl (am_w ((w.1 6 0 7) - (w.1 6 0 6)))] w (fun r w1 => am_A (mh_G X) SC (d + 1) mX4_moveTo Q 37 [(0, .inr (.inr (some (6, 0)))), (1, .inl x1), (2, .inl x2)] (r.toList ++ []) w1 bc bs)))))))) :
    am_A (mh_G X) SC (d + 1) mX4_moveTo Q 2 [(0, .inr (.inr (some (6, 0)))), (1, .inl x1), (2, .inl x2)] [] w bc bs := by
  refine am_iload_n dX4_moveTo_2 (List.Mem.tail _ (List.Mem.tail _ (List.Mem.head _))) ?_
  refine am_ldcV (n := 100000) dX4_moveTo_3 (by decide) wd_1246 (by unfold am_rg; omega) ?_
  refine am_icmpge (tgt := 43) dX4_moveTo_5 (by decide) (fun c1 => ?_) (fun c1 => ?_)
  · replace h := h.1 c1
    exact am_ret (r := none) dX4_moveTo_43 rfl rfl h
  · replace h := h.2 c1
    refine am_aload_n dX4_moveTo_8 (List.Mem.head _) ?_
    refine am_getf (f := 6) (v := .inl (w.1 6 0 6)) dX4_moveTo_9 hc_6 (by decide) wd_444 (by decide) rfl rfl ?_
    refine am_iload_n dX4_moveTo_12 (List.Mem.tail _ (List.Mem.head _)) ?_
    refine am_icmpge (tgt := 43) dX4_moveTo_13 (by decide) (fun c2 => ?_) (fun c2 => ?_)
    · replace h := h.1 c2
      exact am_ret (r := none) dX4_moveTo_43 rfl rfl h
    · replace h := h.2 c2
      refine am_aload_n dX4_moveTo_16 (List.Mem.head _) ?_
      refine am_getf (f := 7) (v := .inl (w.1 6 0 7)) dX4_moveTo_17 hc_6 (by decide) wd_445 (by decide) rfl rfl ?_
      refine am_iload_n dX4_moveTo_20 (List.Mem.tail _ (List.Mem.head _)) ?_
      refine am_icmpgt (tgt := 43) dX4_moveTo_21 (by decide) (fun c3 => ?_) (fun c3 => ?_)
      · replace h := h.1 c3
        exact am_ret (r := none) dX4_moveTo_43 rfl rfl h
      · replace h := h.2 c3
        refine am_aload_n dX4_moveTo_24 (List.Mem.head _) ?_
        refine am_aload_n dX4_moveTo_25 (List.Mem.head _) ?_
        refine am_getf (f := 7) (v := .inl (w.1 6 0 7)) dX4_moveTo_26 hc_6 (by decide) wd_445 (by decide) rfl rfl ?_
        refine am_aload_n dX4_moveTo_29 (List.Mem.head _) ?_
        refine am_getf (f := 6) (v := .inl (w.1 6 0 6)) dX4_moveTo_30 hc_6 (by decide) wd_444 (by decide) rfl rfl ?_
        refine am_isub dX4_moveTo_33 ?_
        exact am_callv (d' := d) (kc := 0) (ks := 0) (as := [.inl (am_w ((w.1 6 0 7) - (w.1 6 0 6)))]) dX4_moveTo_34 wc_X4_passDays wd_1247 wd_1249 wd_36 wd_118 ds_X4_passDays (by decide) (Nat.le_refl _) (Nat.le_of_ble_eq_true rfl) (Nat.zero_le _) (Nat.zero_le _) hc_6 (by decide) rfl rfl h
theorem bX4_moveTo_37 {SC : Nat → Nat} {X : mh_X} {d : Nat} {Q : Option am_V → am_W → Prop} {bc bs : Nat} {w : am_W} {x1 : Int} {x2 : Int}
    (h : am_A (mh_G X) SC (d + 1) mX4_moveTo Q 2 [(0, .inr (.inr (some (6, 0)))), (1, .inl x1), (2, .inl (am_w (x2 + 1)))] [] w bc bs) :
    am_A (mh_G X) SC (d + 1) mX4_moveTo Q 37 [(0, .inr (.inr (some (6, 0)))), (1, .inl x1), (2, .inl x2)] [] w bc bs := by
  refine am_iinc (ls' := [(2, .inl (am_w (x2 + 1))), (0, .inr (.inr (some (6, 0)))), (1, .inl x1)]) dX4_moveTo_37 (List.Mem.tail _ (List.Mem.tail _ (List.Mem.head _))) (by decide) rfl ?_
  refine am_goto (tgt := 2) dX4_moveTo_40 (by decide) ?_
  exact am_sub [1, 2, 0] rfl h
-- MourningHouse$Mourner.passDays(I)V
theorem dX4_passDays_0 : decode mX4_passDays.2.1 0 = .ok (.aload_n 0, 1) := by decide +kernel
theorem dX4_passDays_1 : decode mX4_passDays.2.1 1 = .ok (.getfield 35, 3) := by decide +kernel
theorem dX4_passDays_4 : decode mX4_passDays.2.1 4 = .ok (.aload_n 0, 1) := by decide +kernel
theorem dX4_passDays_5 : decode mX4_passDays.2.1 5 = .ok (.getfield 38, 3) := by decide +kernel
theorem dX4_passDays_8 : decode mX4_passDays.2.1 8 = .ok (.invokestatic 110, 3) := by decide +kernel
theorem dX4_passDays_11 : decode mX4_passDays.2.1 11 = .ok (.istore_n 2, 1) := by decide +kernel
theorem dX4_passDays_12 : decode mX4_passDays.2.1 12 = .ok (.aload_n 0, 1) := by decide +kernel
theorem dX4_passDays_13 : decode mX4_passDays.2.1 13 = .ok (.getfield 29, 3) := by decide +kernel
theorem dX4_passDays_16 : decode mX4_passDays.2.1 16 = .ok (.iload_n 1, 1) := by decide +kernel
theorem dX4_passDays_17 : decode mX4_passDays.2.1 17 = .ok (.iadd, 1) := by decide +kernel
theorem dX4_passDays_18 : decode mX4_passDays.2.1 18 = .ok (.istore_n 3, 1) := by decide +kernel
theorem dX4_passDays_19 : decode mX4_passDays.2.1 19 = .ok (.iconst 0, 1) := by decide +kernel
theorem dX4_passDays_20 : decode mX4_passDays.2.1 20 = .ok (.istore 4, 2) := by decide +kernel
theorem dX4_passDays_22 : decode mX4_passDays.2.1 22 = .ok (.iload 4, 2) := by decide +kernel
theorem dX4_passDays_24 : decode mX4_passDays.2.1 24 = .ok (.aload_n 0, 1) := by decide +kernel
theorem dX4_passDays_25 : decode mX4_passDays.2.1 25 = .ok (.getfield 19, 3) := by decide +kernel
theorem dX4_passDays_28 : decode mX4_passDays.2.1 28 = .ok (.if_icmp .ge 46, 3) := by decide +kernel
theorem dX4_passDays_31 : decode mX4_passDays.2.1 31 = .ok (.aload_n 0, 1) := by decide +kernel
theorem dX4_passDays_32 : decode mX4_passDays.2.1 32 = .ok (.getfield 15, 3) := by decide +kernel
theorem dX4_passDays_35 : decode mX4_passDays.2.1 35 = .ok (.iload 4, 2) := by decide +kernel
theorem dX4_passDays_37 : decode mX4_passDays.2.1 37 = .ok (.aaload, 1) := by decide +kernel
theorem dX4_passDays_38 : decode mX4_passDays.2.1 38 = .ok (.astore 5, 2) := by decide +kernel
theorem dX4_passDays_40 : decode mX4_passDays.2.1 40 = .ok (.aload 5, 2) := by decide +kernel
theorem dX4_passDays_42 : decode mX4_passDays.2.1 42 = .ok (.aload_n 0, 1) := by decide +kernel
theorem dX4_passDays_43 : decode mX4_passDays.2.1 43 = .ok (.getfield 29, 3) := by decide +kernel
theorem dX4_passDays_46 : decode mX4_passDays.2.1 46 = .ok (.invokevirtual 125, 3) := by decide +kernel
theorem dX4_passDays_49 : decode mX4_passDays.2.1 49 = .ok (.ifCond .eq 19, 3) := by decide +kernel
theorem dX4_passDays_52 : decode mX4_passDays.2.1 52 = .ok (.aload 5, 2) := by decide +kernel
theorem dX4_passDays_54 : decode mX4_passDays.2.1 54 = .ok (.iload_n 2, 1) := by decide +kernel
theorem dX4_passDays_55 : decode mX4_passDays.2.1 55 = .ok (.invokevirtual 128, 3) := by decide +kernel
theorem dX4_passDays_58 : decode mX4_passDays.2.1 58 = .ok (.ifCond .eq 10, 3) := by decide +kernel
theorem dX4_passDays_61 : decode mX4_passDays.2.1 61 = .ok (.aload 5, 2) := by decide +kernel
theorem dX4_passDays_63 : decode mX4_passDays.2.1 63 = .ok (.iload_n 1, 1) := by decide +kernel
theorem dX4_passDays_64 : decode mX4_passDays.2.1 64 = .ok (.iload_n 3, 1) := by decide +kernel
theorem dX4_passDays_65 : decode mX4_passDays.2.1 65 = .ok (.invokevirtual 131, 3) := by decide +kernel
theorem dX4_passDays_68 : decode mX4_passDays.2.1 68 = .ok (.iinc 4 1, 3) := by decide +kernel
theorem dX4_passDays_71 : decode mX4_passDays.2.1 71 = .ok (.goto (-49), 3) := by decide +kernel
theorem dX4_passDays_74 : decode mX4_passDays.2.1 74 = .ok (.aload_n 0, 1) := by decide +kernel
theorem dX4_passDays_75 : decode mX4_passDays.2.1 75 = .ok (.iload_n 3, 1) := by decide +kernel
theorem dX4_passDays_76 : decode mX4_passDays.2.1 76 = .ok (.putfield 29, 3) := by decide +kernel
theorem dX4_passDays_79 : decode mX4_passDays.2.1 79 = .ok (.aload_n 0, 1) := by decide +kernel
theorem dX4_passDays_80 : decode mX4_passDays.2.1 80 = .ok (.invokevirtual 134, 3) := by decide +kernel
theorem dX4_passDays_83 : decode mX4_passDays.2.1 83 = .ok (.aload_n 0, 1) := by decide +kernel
theorem dX4_passDays_84 : decode mX4_passDays.2.1 84 = .ok (.invokevirtual 96, 3) := by decide +kernel
theorem dX4_passDays_87 : decode mX4_passDays.2.1 87 = .ok (.return_, 1) := by decide +kernel
theorem bX4_passDays_0 {SC : Nat → Nat} {X : mh_X} {d : Nat} {Q : Option am_V → am_W → Prop} {bc bs : Nat} {w : am_W} {x1 : Int}
    (h : am_M (mh_G X) SC d 0 0 mJ9_max_7cf53 [.inl (w.1 6 0 8), .inl (w.1 6 0 9)] w (fun r w1 => am_A (mh_G X) SC (d + 1) mX4_passDays Q 11 [(0, .inr (.inr (some (6, 0)))), (1, .inl x1)] (r.toList ++ []) w1 bc bs)) :
    am_A (mh_G X) SC (d + 1) mX4_passDays Q 0 [(0, .inr (.inr (some (6, 0)))), (1, .inl x1)] [] w bc bs := by
  refine am_aload_n dX4_passDays_0 (List.Mem.head _) ?_
  refine am_getf (f := 8) (v := .inl (w.1 6 0 8)) dX4_passDays_1 hc_6 (by decide) wd_446 (by decide) rfl rfl ?_
  refine am_aload_n dX4_passDays_4 (List.Mem.head _) ?_
  refine am_getf (f := 9) (v := .inl (w.1 6 0 9)) dX4_passDays_5 hc_6 (by decide) wd_447 (by decide) rfl rfl ?_
  exact am_calls (d' := d) (kc := 0) (ks := 0) (as := [.inl (w.1 6 0 8), .inl (w.1 6 0 9)]) dX4_passDays_8 wc_J9_max_7cf53 wd_1191 wd_785 wd_128 ds_J9_max_7cf53 (by decide) (Nat.le_refl _) (Nat.le_of_ble_eq_true rfl) (Nat.zero_le _) (Nat.zero_le _) rfl h
theorem bX4_passDays_11 {SC : Nat → Nat} {X : mh_X} {d : Nat} {Q : Option am_V → am_W → Prop} {bc bs : Nat} {w : am_W} {x1 : Int} {xs0 : Int}
    (h : am_A (mh_G X) SC (d + 1) mX4_passDays Q 22 [(0, .inr (.inr (some (6, 0)))), (1, .inl x1), (2, .inl xs0), (3, .inl (am_w ((w.1 6 0 6) + x1))), (4, .inl 0)] [] w bc bs) :
    am_A (mh_G X) SC (d + 1) mX4_passDays Q 11 [(0, .inr (.inr (some (6, 0)))), (1, .inl x1)] [.inl xs0] w bc bs := by
  refine am_istore_n (ls' := [(2, .inl xs0), (0, .inr (.inr (some (6, 0)))), (1, .inl x1)]) dX4_passDays_11 (by decide) rfl ?_
  refine am_aload_n dX4_passDays_12 (List.Mem.tail _ (List.Mem.head _)) ?_
  refine am_getf (f := 6) (v := .inl (w.1 6 0 6)) dX4_passDays_13 hc_6 (by decide) wd_444 (by decide) rfl rfl ?_
  refine am_iload_n dX4_passDays_16 (List.Mem.tail _ (List.Mem.tail _ (List.Mem.head _))) ?_
  refine am_iadd dX4_passDays_17 ?_
  refine am_istore_n (ls' := [(3, .inl (am_w ((w.1 6 0 6) + x1))), (2, .inl xs0), (0, .inr (.inr (some (6, 0)))), (1, .inl x1)]) dX4_passDays_18 (by decide) rfl ?_
  refine am_iconst dX4_passDays_19 (by unfold am_rg; omega) ?_
  refine am_istore (ls' := [(4, .inl 0), (3, .inl (am_w ((w.1 6 0 6) + x1))), (2, .inl xs0), (0, .inr (.inr (some (6, 0)))), (1, .inl x1)]) dX4_passDays_20 (by decide) rfl ?_
  exact am_sub [3, 4, 2, 1, 0] rfl h
theorem bX4_passDays_22 {SC : Nat → Nat} {X : mh_X} {d : Nat} {Q : Option am_V → am_W → Prop} {bc bs : Nat} {w : am_W} {x1 : Int} {x2 : Int} {x3 : Int} {x4 : Int}
    (h : (((w.1 6 0 3) ≤ x4 → am_M (mh_G X) SC d 0 0 mX4_endByWedding [.inr (.inr (some (6, 0)))] ((am_up w.1 6 0 6 x3), w.2) (fun r w1 => am_A (mh_G X) SC (d + 1) mX4_passDays Q 83 [(0, .inr (.inr (some (6, 0)))), (1, .inl x1), (2, .inl x2), (3, .inl x3), (4, .inl x4)] (r.toList ++ []) w1 bc bs)) ∧ (¬ (w.1 6 0 3) ≤ x4 → (0 ≤ x4 ∧ (x4 < 40 ∧ am_M (mh_G X) SC d 0 0 mX5_isOn [.inr (.inr (some (11, x4.toNat))), .inl (w.1 6 0 6)] w (fun r w1 => am_A (mh_G X) SC (d + 1) mX4_passDays Q 49 [(5, .inr (.inr (some (11, x4.toNat)))), (0, .inr (.inr (some (6, 0)))), (1, .inl x1), (2, .inl x2), (3, .inl x3), (4, .inl x4)] (r.toList ++ []) w1 bc bs)))))) :
    am_A (mh_G X) SC (d + 1) mX4_passDays Q 22 [(0, .inr (.inr (some (6, 0)))), (1, .inl x1), (2, .inl x2), (3, .inl x3), (4, .inl x4)] [] w bc bs := by
  refine am_iload dX4_passDays_22 (List.Mem.tail _ (List.Mem.tail _ (List.Mem.tail _ (List.Mem.tail _ (List.Mem.head _))))) ?_
  refine am_aload_n dX4_passDays_24 (List.Mem.head _) ?_
  refine am_getf (f := 3) (v := .inl (w.1 6 0 3)) dX4_passDays_25 hc_6 (by decide) wd_441 (by decide) rfl rfl ?_
  refine am_icmpge (tgt := 74) dX4_passDays_28 (by decide) (fun c1 => ?_) (fun c1 => ?_)
  · replace h := h.1 c1
    refine am_aload_n dX4_passDays_74 (List.Mem.head _) ?_
    refine am_iload_n dX4_passDays_75 (List.Mem.tail _ (List.Mem.tail _ (List.Mem.tail _ (List.Mem.head _)))) ?_
    refine am_putf (f := 6) dX4_passDays_76 hc_6 (by decide) wd_444 rfl (Or.inl rfl) (Or.inl (by decide)) rfl ?_
    refine am_aload_n dX4_passDays_79 (List.Mem.head _) ?_
    exact am_callv (d' := d) (kc := 0) (ks := 0) (as := []) dX4_passDays_80 wc_X4_endByWedding wd_1259 wd_1261 wd_37 wd_118 ds_X4_endByWedding (by decide) (Nat.le_refl _) (Nat.le_of_ble_eq_true rfl) (Nat.zero_le _) (Nat.zero_le _) hc_6 (by decide) rfl rfl h
  · replace h := h.2 c1
    refine am_aload_n dX4_passDays_31 (List.Mem.head _) ?_
    refine am_getf (f := 2) (v := .inr (.inr (some (49, 0)))) dX4_passDays_32 hc_6 (by decide) wd_440 (by decide) rfl rfl ?_
    refine am_iload dX4_passDays_35 (List.Mem.tail _ (List.Mem.tail _ (List.Mem.tail _ (List.Mem.tail _ (List.Mem.head _))))) ?_
    have o2 := h.1
    replace h := h.2
    have o3 := h.1
    replace h := h.2
    refine am_aaload (kd := 8) (r := some (11, x4.toNat)) dX4_passDays_37 (by decide) rfl (by decide) (by decide) o2 o3 rfl ?_
    refine am_astore (ls' := [(5, .inr (.inr (some (11, x4.toNat)))), (0, .inr (.inr (some (6, 0)))), (1, .inl x1), (2, .inl x2), (3, .inl x3), (4, .inl x4)]) dX4_passDays_38 (by decide) rfl ?_
    refine am_aload dX4_passDays_40 (List.Mem.head _) ?_
    refine am_aload_n dX4_passDays_42 (List.Mem.tail _ (List.Mem.head _)) ?_
    refine am_getf (f := 6) (v := .inl (w.1 6 0 6)) dX4_passDays_43 hc_6 (by decide) wd_444 (by decide) rfl rfl ?_
    exact am_callv (d' := d) (kc := 0) (ks := 0) (as := [.inl (w.1 6 0 6)]) dX4_passDays_46 wc_X5_isOn wd_1216 wd_1217 wd_1218 wd_119 ds_X5_isOn (by decide) (Nat.le_refl _) (Nat.le_of_ble_eq_true rfl) (Nat.zero_le _) (Nat.zero_le _) hc_7 (by decide) rfl rfl h
theorem bX4_passDays_83 {SC : Nat → Nat} {X : mh_X} {d : Nat} {Q : Option am_V → am_W → Prop} {bc bs : Nat} {w : am_W} {x1 : Int} {x2 : Int} {x3 : Int} {x4 : Int}
    (h : am_M (mh_G X) SC d 0 0 mX4_lookAhead [.inr (.inr (some (6, 0)))] w (fun r w1 => am_A (mh_G X) SC (d + 1) mX4_passDays Q 87 [(0, .inr (.inr (some (6, 0)))), (1, .inl x1), (2, .inl x2), (3, .inl x3), (4, .inl x4)] (r.toList ++ []) w1 bc bs)) :
    am_A (mh_G X) SC (d + 1) mX4_passDays Q 83 [(0, .inr (.inr (some (6, 0)))), (1, .inl x1), (2, .inl x2), (3, .inl x3), (4, .inl x4)] [] w bc bs := by
  refine am_aload_n dX4_passDays_83 (List.Mem.head _) ?_
  exact am_callv (d' := d) (kc := 0) (ks := 0) (as := []) dX4_passDays_84 wc_X4_lookAhead wd_1212 wd_1214 wd_34 wd_118 ds_X4_lookAhead (by decide) (Nat.le_refl _) (Nat.le_of_ble_eq_true rfl) (Nat.zero_le _) (Nat.zero_le _) hc_6 (by decide) rfl rfl h
theorem bX4_passDays_49 {SC : Nat → Nat} {X : mh_X} {d : Nat} {Q : Option am_V → am_W → Prop} {bc bs : Nat} {w : am_W} {j5 : Nat} {x1 : Int} {x2 : Int} {x3 : Int} {x4 : Int} {xs0 : Int}
    (h : ((xs0 = 0 → am_A (mh_G X) SC (d + 1) mX4_passDays Q 68 [(0, .inr (.inr (some (6, 0)))), (1, .inl x1), (2, .inl x2), (3, .inl x3), (4, .inl x4)] [] w bc bs) ∧ (¬ xs0 = 0 → am_M (mh_G X) SC d 0 0 mX5_goesOn [.inr (.inr (some (11, j5))), .inl x2] w (fun r w1 => am_A (mh_G X) SC (d + 1) mX4_passDays Q 58 [(5, .inr (.inr (some (11, j5)))), (0, .inr (.inr (some (6, 0)))), (1, .inl x1), (2, .inl x2), (3, .inl x3), (4, .inl x4)] (r.toList ++ []) w1 bc bs)))) :
    am_A (mh_G X) SC (d + 1) mX4_passDays Q 49 [(5, .inr (.inr (some (11, j5)))), (0, .inr (.inr (some (6, 0)))), (1, .inl x1), (2, .inl x2), (3, .inl x3), (4, .inl x4)] [.inl xs0] w bc bs := by
  refine am_ifeq (tgt := 68) dX4_passDays_49 (by decide) (fun c1 => ?_) (fun c1 => ?_)
  · replace h := h.1 c1
    exact am_sub [1, 2, 3, 4, 5] rfl h
  · replace h := h.2 c1
    refine am_aload dX4_passDays_52 (List.Mem.head _) ?_
    refine am_iload_n dX4_passDays_54 (List.Mem.tail _ (List.Mem.tail _ (List.Mem.tail _ (List.Mem.head _)))) ?_
    exact am_callv (d' := d) (kc := 0) (ks := 0) (as := [.inl x2]) dX4_passDays_55 wc_X5_goesOn wd_1230 wd_1231 wd_1232 wd_119 ds_X5_goesOn (by decide) (Nat.le_refl _) (Nat.le_of_ble_eq_true rfl) (Nat.zero_le _) (Nat.zero_le _) hc_7 (by decide) rfl rfl h
theorem bX4_passDays_87 {SC : Nat → Nat} {X : mh_X} {d : Nat} {Q : Option am_V → am_W → Prop} {bc bs : Nat} {w : am_W} {x1 : Int} {x2 : Int} {x3 : Int} {x4 : Int}
    (h : Q none w) :
    am_A (mh_G X) SC (d + 1) mX4_passDays Q 87 [(0, .inr (.inr (some (6, 0)))), (1, .inl x1), (2, .inl x2), (3, .inl x3), (4, .inl x4)] [] w bc bs := by
  exact am_ret (r := none) dX4_passDays_87 rfl rfl h
theorem bX4_passDays_68 {SC : Nat → Nat} {X : mh_X} {d : Nat} {Q : Option am_V → am_W → Prop} {bc bs : Nat} {w : am_W} {x1 : Int} {x2 : Int} {x3 : Int} {x4 : Int}
    (h : am_A (mh_G X) SC (d + 1) mX4_passDays Q 22 [(0, .inr (.inr (some (6, 0)))), (1, .inl x1), (2, .inl x2), (3, .inl x3), (4, .inl (am_w (x4 + 1)))] [] w bc bs) :
    am_A (mh_G X) SC (d + 1) mX4_passDays Q 68 [(0, .inr (.inr (some (6, 0)))), (1, .inl x1), (2, .inl x2), (3, .inl x3), (4, .inl x4)] [] w bc bs := by
  refine am_iinc (ls' := [(4, .inl (am_w (x4 + 1))), (0, .inr (.inr (some (6, 0)))), (1, .inl x1), (2, .inl x2), (3, .inl x3)]) dX4_passDays_68 (List.Mem.tail _ (List.Mem.tail _ (List.Mem.tail _ (List.Mem.tail _ (List.Mem.head _))))) (by decide) rfl ?_
  refine am_goto (tgt := 22) dX4_passDays_71 (by decide) ?_
  exact am_sub [1, 2, 3, 4, 0] rfl h
theorem bX4_passDays_58 {SC : Nat → Nat} {X : mh_X} {d : Nat} {Q : Option am_V → am_W → Prop} {bc bs : Nat} {w : am_W} {j5 : Nat} {x1 : Int} {x2 : Int} {x3 : Int} {x4 : Int} {xs0 : Int}
    (h : ((xs0 = 0 → am_A (mh_G X) SC (d + 1) mX4_passDays Q 68 [(0, .inr (.inr (some (6, 0)))), (1, .inl x1), (2, .inl x2), (3, .inl x3), (4, .inl x4)] [] w bc bs) ∧ (¬ xs0 = 0 → am_M (mh_G X) SC d 0 0 mX5_pass [.inr (.inr (some (11, j5))), .inl x1, .inl x3] w (fun r w1 => am_A (mh_G X) SC (d + 1) mX4_passDays Q 68 [(5, .inr (.inr (some (11, j5)))), (0, .inr (.inr (some (6, 0)))), (1, .inl x1), (2, .inl x2), (3, .inl x3), (4, .inl x4)] (r.toList ++ []) w1 bc bs)))) :
    am_A (mh_G X) SC (d + 1) mX4_passDays Q 58 [(5, .inr (.inr (some (11, j5)))), (0, .inr (.inr (some (6, 0)))), (1, .inl x1), (2, .inl x2), (3, .inl x3), (4, .inl x4)] [.inl xs0] w bc bs := by
  refine am_ifeq (tgt := 68) dX4_passDays_58 (by decide) (fun c1 => ?_) (fun c1 => ?_)
  · replace h := h.1 c1
    exact am_sub [1, 2, 3, 4, 5] rfl h
  · replace h := h.2 c1
    refine am_aload dX4_passDays_61 (List.Mem.head _) ?_
    refine am_iload_n dX4_passDays_63 (List.Mem.tail _ (List.Mem.tail _ (List.Mem.head _))) ?_
    refine am_iload_n dX4_passDays_64 (List.Mem.tail _ (List.Mem.tail _ (List.Mem.tail _ (List.Mem.tail _ (List.Mem.head _))))) ?_
    exact am_callv (d' := d) (kc := 0) (ks := 0) (as := [.inl x1, .inl x3]) dX4_passDays_65 wc_X5_pass wd_1251 wd_1252 wd_1253 wd_119 ds_X5_pass (by decide) (Nat.le_refl _) (Nat.le_of_ble_eq_true rfl) (Nat.zero_le _) (Nat.zero_le _) hc_7 (by decide) rfl rfl h
theorem bX4_passDays_68a {SC : Nat → Nat} {X : mh_X} {d : Nat} {Q : Option am_V → am_W → Prop} {bc bs : Nat} {w : am_W} {j5 : Nat} {x1 : Int} {x2 : Int} {x3 : Int} {x4 : Int}
    (h : am_A (mh_G X) SC (d + 1) mX4_passDays Q 22 [(0, .inr (.inr (some (6, 0)))), (1, .inl x1), (2, .inl x2), (3, .inl x3), (4, .inl (am_w (x4 + 1)))] [] w bc bs) :
    am_A (mh_G X) SC (d + 1) mX4_passDays Q 68 [(5, .inr (.inr (some (11, j5)))), (0, .inr (.inr (some (6, 0)))), (1, .inl x1), (2, .inl x2), (3, .inl x3), (4, .inl x4)] [] w bc bs := by
  refine am_iinc (ls' := [(4, .inl (am_w (x4 + 1))), (5, .inr (.inr (some (11, j5)))), (0, .inr (.inr (some (6, 0)))), (1, .inl x1), (2, .inl x2), (3, .inl x3)]) dX4_passDays_68 (List.Mem.tail _ (List.Mem.tail _ (List.Mem.tail _ (List.Mem.tail _ (List.Mem.tail _ (List.Mem.head _)))))) (by decide) rfl ?_
  refine am_goto (tgt := 22) dX4_passDays_71 (by decide) ?_
  exact am_sub [2, 3, 4, 5, 0] rfl h
-- MourningHouse$Mourner.endByWedding()V
theorem dX4_endByWedding_0 : decode mX4_endByWedding.2.1 0 = .ok (.aload_n 0, 1) := by decide +kernel
theorem dX4_endByWedding_1 : decode mX4_endByWedding.2.1 1 = .ok (.getfield 45, 3) := by decide +kernel
theorem dX4_endByWedding_4 : decode mX4_endByWedding.2.1 4 = .ok (.aload_n 0, 1) := by decide +kernel
theorem dX4_endByWedding_5 : decode mX4_endByWedding.2.1 5 = .ok (.getfield 29, 3) := by decide +kernel
theorem dX4_endByWedding_8 : decode mX4_endByWedding.2.1 8 = .ok (.aload_n 0, 1) := by decide +kernel
theorem dX4_endByWedding_9 : decode mX4_endByWedding.2.1 9 = .ok (.getfield 26, 3) := by decide +kernel
theorem dX4_endByWedding_12 : decode mX4_endByWedding.2.1 12 = .ok (.invokevirtual 62, 3) := by decide +kernel
theorem dX4_endByWedding_15 : decode mX4_endByWedding.2.1 15 = .ok (.astore_n 1, 1) := by decide +kernel
theorem dX4_endByWedding_16 : decode mX4_endByWedding.2.1 16 = .ok (.aload_n 1, 1) := by decide +kernel
theorem dX4_endByWedding_17 : decode mX4_endByWedding.2.1 17 = .ok (.ifnull 38, 3) := by decide +kernel
theorem dX4_endByWedding_20 : decode mX4_endByWedding.2.1 20 = .ok (.aload_n 1, 1) := by decide +kernel
theorem dX4_endByWedding_21 : decode mX4_endByWedding.2.1 21 = .ok (.getfield 137, 3) := by decide +kernel
theorem dX4_endByWedding_24 : decode mX4_endByWedding.2.1 24 = .ok (.ifCond .eq 31, 3) := by decide +kernel
theorem dX4_endByWedding_27 : decode mX4_endByWedding.2.1 27 = .ok (.aload_n 0, 1) := by decide +kernel
theorem dX4_endByWedding_28 : decode mX4_endByWedding.2.1 28 = .ok (.getfield 41, 3) := by decide +kernel
theorem dX4_endByWedding_31 : decode mX4_endByWedding.2.1 31 = .ok (.aload_n 0, 1) := by decide +kernel
theorem dX4_endByWedding_32 : decode mX4_endByWedding.2.1 32 = .ok (.getfield 23, 3) := by decide +kernel
theorem dX4_endByWedding_35 : decode mX4_endByWedding.2.1 35 = .ok (.aload_n 0, 1) := by decide +kernel
theorem dX4_endByWedding_36 : decode mX4_endByWedding.2.1 36 = .ok (.getfield 29, 3) := by decide +kernel
theorem dX4_endByWedding_39 : decode mX4_endByWedding.2.1 39 = .ok (.iconst 1, 1) := by decide +kernel
theorem dX4_endByWedding_40 : decode mX4_endByWedding.2.1 40 = .ok (.isub, 1) := by decide +kernel
theorem dX4_endByWedding_41 : decode mX4_endByWedding.2.1 41 = .ok (.aload_n 0, 1) := by decide +kernel
theorem dX4_endByWedding_42 : decode mX4_endByWedding.2.1 42 = .ok (.getfield 26, 3) := by decide +kernel
theorem dX4_endByWedding_45 : decode mX4_endByWedding.2.1 45 = .ok (.invokevirtual 140, 3) := by decide +kernel
theorem dX4_endByWedding_48 : decode mX4_endByWedding.2.1 48 = .ok (.aload_n 0, 1) := by decide +kernel
theorem dX4_endByWedding_49 : decode mX4_endByWedding.2.1 49 = .ok (.getfield 29, 3) := by decide +kernel
theorem dX4_endByWedding_52 : decode mX4_endByWedding.2.1 52 = .ok (.if_icmp .eq 4, 3) := by decide +kernel
theorem dX4_endByWedding_55 : decode mX4_endByWedding.2.1 55 = .ok (.return_, 1) := by decide +kernel
theorem dX4_endByWedding_56 : decode mX4_endByWedding.2.1 56 = .ok (.iconst 0, 1) := by decide +kernel
theorem dX4_endByWedding_57 : decode mX4_endByWedding.2.1 57 = .ok (.istore_n 2, 1) := by decide +kernel
theorem dX4_endByWedding_58 : decode mX4_endByWedding.2.1 58 = .ok (.iload_n 2, 1) := by decide +kernel
theorem dX4_endByWedding_59 : decode mX4_endByWedding.2.1 59 = .ok (.aload_n 0, 1) := by decide +kernel
theorem dX4_endByWedding_60 : decode mX4_endByWedding.2.1 60 = .ok (.getfield 19, 3) := by decide +kernel
theorem dX4_endByWedding_63 : decode mX4_endByWedding.2.1 63 = .ok (.if_icmp .ge 48, 3) := by decide +kernel
theorem dX4_endByWedding_66 : decode mX4_endByWedding.2.1 66 = .ok (.aload_n 0, 1) := by decide +kernel
theorem dX4_endByWedding_67 : decode mX4_endByWedding.2.1 67 = .ok (.getfield 15, 3) := by decide +kernel
theorem dX4_endByWedding_70 : decode mX4_endByWedding.2.1 70 = .ok (.iload_n 2, 1) := by decide +kernel
theorem dX4_endByWedding_71 : decode mX4_endByWedding.2.1 71 = .ok (.aaload, 1) := by decide +kernel
theorem dX4_endByWedding_72 : decode mX4_endByWedding.2.1 72 = .ok (.astore_n 3, 1) := by decide +kernel
theorem dX4_endByWedding_73 : decode mX4_endByWedding.2.1 73 = .ok (.aload_n 3, 1) := by decide +kernel
theorem dX4_endByWedding_74 : decode mX4_endByWedding.2.1 74 = .ok (.aload_n 0, 1) := by decide +kernel
theorem dX4_endByWedding_75 : decode mX4_endByWedding.2.1 75 = .ok (.getfield 29, 3) := by decide +kernel
theorem dX4_endByWedding_78 : decode mX4_endByWedding.2.1 78 = .ok (.invokevirtual 125, 3) := by decide +kernel
theorem dX4_endByWedding_81 : decode mX4_endByWedding.2.1 81 = .ok (.ifCond .eq 24, 3) := by decide +kernel
theorem dX4_endByWedding_84 : decode mX4_endByWedding.2.1 84 = .ok (.aload_n 3, 1) := by decide +kernel
theorem dX4_endByWedding_85 : decode mX4_endByWedding.2.1 85 = .ok (.invokevirtual 143, 3) := by decide +kernel
theorem dX4_endByWedding_88 : decode mX4_endByWedding.2.1 88 = .ok (.aload_n 1, 1) := by decide +kernel
theorem dX4_endByWedding_89 : decode mX4_endByWedding.2.1 89 = .ok (.getfield 137, 3) := by decide +kernel
theorem dX4_endByWedding_92 : decode mX4_endByWedding.2.1 92 = .ok (.if_icmp .gt 13, 3) := by decide +kernel
theorem dX4_endByWedding_95 : decode mX4_endByWedding.2.1 95 = .ok (.aload_n 3, 1) := by decide +kernel
theorem dX4_endByWedding_96 : decode mX4_endByWedding.2.1 96 = .ok (.aload_n 0, 1) := by decide +kernel
theorem dX4_endByWedding_97 : decode mX4_endByWedding.2.1 97 = .ok (.getfield 29, 3) := by decide +kernel
theorem dX4_endByWedding_100 : decode mX4_endByWedding.2.1 100 = .ok (.iconst 1, 1) := by decide +kernel
theorem dX4_endByWedding_101 : decode mX4_endByWedding.2.1 101 = .ok (.isub, 1) := by decide +kernel
theorem dX4_endByWedding_102 : decode mX4_endByWedding.2.1 102 = .ok (.invokevirtual 147, 3) := by decide +kernel
theorem dX4_endByWedding_105 : decode mX4_endByWedding.2.1 105 = .ok (.iinc 2 1, 3) := by decide +kernel
theorem dX4_endByWedding_108 : decode mX4_endByWedding.2.1 108 = .ok (.goto (-50), 3) := by decide +kernel
theorem dX4_endByWedding_111 : decode mX4_endByWedding.2.1 111 = .ok (.return_, 1) := by decide +kernel
theorem bX4_endByWedding_0 {SC : Nat → Nat} {X : mh_X} {d : Nat} {Q : Option am_V → am_W → Prop} {bc bs : Nat} {w : am_W} 
    (h : am_M (mh_G X) SC d 0 0 mX1_lawOn [.inr (.inr (some (4, 0))), .inl (w.1 6 0 6), .inl (w.1 6 0 5)] w (fun r w1 => am_A (mh_G X) SC (d + 1) mX4_endByWedding Q 15 [(0, .inr (.inr (some (6, 0))))] (r.toList ++ []) w1 bc bs)) :
    am_A (mh_G X) SC (d + 1) mX4_endByWedding Q 0 [(0, .inr (.inr (some (6, 0))))] [] w bc bs := by
  refine am_aload_n dX4_endByWedding_0 (List.Mem.head _) ?_
  refine am_getf (f := 1) (v := .inr (.inr (some (4, 0)))) dX4_endByWedding_1 hc_6 (by decide) wd_439 (by decide) rfl rfl ?_
  refine am_aload_n dX4_endByWedding_4 (List.Mem.head _) ?_
  refine am_getf (f := 6) (v := .inl (w.1 6 0 6)) dX4_endByWedding_5 hc_6 (by decide) wd_444 (by decide) rfl rfl ?_
  refine am_aload_n dX4_endByWedding_8 (List.Mem.head _) ?_
  refine am_getf (f := 5) (v := .inl (w.1 6 0 5)) dX4_endByWedding_9 hc_6 (by decide) wd_443 (by decide) rfl rfl ?_
  exact am_callv (d' := d) (kc := 0) (ks := 0) (as := [.inl (w.1 6 0 6), .inl (w.1 6 0 5)]) dX4_endByWedding_12 wc_X1_lawOn wd_1169 wd_1170 wd_1171 wd_115 ds_X1_lawOn (by decide) (Nat.le_refl _) (Nat.le_of_ble_eq_true rfl) (Nat.zero_le _) (Nat.zero_le _) hc_3 (by decide) rfl rfl h
theorem bX4_endByWedding_15 {SC : Nat → Nat} {X : mh_X} {d : Nat} {Q : Option am_V → am_W → Prop} {bc bs : Nat} {w : am_W} 
    (h : Q none w) :
    am_A (mh_G X) SC (d + 1) mX4_endByWedding Q 15 [(0, .inr (.inr (some (6, 0))))] [.inr (.inr none)] w bc bs := by
  refine am_astore_n (ls' := [(1, .inr (.inr none)), (0, .inr (.inr (some (6, 0))))]) dX4_endByWedding_15 (by decide) rfl ?_
  refine am_aload_n dX4_endByWedding_16 (List.Mem.head _) ?_
  refine am_ifnull (tgt := 55) dX4_endByWedding_17 (by decide) (fun _ => ?_) (fun e => absurd rfl e)
  exact am_ret (r := none) dX4_endByWedding_55 rfl rfl h
theorem bX4_endByWedding_15a {SC : Nat → Nat} {X : mh_X} {d : Nat} {Q : Option am_V → am_W → Prop} {bc bs : Nat} {w : am_W} {js0 : Nat}
    (h : (((w.1 10 js0 16) = 0 → Q none w) ∧ (¬ (w.1 10 js0 16) = 0 → am_M (mh_G X) SC d 0 0 mX2_nextWedding [.inr (.inr (some (5, 0))), .inl (w.1 6 0 4), .inl (am_w ((w.1 6 0 6) - 1)), .inl (w.1 6 0 5)] w (fun r w1 => am_A (mh_G X) SC (d + 1) mX4_endByWedding Q 48 [(1, .inr (.inr (some (10, js0)))), (0, .inr (.inr (some (6, 0))))] (r.toList ++ []) w1 bc bs)))) :
    am_A (mh_G X) SC (d + 1) mX4_endByWedding Q 15 [(0, .inr (.inr (some (6, 0))))] [.inr (.inr (some (10, js0)))] w bc bs := by
  refine am_astore_n (ls' := [(1, .inr (.inr (some (10, js0)))), (0, .inr (.inr (some (6, 0))))]) dX4_endByWedding_15 (by decide) rfl ?_
  refine am_aload_n dX4_endByWedding_16 (List.Mem.head _) ?_
  refine am_ifnull (tgt := 55) dX4_endByWedding_17 (by decide) (fun e => by cases e) (fun _ => ?_)
  refine am_aload_n dX4_endByWedding_20 (List.Mem.head _) ?_
  refine am_getf (f := 16) (v := .inl (w.1 10 js0 16)) dX4_endByWedding_21 hc_4 (by decide) wd_244 (by decide) rfl rfl ?_
  refine am_ifeq (tgt := 55) dX4_endByWedding_24 (by decide) (fun c1 => ?_) (fun c1 => ?_)
  · replace h := h.1 c1
    exact am_ret (r := none) dX4_endByWedding_55 rfl rfl h
  · replace h := h.2 c1
    refine am_aload_n dX4_endByWedding_27 (List.Mem.tail _ (List.Mem.head _)) ?_
    refine am_getf (f := 0) (v := .inr (.inr (some (5, 0)))) dX4_endByWedding_28 hc_6 (by decide) wd_438 (by decide) rfl rfl ?_
    refine am_aload_n dX4_endByWedding_31 (List.Mem.tail _ (List.Mem.head _)) ?_
    refine am_getf (f := 4) (v := .inl (w.1 6 0 4)) dX4_endByWedding_32 hc_6 (by decide) wd_442 (by decide) rfl rfl ?_
    refine am_aload_n dX4_endByWedding_35 (List.Mem.tail _ (List.Mem.head _)) ?_
    refine am_getf (f := 6) (v := .inl (w.1 6 0 6)) dX4_endByWedding_36 hc_6 (by decide) wd_444 (by decide) rfl rfl ?_
    refine am_iconst dX4_endByWedding_39 (by unfold am_rg; omega) ?_
    refine am_isub dX4_endByWedding_40 ?_
    refine am_aload_n dX4_endByWedding_41 (List.Mem.tail _ (List.Mem.head _)) ?_
    refine am_getf (f := 5) (v := .inl (w.1 6 0 5)) dX4_endByWedding_42 hc_6 (by decide) wd_443 (by decide) rfl rfl ?_
    exact am_callv (d' := d) (kc := 0) (ks := 0) (as := [.inl (w.1 6 0 4), .inl (am_w ((w.1 6 0 6) - 1)), .inl (w.1 6 0 5)]) dX4_endByWedding_45 wc_X2_nextWedding wd_1225 wd_1226 wd_1227 wd_117 ds_X2_nextWedding (by decide) (Nat.le_refl _) (Nat.le_of_ble_eq_true rfl) (Nat.zero_le _) (Nat.zero_le _) hc_5 (by decide) rfl rfl h
theorem bX4_endByWedding_48 {SC : Nat → Nat} {X : mh_X} {d : Nat} {Q : Option am_V → am_W → Prop} {bc bs : Nat} {w : am_W} {j1 : Nat} {xs0 : Int}
    (h : ((xs0 = (w.1 6 0 6) → am_A (mh_G X) SC (d + 1) mX4_endByWedding Q 58 [(0, .inr (.inr (some (6, 0)))), (1, .inr (.inr (some (10, j1)))), (2, .inl 0)] [] w bc bs) ∧ (¬ xs0 = (w.1 6 0 6) → Q none w))) :
    am_A (mh_G X) SC (d + 1) mX4_endByWedding Q 48 [(1, .inr (.inr (some (10, j1)))), (0, .inr (.inr (some (6, 0))))] [.inl xs0] w bc bs := by
  refine am_aload_n dX4_endByWedding_48 (List.Mem.tail _ (List.Mem.head _)) ?_
  refine am_getf (f := 6) (v := .inl (w.1 6 0 6)) dX4_endByWedding_49 hc_6 (by decide) wd_444 (by decide) rfl rfl ?_
  refine am_icmpeq (tgt := 56) dX4_endByWedding_52 (by decide) (fun c1 => ?_) (fun c1 => ?_)
  · replace h := h.1 c1
    refine am_iconst dX4_endByWedding_56 (by unfold am_rg; omega) ?_
    refine am_istore_n (ls' := [(2, .inl 0), (1, .inr (.inr (some (10, j1)))), (0, .inr (.inr (some (6, 0))))]) dX4_endByWedding_57 (by decide) rfl ?_
    exact am_sub [2, 1, 0] rfl h
  · replace h := h.2 c1
    exact am_ret (r := none) dX4_endByWedding_55 rfl rfl h
theorem bX4_endByWedding_58 {SC : Nat → Nat} {X : mh_X} {d : Nat} {Q : Option am_V → am_W → Prop} {bc bs : Nat} {w : am_W} {j1 : Nat} {x2 : Int}
    (h : (((w.1 6 0 3) ≤ x2 → Q none w) ∧ (¬ (w.1 6 0 3) ≤ x2 → (0 ≤ x2 ∧ (x2 < 40 ∧ am_M (mh_G X) SC d 0 0 mX5_isOn [.inr (.inr (some (11, x2.toNat))), .inl (w.1 6 0 6)] w (fun r w1 => am_A (mh_G X) SC (d + 1) mX4_endByWedding Q 81 [(3, .inr (.inr (some (11, x2.toNat)))), (0, .inr (.inr (some (6, 0)))), (1, .inr (.inr (some (10, j1)))), (2, .inl x2)] (r.toList ++ []) w1 bc bs)))))) :
    am_A (mh_G X) SC (d + 1) mX4_endByWedding Q 58 [(0, .inr (.inr (some (6, 0)))), (1, .inr (.inr (some (10, j1)))), (2, .inl x2)] [] w bc bs := by
  refine am_iload_n dX4_endByWedding_58 (List.Mem.tail _ (List.Mem.tail _ (List.Mem.head _))) ?_
  refine am_aload_n dX4_endByWedding_59 (List.Mem.head _) ?_
  refine am_getf (f := 3) (v := .inl (w.1 6 0 3)) dX4_endByWedding_60 hc_6 (by decide) wd_441 (by decide) rfl rfl ?_
  refine am_icmpge (tgt := 111) dX4_endByWedding_63 (by decide) (fun c1 => ?_) (fun c1 => ?_)
  · replace h := h.1 c1
    exact am_ret (r := none) dX4_endByWedding_111 rfl rfl h
  · replace h := h.2 c1
    refine am_aload_n dX4_endByWedding_66 (List.Mem.head _) ?_
    refine am_getf (f := 2) (v := .inr (.inr (some (49, 0)))) dX4_endByWedding_67 hc_6 (by decide) wd_440 (by decide) rfl rfl ?_
    refine am_iload_n dX4_endByWedding_70 (List.Mem.tail _ (List.Mem.tail _ (List.Mem.head _))) ?_
    have o2 := h.1
    replace h := h.2
    have o3 := h.1
    replace h := h.2
    refine am_aaload (kd := 8) (r := some (11, x2.toNat)) dX4_endByWedding_71 (by decide) rfl (by decide) (by decide) o2 o3 rfl ?_
    refine am_astore_n (ls' := [(3, .inr (.inr (some (11, x2.toNat)))), (0, .inr (.inr (some (6, 0)))), (1, .inr (.inr (some (10, j1)))), (2, .inl x2)]) dX4_endByWedding_72 (by decide) rfl ?_
    refine am_aload_n dX4_endByWedding_73 (List.Mem.head _) ?_
    refine am_aload_n dX4_endByWedding_74 (List.Mem.tail _ (List.Mem.head _)) ?_
    refine am_getf (f := 6) (v := .inl (w.1 6 0 6)) dX4_endByWedding_75 hc_6 (by decide) wd_444 (by decide) rfl rfl ?_
    exact am_callv (d' := d) (kc := 0) (ks := 0) (as := [.inl (w.1 6 0 6)]) dX4_endByWedding_78 wc_X5_isOn wd_1216 wd_1217 wd_1218 wd_119 ds_X5_isOn (by decide) (Nat.le_refl _) (Nat.le_of_ble_eq_true rfl) (Nat.zero_le _) (Nat.zero_le _) hc_7 (by decide) rfl rfl h
theorem bX4_endByWedding_81 {SC : Nat → Nat} {X : mh_X} {d : Nat} {Q : Option am_V → am_W → Prop} {bc bs : Nat} {w : am_W} {j3 : Nat} {j1 : Nat} {x2 : Int} {xs0 : Int}
    (h : ((xs0 = 0 → am_A (mh_G X) SC (d + 1) mX4_endByWedding Q 105 [(0, .inr (.inr (some (6, 0)))), (1, .inr (.inr (some (10, j1)))), (2, .inl x2)] [] w bc bs) ∧ (¬ xs0 = 0 → am_M (mh_G X) SC d 0 0 mX5_depthNow [.inr (.inr (some (11, j3)))] w (fun r w1 => am_A (mh_G X) SC (d + 1) mX4_endByWedding Q 88 [(3, .inr (.inr (some (11, j3)))), (0, .inr (.inr (some (6, 0)))), (1, .inr (.inr (some (10, j1)))), (2, .inl x2)] (r.toList ++ []) w1 bc bs)))) :
    am_A (mh_G X) SC (d + 1) mX4_endByWedding Q 81 [(3, .inr (.inr (some (11, j3)))), (0, .inr (.inr (some (6, 0)))), (1, .inr (.inr (some (10, j1)))), (2, .inl x2)] [.inl xs0] w bc bs := by
  refine am_ifeq (tgt := 105) dX4_endByWedding_81 (by decide) (fun c1 => ?_) (fun c1 => ?_)
  · replace h := h.1 c1
    exact am_sub [1, 2, 3] rfl h
  · replace h := h.2 c1
    refine am_aload_n dX4_endByWedding_84 (List.Mem.head _) ?_
    exact am_callv (d' := d) (kc := 0) (ks := 0) (as := []) dX4_endByWedding_85 wc_X5_depthNow wd_1220 wd_1221 wd_1222 wd_119 ds_X5_depthNow (by decide) (Nat.le_refl _) (Nat.le_of_ble_eq_true rfl) (Nat.zero_le _) (Nat.zero_le _) hc_7 (by decide) rfl rfl h
theorem bX4_endByWedding_105 {SC : Nat → Nat} {X : mh_X} {d : Nat} {Q : Option am_V → am_W → Prop} {bc bs : Nat} {w : am_W} {j1 : Nat} {x2 : Int}
    (h : am_A (mh_G X) SC (d + 1) mX4_endByWedding Q 58 [(0, .inr (.inr (some (6, 0)))), (1, .inr (.inr (some (10, j1)))), (2, .inl (am_w (x2 + 1)))] [] w bc bs) :
    am_A (mh_G X) SC (d + 1) mX4_endByWedding Q 105 [(0, .inr (.inr (some (6, 0)))), (1, .inr (.inr (some (10, j1)))), (2, .inl x2)] [] w bc bs := by
  refine am_iinc (ls' := [(2, .inl (am_w (x2 + 1))), (0, .inr (.inr (some (6, 0)))), (1, .inr (.inr (some (10, j1))))]) dX4_endByWedding_105 (List.Mem.tail _ (List.Mem.tail _ (List.Mem.head _))) (by decide) rfl ?_
  refine am_goto (tgt := 58) dX4_endByWedding_108 (by decide) ?_
  exact am_sub [1, 2, 0] rfl h
theorem bX4_endByWedding_88 {SC : Nat → Nat} {X : mh_X} {d : Nat} {Q : Option am_V → am_W → Prop} {bc bs : Nat} {w : am_W} {j3 : Nat} {j1 : Nat} {x2 : Int} {xs0 : Int}
    (h : (((w.1 10 j1 16) < xs0 → am_A (mh_G X) SC (d + 1) mX4_endByWedding Q 105 [(0, .inr (.inr (some (6, 0)))), (1, .inr (.inr (some (10, j1)))), (2, .inl x2)] [] w bc bs) ∧ (¬ (w.1 10 j1 16) < xs0 → am_M (mh_G X) SC d 0 0 mX5_finish [.inr (.inr (some (11, j3))), .inl (am_w ((w.1 6 0 6) - 1))] w (fun r w1 => am_A (mh_G X) SC (d + 1) mX4_endByWedding Q 105 [(3, .inr (.inr (some (11, j3)))), (0, .inr (.inr (some (6, 0)))), (1, .inr (.inr (some (10, j1)))), (2, .inl x2)] (r.toList ++ []) w1 bc bs)))) :
    am_A (mh_G X) SC (d + 1) mX4_endByWedding Q 88 [(3, .inr (.inr (some (11, j3)))), (0, .inr (.inr (some (6, 0)))), (1, .inr (.inr (some (10, j1)))), (2, .inl x2)] [.inl xs0] w bc bs := by
  refine am_aload_n dX4_endByWedding_88 (List.Mem.tail _ (List.Mem.tail _ (List.Mem.head _))) ?_
  refine am_getf (f := 16) (v := .inl (w.1 10 j1 16)) dX4_endByWedding_89 hc_4 (by decide) wd_244 (by decide) rfl rfl ?_
  refine am_icmpgt (tgt := 105) dX4_endByWedding_92 (by decide) (fun c1 => ?_) (fun c1 => ?_)
  · replace h := h.1 c1
    exact am_sub [1, 2, 3] rfl h
  · replace h := h.2 c1
    refine am_aload_n dX4_endByWedding_95 (List.Mem.head _) ?_
    refine am_aload_n dX4_endByWedding_96 (List.Mem.tail _ (List.Mem.head _)) ?_
    refine am_getf (f := 6) (v := .inl (w.1 6 0 6)) dX4_endByWedding_97 hc_6 (by decide) wd_444 (by decide) rfl rfl ?_
    refine am_iconst dX4_endByWedding_100 (by unfold am_rg; omega) ?_
    refine am_isub dX4_endByWedding_101 ?_
    exact am_callv (d' := d) (kc := 0) (ks := 0) (as := [.inl (am_w ((w.1 6 0 6) - 1))]) dX4_endByWedding_102 wc_X5_finish wd_1263 wd_1256 wd_1257 wd_119 ds_X5_finish (by decide) (Nat.le_refl _) (Nat.le_of_ble_eq_true rfl) (Nat.zero_le _) (Nat.zero_le _) hc_7 (by decide) rfl rfl h
theorem bX4_endByWedding_105a {SC : Nat → Nat} {X : mh_X} {d : Nat} {Q : Option am_V → am_W → Prop} {bc bs : Nat} {w : am_W} {j3 : Nat} {j1 : Nat} {x2 : Int}
    (h : am_A (mh_G X) SC (d + 1) mX4_endByWedding Q 58 [(0, .inr (.inr (some (6, 0)))), (1, .inr (.inr (some (10, j1)))), (2, .inl (am_w (x2 + 1)))] [] w bc bs) :
    am_A (mh_G X) SC (d + 1) mX4_endByWedding Q 105 [(3, .inr (.inr (some (11, j3)))), (0, .inr (.inr (some (6, 0)))), (1, .inr (.inr (some (10, j1)))), (2, .inl x2)] [] w bc bs := by
  refine am_iinc (ls' := [(2, .inl (am_w (x2 + 1))), (3, .inr (.inr (some (11, j3)))), (0, .inr (.inr (some (6, 0)))), (1, .inr (.inr (some (10, j1))))]) dX4_endByWedding_105 (List.Mem.tail _ (List.Mem.tail _ (List.Mem.tail _ (List.Mem.head _)))) (by decide) rfl ?_
  refine am_goto (tgt := 58) dX4_endByWedding_108 (by decide) ?_
  exact am_sub [2, 3, 0] rfl h
-- MourningHouse$Mourner.lookAhead()V
theorem dX4_lookAhead_0 : decode mX4_lookAhead.2.1 0 = .ok (.aload_n 0, 1) := by decide +kernel
theorem dX4_lookAhead_1 : decode mX4_lookAhead.2.1 1 = .ok (.iconst 0, 1) := by decide +kernel
theorem dX4_lookAhead_2 : decode mX4_lookAhead.2.1 2 = .ok (.putfield 35, 3) := by decide +kernel
theorem dX4_lookAhead_5 : decode mX4_lookAhead.2.1 5 = .ok (.aload_n 0, 1) := by decide +kernel
theorem dX4_lookAhead_6 : decode mX4_lookAhead.2.1 6 = .ok (.iconst 0, 1) := by decide +kernel
theorem dX4_lookAhead_7 : decode mX4_lookAhead.2.1 7 = .ok (.putfield 38, 3) := by decide +kernel
theorem dX4_lookAhead_10 : decode mX4_lookAhead.2.1 10 = .ok (.iconst 0, 1) := by decide +kernel
theorem dX4_lookAhead_11 : decode mX4_lookAhead.2.1 11 = .ok (.istore_n 1, 1) := by decide +kernel
theorem dX4_lookAhead_12 : decode mX4_lookAhead.2.1 12 = .ok (.iload_n 1, 1) := by decide +kernel
theorem dX4_lookAhead_13 : decode mX4_lookAhead.2.1 13 = .ok (.aload_n 0, 1) := by decide +kernel
theorem dX4_lookAhead_14 : decode mX4_lookAhead.2.1 14 = .ok (.getfield 19, 3) := by decide +kernel
theorem dX4_lookAhead_17 : decode mX4_lookAhead.2.1 17 = .ok (.if_icmp .ge 78, 3) := by decide +kernel
theorem dX4_lookAhead_20 : decode mX4_lookAhead.2.1 20 = .ok (.aload_n 0, 1) := by decide +kernel
theorem dX4_lookAhead_21 : decode mX4_lookAhead.2.1 21 = .ok (.getfield 15, 3) := by decide +kernel
theorem dX4_lookAhead_24 : decode mX4_lookAhead.2.1 24 = .ok (.iload_n 1, 1) := by decide +kernel
theorem dX4_lookAhead_25 : decode mX4_lookAhead.2.1 25 = .ok (.aaload, 1) := by decide +kernel
theorem dX4_lookAhead_26 : decode mX4_lookAhead.2.1 26 = .ok (.astore_n 2, 1) := by decide +kernel
theorem dX4_lookAhead_27 : decode mX4_lookAhead.2.1 27 = .ok (.aload_n 2, 1) := by decide +kernel
theorem dX4_lookAhead_28 : decode mX4_lookAhead.2.1 28 = .ok (.aload_n 0, 1) := by decide +kernel
theorem dX4_lookAhead_29 : decode mX4_lookAhead.2.1 29 = .ok (.getfield 29, 3) := by decide +kernel
theorem dX4_lookAhead_32 : decode mX4_lookAhead.2.1 32 = .ok (.invokevirtual 125, 3) := by decide +kernel
theorem dX4_lookAhead_35 : decode mX4_lookAhead.2.1 35 = .ok (.ifCond .eq 28, 3) := by decide +kernel
theorem dX4_lookAhead_38 : decode mX4_lookAhead.2.1 38 = .ok (.aload_n 2, 1) := by decide +kernel
theorem dX4_lookAhead_39 : decode mX4_lookAhead.2.1 39 = .ok (.getfield 150, 3) := by decide +kernel
theorem dX4_lookAhead_42 : decode mX4_lookAhead.2.1 42 = .ok (.ifCond .eq 21, 3) := by decide +kernel
theorem dX4_lookAhead_45 : decode mX4_lookAhead.2.1 45 = .ok (.aload_n 0, 1) := by decide +kernel
theorem dX4_lookAhead_46 : decode mX4_lookAhead.2.1 46 = .ok (.aload_n 0, 1) := by decide +kernel
theorem dX4_lookAhead_47 : decode mX4_lookAhead.2.1 47 = .ok (.getfield 35, 3) := by decide +kernel
theorem dX4_lookAhead_50 : decode mX4_lookAhead.2.1 50 = .ok (.aload_n 2, 1) := by decide +kernel
theorem dX4_lookAhead_51 : decode mX4_lookAhead.2.1 51 = .ok (.invokevirtual 143, 3) := by decide +kernel
theorem dX4_lookAhead_54 : decode mX4_lookAhead.2.1 54 = .ok (.invokestatic 110, 3) := by decide +kernel
theorem dX4_lookAhead_57 : decode mX4_lookAhead.2.1 57 = .ok (.putfield 35, 3) := by decide +kernel
theorem dX4_lookAhead_60 : decode mX4_lookAhead.2.1 60 = .ok (.goto 29, 3) := by decide +kernel
theorem dX4_lookAhead_63 : decode mX4_lookAhead.2.1 63 = .ok (.aload_n 2, 1) := by decide +kernel
theorem dX4_lookAhead_64 : decode mX4_lookAhead.2.1 64 = .ok (.aload_n 0, 1) := by decide +kernel
theorem dX4_lookAhead_65 : decode mX4_lookAhead.2.1 65 = .ok (.getfield 29, 3) := by decide +kernel
theorem dX4_lookAhead_68 : decode mX4_lookAhead.2.1 68 = .ok (.invokevirtual 125, 3) := by decide +kernel
theorem dX4_lookAhead_71 : decode mX4_lookAhead.2.1 71 = .ok (.ifCond .eq 18, 3) := by decide +kernel
theorem dX4_lookAhead_74 : decode mX4_lookAhead.2.1 74 = .ok (.aload_n 0, 1) := by decide +kernel
theorem dX4_lookAhead_75 : decode mX4_lookAhead.2.1 75 = .ok (.aload_n 0, 1) := by decide +kernel
theorem dX4_lookAhead_76 : decode mX4_lookAhead.2.1 76 = .ok (.getfield 38, 3) := by decide +kernel
theorem dX4_lookAhead_79 : decode mX4_lookAhead.2.1 79 = .ok (.aload_n 2, 1) := by decide +kernel
theorem dX4_lookAhead_80 : decode mX4_lookAhead.2.1 80 = .ok (.invokevirtual 143, 3) := by decide +kernel
theorem dX4_lookAhead_83 : decode mX4_lookAhead.2.1 83 = .ok (.invokestatic 110, 3) := by decide +kernel
theorem dX4_lookAhead_86 : decode mX4_lookAhead.2.1 86 = .ok (.putfield 38, 3) := by decide +kernel
theorem dX4_lookAhead_89 : decode mX4_lookAhead.2.1 89 = .ok (.iinc 1 1, 3) := by decide +kernel
theorem dX4_lookAhead_92 : decode mX4_lookAhead.2.1 92 = .ok (.goto (-80), 3) := by decide +kernel
theorem dX4_lookAhead_95 : decode mX4_lookAhead.2.1 95 = .ok (.aload_n 0, 1) := by decide +kernel
theorem dX4_lookAhead_96 : decode mX4_lookAhead.2.1 96 = .ok (.getfield 35, 3) := by decide +kernel
theorem dX4_lookAhead_99 : decode mX4_lookAhead.2.1 99 = .ok (.aload_n 0, 1) := by decide +kernel
theorem dX4_lookAhead_100 : decode mX4_lookAhead.2.1 100 = .ok (.getfield 38, 3) := by decide +kernel
theorem dX4_lookAhead_103 : decode mX4_lookAhead.2.1 103 = .ok (.invokestatic 110, 3) := by decide +kernel
theorem dX4_lookAhead_106 : decode mX4_lookAhead.2.1 106 = .ok (.istore_n 1, 1) := by decide +kernel
theorem dX4_lookAhead_107 : decode mX4_lookAhead.2.1 107 = .ok (.aload_n 0, 1) := by decide +kernel
theorem dX4_lookAhead_108 : decode mX4_lookAhead.2.1 108 = .ok (.ldc 154, 2) := by decide +kernel
theorem dX4_lookAhead_110 : decode mX4_lookAhead.2.1 110 = .ok (.aload_n 0, 1) := by decide +kernel
theorem dX4_lookAhead_111 : decode mX4_lookAhead.2.1 111 = .ok (.getfield 41, 3) := by decide +kernel
theorem dX4_lookAhead_114 : decode mX4_lookAhead.2.1 114 = .ok (.aload_n 0, 1) := by decide +kernel
theorem dX4_lookAhead_115 : decode mX4_lookAhead.2.1 115 = .ok (.getfield 23, 3) := by decide +kernel
theorem dX4_lookAhead_118 : decode mX4_lookAhead.2.1 118 = .ok (.aload_n 0, 1) := by decide +kernel
theorem dX4_lookAhead_119 : decode mX4_lookAhead.2.1 119 = .ok (.getfield 29, 3) := by decide +kernel
theorem dX4_lookAhead_122 : decode mX4_lookAhead.2.1 122 = .ok (.aload_n 0, 1) := by decide +kernel
theorem dX4_lookAhead_123 : decode mX4_lookAhead.2.1 123 = .ok (.getfield 26, 3) := by decide +kernel
theorem dX4_lookAhead_126 : decode mX4_lookAhead.2.1 126 = .ok (.invokevirtual 140, 3) := by decide +kernel
theorem dX4_lookAhead_129 : decode mX4_lookAhead.2.1 129 = .ok (.invokestatic 155, 3) := by decide +kernel
theorem dX4_lookAhead_132 : decode mX4_lookAhead.2.1 132 = .ok (.putfield 32, 3) := by decide +kernel
theorem dX4_lookAhead_135 : decode mX4_lookAhead.2.1 135 = .ok (.iconst 0, 1) := by decide +kernel
theorem dX4_lookAhead_136 : decode mX4_lookAhead.2.1 136 = .ok (.istore_n 2, 1) := by decide +kernel
theorem dX4_lookAhead_137 : decode mX4_lookAhead.2.1 137 = .ok (.iload_n 2, 1) := by decide +kernel
theorem dX4_lookAhead_138 : decode mX4_lookAhead.2.1 138 = .ok (.aload_n 0, 1) := by decide +kernel
theorem dX4_lookAhead_139 : decode mX4_lookAhead.2.1 139 = .ok (.getfield 19, 3) := by decide +kernel
theorem dX4_lookAhead_142 : decode mX4_lookAhead.2.1 142 = .ok (.if_icmp .ge 80, 3) := by decide +kernel
theorem dX4_lookAhead_145 : decode mX4_lookAhead.2.1 145 = .ok (.aload_n 0, 1) := by decide +kernel
theorem dX4_lookAhead_146 : decode mX4_lookAhead.2.1 146 = .ok (.getfield 15, 3) := by decide +kernel
theorem dX4_lookAhead_149 : decode mX4_lookAhead.2.1 149 = .ok (.iload_n 2, 1) := by decide +kernel
theorem dX4_lookAhead_150 : decode mX4_lookAhead.2.1 150 = .ok (.aaload, 1) := by decide +kernel
theorem dX4_lookAhead_151 : decode mX4_lookAhead.2.1 151 = .ok (.astore_n 3, 1) := by decide +kernel
theorem dX4_lookAhead_152 : decode mX4_lookAhead.2.1 152 = .ok (.aload_n 3, 1) := by decide +kernel
theorem dX4_lookAhead_153 : decode mX4_lookAhead.2.1 153 = .ok (.getfield 158, 3) := by decide +kernel
theorem dX4_lookAhead_156 : decode mX4_lookAhead.2.1 156 = .ok (.aload_n 0, 1) := by decide +kernel
theorem dX4_lookAhead_157 : decode mX4_lookAhead.2.1 157 = .ok (.getfield 29, 3) := by decide +kernel
theorem dX4_lookAhead_160 : decode mX4_lookAhead.2.1 160 = .ok (.if_icmp .le 21, 3) := by decide +kernel
theorem dX4_lookAhead_163 : decode mX4_lookAhead.2.1 163 = .ok (.aload_n 0, 1) := by decide +kernel
theorem dX4_lookAhead_164 : decode mX4_lookAhead.2.1 164 = .ok (.aload_n 0, 1) := by decide +kernel
theorem dX4_lookAhead_165 : decode mX4_lookAhead.2.1 165 = .ok (.getfield 32, 3) := by decide +kernel
theorem dX4_lookAhead_168 : decode mX4_lookAhead.2.1 168 = .ok (.aload_n 3, 1) := by decide +kernel
theorem dX4_lookAhead_169 : decode mX4_lookAhead.2.1 169 = .ok (.getfield 158, 3) := by decide +kernel
theorem dX4_lookAhead_172 : decode mX4_lookAhead.2.1 172 = .ok (.invokestatic 155, 3) := by decide +kernel
theorem dX4_lookAhead_175 : decode mX4_lookAhead.2.1 175 = .ok (.putfield 32, 3) := by decide +kernel
theorem dX4_lookAhead_178 : decode mX4_lookAhead.2.1 178 = .ok (.goto 38, 3) := by decide +kernel
theorem dX4_lookAhead_181 : decode mX4_lookAhead.2.1 181 = .ok (.aload_n 3, 1) := by decide +kernel
theorem dX4_lookAhead_182 : decode mX4_lookAhead.2.1 182 = .ok (.getfield 161, 3) := by decide +kernel
theorem dX4_lookAhead_185 : decode mX4_lookAhead.2.1 185 = .ok (.ifCond .ne 31, 3) := by decide +kernel
theorem dX4_lookAhead_188 : decode mX4_lookAhead.2.1 188 = .ok (.aload_n 3, 1) := by decide +kernel
theorem dX4_lookAhead_189 : decode mX4_lookAhead.2.1 189 = .ok (.iload_n 1, 1) := by decide +kernel
theorem dX4_lookAhead_190 : decode mX4_lookAhead.2.1 190 = .ok (.invokevirtual 128, 3) := by decide +kernel
theorem dX4_lookAhead_193 : decode mX4_lookAhead.2.1 193 = .ok (.ifCond .eq 23, 3) := by decide +kernel
theorem dX4_lookAhead_196 : decode mX4_lookAhead.2.1 196 = .ok (.aload_n 0, 1) := by decide +kernel
theorem dX4_lookAhead_197 : decode mX4_lookAhead.2.1 197 = .ok (.aload_n 0, 1) := by decide +kernel
theorem dX4_lookAhead_198 : decode mX4_lookAhead.2.1 198 = .ok (.getfield 32, 3) := by decide +kernel
theorem dX4_lookAhead_201 : decode mX4_lookAhead.2.1 201 = .ok (.aload_n 0, 1) := by decide +kernel
theorem dX4_lookAhead_202 : decode mX4_lookAhead.2.1 202 = .ok (.getfield 29, 3) := by decide +kernel
theorem dX4_lookAhead_205 : decode mX4_lookAhead.2.1 205 = .ok (.aload_n 3, 1) := by decide +kernel
theorem dX4_lookAhead_206 : decode mX4_lookAhead.2.1 206 = .ok (.invokevirtual 164, 3) := by decide +kernel
theorem dX4_lookAhead_209 : decode mX4_lookAhead.2.1 209 = .ok (.iadd, 1) := by decide +kernel
theorem dX4_lookAhead_210 : decode mX4_lookAhead.2.1 210 = .ok (.invokestatic 155, 3) := by decide +kernel
theorem dX4_lookAhead_213 : decode mX4_lookAhead.2.1 213 = .ok (.putfield 32, 3) := by decide +kernel
theorem dX4_lookAhead_216 : decode mX4_lookAhead.2.1 216 = .ok (.iinc 2 1, 3) := by decide +kernel
theorem dX4_lookAhead_219 : decode mX4_lookAhead.2.1 219 = .ok (.goto (-82), 3) := by decide +kernel
theorem dX4_lookAhead_222 : decode mX4_lookAhead.2.1 222 = .ok (.return_, 1) := by decide +kernel
theorem bX4_lookAhead_0 {SC : Nat → Nat} {X : mh_X} {d : Nat} {Q : Option am_V → am_W → Prop} {bc bs : Nat} {w : am_W} 
    (h : am_A (mh_G X) SC (d + 1) mX4_lookAhead Q 12 [(0, .inr (.inr (some (6, 0)))), (1, .inl 0)] [] ((am_up (am_up w.1 6 0 8 0) 6 0 9 0), w.2) bc bs) :
    am_A (mh_G X) SC (d + 1) mX4_lookAhead Q 0 [(0, .inr (.inr (some (6, 0))))] [] w bc bs := by
  refine am_aload_n dX4_lookAhead_0 (List.Mem.head _) ?_
  refine am_iconst dX4_lookAhead_1 (by unfold am_rg; omega) ?_
  refine am_putf (f := 8) dX4_lookAhead_2 hc_6 (by decide) wd_446 rfl (Or.inl rfl) (Or.inl (by decide)) rfl ?_
  refine am_aload_n dX4_lookAhead_5 (List.Mem.head _) ?_
  refine am_iconst dX4_lookAhead_6 (by unfold am_rg; omega) ?_
  refine am_putf (f := 9) dX4_lookAhead_7 hc_6 (by decide) wd_447 rfl (Or.inl rfl) (Or.inl (by decide)) rfl ?_
  refine am_iconst dX4_lookAhead_10 (by unfold am_rg; omega) ?_
  refine am_istore_n (ls' := [(1, .inl 0), (0, .inr (.inr (some (6, 0))))]) dX4_lookAhead_11 (by decide) rfl ?_
  exact am_sub [1, 0] rfl h
theorem bX4_lookAhead_12 {SC : Nat → Nat} {X : mh_X} {d : Nat} {Q : Option am_V → am_W → Prop} {bc bs : Nat} {w : am_W} {x1 : Int}
    (h : (((w.1 6 0 3) ≤ x1 → am_M (mh_G X) SC d 0 0 mJ9_max_7cf53 [.inl (w.1 6 0 8), .inl (w.1 6 0 9)] w (fun r w1 => am_A (mh_G X) SC (d + 1) mX4_lookAhead Q 106 [(0, .inr (.inr (some (6, 0)))), (1, .inl x1)] (r.toList ++ []) w1 bc bs)) ∧ (¬ (w.1 6 0 3) ≤ x1 → (0 ≤ x1 ∧ (x1 < 40 ∧ am_M (mh_G X) SC d 0 0 mX5_isOn [.inr (.inr (some (11, x1.toNat))), .inl (w.1 6 0 6)] w (fun r w1 => am_A (mh_G X) SC (d + 1) mX4_lookAhead Q 35 [(2, .inr (.inr (some (11, x1.toNat)))), (0, .inr (.inr (some (6, 0)))), (1, .inl x1)] (r.toList ++ []) w1 bc bs)))))) :
    am_A (mh_G X) SC (d + 1) mX4_lookAhead Q 12 [(0, .inr (.inr (some (6, 0)))), (1, .inl x1)] [] w bc bs := by
  refine am_iload_n dX4_lookAhead_12 (List.Mem.tail _ (List.Mem.head _)) ?_
  refine am_aload_n dX4_lookAhead_13 (List.Mem.head _) ?_
  refine am_getf (f := 3) (v := .inl (w.1 6 0 3)) dX4_lookAhead_14 hc_6 (by decide) wd_441 (by decide) rfl rfl ?_
  refine am_icmpge (tgt := 95) dX4_lookAhead_17 (by decide) (fun c1 => ?_) (fun c1 => ?_)
  · replace h := h.1 c1
    refine am_aload_n dX4_lookAhead_95 (List.Mem.head _) ?_
    refine am_getf (f := 8) (v := .inl (w.1 6 0 8)) dX4_lookAhead_96 hc_6 (by decide) wd_446 (by decide) rfl rfl ?_
    refine am_aload_n dX4_lookAhead_99 (List.Mem.head _) ?_
    refine am_getf (f := 9) (v := .inl (w.1 6 0 9)) dX4_lookAhead_100 hc_6 (by decide) wd_447 (by decide) rfl rfl ?_
    exact am_calls (d' := d) (kc := 0) (ks := 0) (as := [.inl (w.1 6 0 8), .inl (w.1 6 0 9)]) dX4_lookAhead_103 wc_J9_max_7cf53 wd_1191 wd_785 wd_128 ds_J9_max_7cf53 (by decide) (Nat.le_refl _) (Nat.le_of_ble_eq_true rfl) (Nat.zero_le _) (Nat.zero_le _) rfl h
  · replace h := h.2 c1
    refine am_aload_n dX4_lookAhead_20 (List.Mem.head _) ?_
    refine am_getf (f := 2) (v := .inr (.inr (some (49, 0)))) dX4_lookAhead_21 hc_6 (by decide) wd_440 (by decide) rfl rfl ?_
    refine am_iload_n dX4_lookAhead_24 (List.Mem.tail _ (List.Mem.head _)) ?_
    have o2 := h.1
    replace h := h.2
    have o3 := h.1
    replace h := h.2
    refine am_aaload (kd := 8) (r := some (11, x1.toNat)) dX4_lookAhead_25 (by decide) rfl (by decide) (by decide) o2 o3 rfl ?_
    refine am_astore_n (ls' := [(2, .inr (.inr (some (11, x1.toNat)))), (0, .inr (.inr (some (6, 0)))), (1, .inl x1)]) dX4_lookAhead_26 (by decide) rfl ?_
    refine am_aload_n dX4_lookAhead_27 (List.Mem.head _) ?_
    refine am_aload_n dX4_lookAhead_28 (List.Mem.tail _ (List.Mem.head _)) ?_
    refine am_getf (f := 6) (v := .inl (w.1 6 0 6)) dX4_lookAhead_29 hc_6 (by decide) wd_444 (by decide) rfl rfl ?_
    exact am_callv (d' := d) (kc := 0) (ks := 0) (as := [.inl (w.1 6 0 6)]) dX4_lookAhead_32 wc_X5_isOn wd_1216 wd_1217 wd_1218 wd_119 ds_X5_isOn (by decide) (Nat.le_refl _) (Nat.le_of_ble_eq_true rfl) (Nat.zero_le _) (Nat.zero_le _) hc_7 (by decide) rfl rfl h
theorem bX4_lookAhead_106 {SC : Nat → Nat} {X : mh_X} {d : Nat} {Q : Option am_V → am_W → Prop} {bc bs : Nat} {w : am_W} {x1 : Int} {xs0 : Int}
    (h : am_M (mh_G X) SC d 0 0 mX2_nextWedding [.inr (.inr (some (5, 0))), .inl (w.1 6 0 4), .inl (w.1 6 0 6), .inl (w.1 6 0 5)] w (fun r w1 => am_A (mh_G X) SC (d + 1) mX4_lookAhead Q 129 [(1, .inl xs0), (0, .inr (.inr (some (6, 0))))] (r.toList ++ [.inl 73049, .inr (.inr (some (6, 0)))]) w1 bc bs)) :
    am_A (mh_G X) SC (d + 1) mX4_lookAhead Q 106 [(0, .inr (.inr (some (6, 0)))), (1, .inl x1)] [.inl xs0] w bc bs := by
  refine am_istore_n (ls' := [(1, .inl xs0), (0, .inr (.inr (some (6, 0))))]) dX4_lookAhead_106 (by decide) rfl ?_
  refine am_aload_n dX4_lookAhead_107 (List.Mem.tail _ (List.Mem.head _)) ?_
  refine am_ldcV (n := 73049) dX4_lookAhead_108 (by decide) wd_1224 (by unfold am_rg; omega) ?_
  refine am_aload_n dX4_lookAhead_110 (List.Mem.tail _ (List.Mem.head _)) ?_
  refine am_getf (f := 0) (v := .inr (.inr (some (5, 0)))) dX4_lookAhead_111 hc_6 (by decide) wd_438 (by decide) rfl rfl ?_
  refine am_aload_n dX4_lookAhead_114 (List.Mem.tail _ (List.Mem.head _)) ?_
  refine am_getf (f := 4) (v := .inl (w.1 6 0 4)) dX4_lookAhead_115 hc_6 (by decide) wd_442 (by decide) rfl rfl ?_
  refine am_aload_n dX4_lookAhead_118 (List.Mem.tail _ (List.Mem.head _)) ?_
  refine am_getf (f := 6) (v := .inl (w.1 6 0 6)) dX4_lookAhead_119 hc_6 (by decide) wd_444 (by decide) rfl rfl ?_
  refine am_aload_n dX4_lookAhead_122 (List.Mem.tail _ (List.Mem.head _)) ?_
  refine am_getf (f := 5) (v := .inl (w.1 6 0 5)) dX4_lookAhead_123 hc_6 (by decide) wd_443 (by decide) rfl rfl ?_
  exact am_callv (d' := d) (kc := 0) (ks := 0) (as := [.inl (w.1 6 0 4), .inl (w.1 6 0 6), .inl (w.1 6 0 5)]) dX4_lookAhead_126 wc_X2_nextWedding wd_1225 wd_1226 wd_1227 wd_117 ds_X2_nextWedding (by decide) (Nat.le_refl _) (Nat.le_of_ble_eq_true rfl) (Nat.zero_le _) (Nat.zero_le _) hc_5 (by decide) rfl rfl h
theorem bX4_lookAhead_35 {SC : Nat → Nat} {X : mh_X} {d : Nat} {Q : Option am_V → am_W → Prop} {bc bs : Nat} {w : am_W} {j2 : Nat} {x1 : Int} {xs0 : Int}
    (h : ((xs0 = 0 → am_A (mh_G X) SC (d + 1) mX4_lookAhead Q 63 [(0, .inr (.inr (some (6, 0)))), (1, .inl x1), (2, .inr (.inr (some (11, j2))))] [] w bc bs) ∧ (¬ xs0 = 0 → (((w.1 11 j2 6) = 0 → am_A (mh_G X) SC (d + 1) mX4_lookAhead Q 63 [(0, .inr (.inr (some (6, 0)))), (1, .inl x1), (2, .inr (.inr (some (11, j2))))] [] w bc bs) ∧ (¬ (w.1 11 j2 6) = 0 → am_M (mh_G X) SC d 0 0 mX5_depthNow [.inr (.inr (some (11, j2)))] w (fun r w1 => am_A (mh_G X) SC (d + 1) mX4_lookAhead Q 54 [(2, .inr (.inr (some (11, j2)))), (0, .inr (.inr (some (6, 0)))), (1, .inl x1)] (r.toList ++ [.inl (w.1 6 0 8), .inr (.inr (some (6, 0)))]) w1 bc bs)))))) :
    am_A (mh_G X) SC (d + 1) mX4_lookAhead Q 35 [(2, .inr (.inr (some (11, j2)))), (0, .inr (.inr (some (6, 0)))), (1, .inl x1)] [.inl xs0] w bc bs := by
  refine am_ifeq (tgt := 63) dX4_lookAhead_35 (by decide) (fun c1 => ?_) (fun c1 => ?_)
  · replace h := h.1 c1
    exact am_sub [1, 2, 0] rfl h
  · replace h := h.2 c1
    refine am_aload_n dX4_lookAhead_38 (List.Mem.head _) ?_
    refine am_getf (f := 6) (v := .inl (w.1 11 j2 6)) dX4_lookAhead_39 hc_7 (by decide) wd_408 (by decide) rfl rfl ?_
    refine am_ifeq (tgt := 63) dX4_lookAhead_42 (by decide) (fun c2 => ?_) (fun c2 => ?_)
    · replace h := h.1 c2
      exact am_sub [1, 2, 0] rfl h
    · replace h := h.2 c2
      refine am_aload_n dX4_lookAhead_45 (List.Mem.tail _ (List.Mem.head _)) ?_
      refine am_aload_n dX4_lookAhead_46 (List.Mem.tail _ (List.Mem.head _)) ?_
      refine am_getf (f := 8) (v := .inl (w.1 6 0 8)) dX4_lookAhead_47 hc_6 (by decide) wd_446 (by decide) rfl rfl ?_
      refine am_aload_n dX4_lookAhead_50 (List.Mem.head _) ?_
      exact am_callv (d' := d) (kc := 0) (ks := 0) (as := []) dX4_lookAhead_51 wc_X5_depthNow wd_1220 wd_1221 wd_1222 wd_119 ds_X5_depthNow (by decide) (Nat.le_refl _) (Nat.le_of_ble_eq_true rfl) (Nat.zero_le _) (Nat.zero_le _) hc_7 (by decide) rfl rfl h
theorem bX4_lookAhead_129 {SC : Nat → Nat} {X : mh_X} {d : Nat} {Q : Option am_V → am_W → Prop} {bc bs : Nat} {w : am_W} {x1 : Int} {xs0 : Int} {xs1 : Int}
    (h : am_M (mh_G X) SC d 0 0 mJ9_min_7cf53 [.inl xs1, .inl xs0] w (fun r w1 => am_A (mh_G X) SC (d + 1) mX4_lookAhead Q 132 [(1, .inl x1), (0, .inr (.inr (some (6, 0))))] (r.toList ++ [.inr (.inr (some (6, 0)))]) w1 bc bs)) :
    am_A (mh_G X) SC (d + 1) mX4_lookAhead Q 129 [(1, .inl x1), (0, .inr (.inr (some (6, 0))))] [.inl xs0, .inl xs1, .inr (.inr (some (6, 0)))] w bc bs := by
  exact am_calls (d' := d) (kc := 0) (ks := 0) (as := [.inl xs1, .inl xs0]) dX4_lookAhead_129 wc_J9_min_7cf53 wd_1229 wd_782 wd_128 ds_J9_min_7cf53 (by decide) (Nat.le_refl _) (Nat.le_of_ble_eq_true rfl) (Nat.zero_le _) (Nat.zero_le _) rfl h
theorem bX4_lookAhead_63 {SC : Nat → Nat} {X : mh_X} {d : Nat} {Q : Option am_V → am_W → Prop} {bc bs : Nat} {w : am_W} {x1 : Int} {j2 : Nat}
    (h : am_M (mh_G X) SC d 0 0 mX5_isOn [.inr (.inr (some (11, j2))), .inl (w.1 6 0 6)] w (fun r w1 => am_A (mh_G X) SC (d + 1) mX4_lookAhead Q 71 [(0, .inr (.inr (some (6, 0)))), (1, .inl x1), (2, .inr (.inr (some (11, j2))))] (r.toList ++ []) w1 bc bs)) :
    am_A (mh_G X) SC (d + 1) mX4_lookAhead Q 63 [(0, .inr (.inr (some (6, 0)))), (1, .inl x1), (2, .inr (.inr (some (11, j2))))] [] w bc bs := by
  refine am_aload_n dX4_lookAhead_63 (List.Mem.tail _ (List.Mem.tail _ (List.Mem.head _))) ?_
  refine am_aload_n dX4_lookAhead_64 (List.Mem.head _) ?_
  refine am_getf (f := 6) (v := .inl (w.1 6 0 6)) dX4_lookAhead_65 hc_6 (by decide) wd_444 (by decide) rfl rfl ?_
  exact am_callv (d' := d) (kc := 0) (ks := 0) (as := [.inl (w.1 6 0 6)]) dX4_lookAhead_68 wc_X5_isOn wd_1216 wd_1217 wd_1218 wd_119 ds_X5_isOn (by decide) (Nat.le_refl _) (Nat.le_of_ble_eq_true rfl) (Nat.zero_le _) (Nat.zero_le _) hc_7 (by decide) rfl rfl h
theorem bX4_lookAhead_54 {SC : Nat → Nat} {X : mh_X} {d : Nat} {Q : Option am_V → am_W → Prop} {bc bs : Nat} {w : am_W} {j2 : Nat} {x1 : Int} {xs0 : Int} {xs1 : Int}
    (h : am_M (mh_G X) SC d 0 0 mJ9_max_7cf53 [.inl xs1, .inl xs0] w (fun r w1 => am_A (mh_G X) SC (d + 1) mX4_lookAhead Q 57 [(2, .inr (.inr (some (11, j2)))), (0, .inr (.inr (some (6, 0)))), (1, .inl x1)] (r.toList ++ [.inr (.inr (some (6, 0)))]) w1 bc bs)) :
    am_A (mh_G X) SC (d + 1) mX4_lookAhead Q 54 [(2, .inr (.inr (some (11, j2)))), (0, .inr (.inr (some (6, 0)))), (1, .inl x1)] [.inl xs0, .inl xs1, .inr (.inr (some (6, 0)))] w bc bs := by
  exact am_calls (d' := d) (kc := 0) (ks := 0) (as := [.inl xs1, .inl xs0]) dX4_lookAhead_54 wc_J9_max_7cf53 wd_1191 wd_785 wd_128 ds_J9_max_7cf53 (by decide) (Nat.le_refl _) (Nat.le_of_ble_eq_true rfl) (Nat.zero_le _) (Nat.zero_le _) rfl h
theorem bX4_lookAhead_132 {SC : Nat → Nat} {X : mh_X} {d : Nat} {Q : Option am_V → am_W → Prop} {bc bs : Nat} {w : am_W} {x1 : Int} {xs0 : Int}
    (h : am_A (mh_G X) SC (d + 1) mX4_lookAhead Q 137 [(0, .inr (.inr (some (6, 0)))), (1, .inl x1), (2, .inl 0)] [] ((am_up w.1 6 0 7 xs0), w.2) bc bs) :
    am_A (mh_G X) SC (d + 1) mX4_lookAhead Q 132 [(1, .inl x1), (0, .inr (.inr (some (6, 0))))] [.inl xs0, .inr (.inr (some (6, 0)))] w bc bs := by
  refine am_putf (f := 7) dX4_lookAhead_132 hc_6 (by decide) wd_445 rfl (Or.inl rfl) (Or.inl (by decide)) rfl ?_
  refine am_iconst dX4_lookAhead_135 (by unfold am_rg; omega) ?_
  refine am_istore_n (ls' := [(2, .inl 0), (1, .inl x1), (0, .inr (.inr (some (6, 0))))]) dX4_lookAhead_136 (by decide) rfl ?_
  exact am_sub [2, 1, 0] rfl h
theorem bX4_lookAhead_71 {SC : Nat → Nat} {X : mh_X} {d : Nat} {Q : Option am_V → am_W → Prop} {bc bs : Nat} {w : am_W} {x1 : Int} {j2 : Nat} {xs0 : Int}
    (h : ((xs0 = 0 → am_A (mh_G X) SC (d + 1) mX4_lookAhead Q 89 [(0, .inr (.inr (some (6, 0)))), (1, .inl x1)] [] w bc bs) ∧ (¬ xs0 = 0 → am_M (mh_G X) SC d 0 0 mX5_depthNow [.inr (.inr (some (11, j2)))] w (fun r w1 => am_A (mh_G X) SC (d + 1) mX4_lookAhead Q 83 [(0, .inr (.inr (some (6, 0)))), (1, .inl x1), (2, .inr (.inr (some (11, j2))))] (r.toList ++ [.inl (w.1 6 0 9), .inr (.inr (some (6, 0)))]) w1 bc bs)))) :
    am_A (mh_G X) SC (d + 1) mX4_lookAhead Q 71 [(0, .inr (.inr (some (6, 0)))), (1, .inl x1), (2, .inr (.inr (some (11, j2))))] [.inl xs0] w bc bs := by
  refine am_ifeq (tgt := 89) dX4_lookAhead_71 (by decide) (fun c1 => ?_) (fun c1 => ?_)
  · replace h := h.1 c1
    exact am_sub [0, 1] rfl h
  · replace h := h.2 c1
    refine am_aload_n dX4_lookAhead_74 (List.Mem.head _) ?_
    refine am_aload_n dX4_lookAhead_75 (List.Mem.head _) ?_
    refine am_getf (f := 9) (v := .inl (w.1 6 0 9)) dX4_lookAhead_76 hc_6 (by decide) wd_447 (by decide) rfl rfl ?_
    refine am_aload_n dX4_lookAhead_79 (List.Mem.tail _ (List.Mem.tail _ (List.Mem.head _))) ?_
    exact am_callv (d' := d) (kc := 0) (ks := 0) (as := []) dX4_lookAhead_80 wc_X5_depthNow wd_1220 wd_1221 wd_1222 wd_119 ds_X5_depthNow (by decide) (Nat.le_refl _) (Nat.le_of_ble_eq_true rfl) (Nat.zero_le _) (Nat.zero_le _) hc_7 (by decide) rfl rfl h
theorem bX4_lookAhead_57 {SC : Nat → Nat} {X : mh_X} {d : Nat} {Q : Option am_V → am_W → Prop} {bc bs : Nat} {w : am_W} {j2 : Nat} {x1 : Int} {xs0 : Int}
    (h : am_A (mh_G X) SC (d + 1) mX4_lookAhead Q 89 [(0, .inr (.inr (some (6, 0)))), (1, .inl x1)] [] ((am_up w.1 6 0 8 xs0), w.2) bc bs) :
    am_A (mh_G X) SC (d + 1) mX4_lookAhead Q 57 [(2, .inr (.inr (some (11, j2)))), (0, .inr (.inr (some (6, 0)))), (1, .inl x1)] [.inl xs0, .inr (.inr (some (6, 0)))] w bc bs := by
  refine am_putf (f := 8) dX4_lookAhead_57 hc_6 (by decide) wd_446 rfl (Or.inl rfl) (Or.inl (by decide)) rfl ?_
  refine am_goto (tgt := 89) dX4_lookAhead_60 (by decide) ?_
  exact am_sub [1, 2] rfl h
theorem bX4_lookAhead_137 {SC : Nat → Nat} {X : mh_X} {d : Nat} {Q : Option am_V → am_W → Prop} {bc bs : Nat} {w : am_W} {x1 : Int} {x2 : Int}
    (h : (((w.1 6 0 3) ≤ x2 → Q none w) ∧ (¬ (w.1 6 0 3) ≤ x2 → (0 ≤ x2 ∧ (x2 < 40 ∧ (((w.1 11 x2.toNat 4) ≤ (w.1 6 0 6) → ((¬ (w.1 11 x2.toNat 7) = 0 → am_A (mh_G X) SC (d + 1) mX4_lookAhead Q 216 [(0, .inr (.inr (some (6, 0)))), (1, .inl x1), (2, .inl x2)] [] w bc bs) ∧ ((w.1 11 x2.toNat 7) = 0 → am_M (mh_G X) SC d 0 0 mX5_goesOn [.inr (.inr (some (11, x2.toNat))), .inl x1] w (fun r w1 => am_A (mh_G X) SC (d + 1) mX4_lookAhead Q 193 [(3, .inr (.inr (some (11, x2.toNat)))), (0, .inr (.inr (some (6, 0)))), (1, .inl x1), (2, .inl x2)] (r.toList ++ []) w1 bc bs)))) ∧ (¬ (w.1 11 x2.toNat 4) ≤ (w.1 6 0 6) → am_M (mh_G X) SC d 0 0 mJ9_min_7cf53 [.inl (w.1 6 0 7), .inl (w.1 11 x2.toNat 4)] w (fun r w1 => am_A (mh_G X) SC (d + 1) mX4_lookAhead Q 175 [(3, .inr (.inr (some (11, x2.toNat)))), (0, .inr (.inr (some (6, 0)))), (1, .inl x1), (2, .inl x2)] (r.toList ++ [.inr (.inr (some (6, 0)))]) w1 bc bs)))))))) :
    am_A (mh_G X) SC (d + 1) mX4_lookAhead Q 137 [(0, .inr (.inr (some (6, 0)))), (1, .inl x1), (2, .inl x2)] [] w bc bs := by
  refine am_iload_n dX4_lookAhead_137 (List.Mem.tail _ (List.Mem.tail _ (List.Mem.head _))) ?_
  refine am_aload_n dX4_lookAhead_138 (List.Mem.head _) ?_
  refine am_getf (f := 3) (v := .inl (w.1 6 0 3)) dX4_lookAhead_139 hc_6 (by decide) wd_441 (by decide) rfl rfl ?_
  refine am_icmpge (tgt := 222) dX4_lookAhead_142 (by decide) (fun c1 => ?_) (fun c1 => ?_)
  · replace h := h.1 c1
    exact am_ret (r := none) dX4_lookAhead_222 rfl rfl h
  · replace h := h.2 c1
    refine am_aload_n dX4_lookAhead_145 (List.Mem.head _) ?_
    refine am_getf (f := 2) (v := .inr (.inr (some (49, 0)))) dX4_lookAhead_146 hc_6 (by decide) wd_440 (by decide) rfl rfl ?_
    refine am_iload_n dX4_lookAhead_149 (List.Mem.tail _ (List.Mem.tail _ (List.Mem.head _))) ?_
    have o2 := h.1
    replace h := h.2
    have o3 := h.1
    replace h := h.2
    refine am_aaload (kd := 8) (r := some (11, x2.toNat)) dX4_lookAhead_150 (by decide) rfl (by decide) (by decide) o2 o3 rfl ?_
    refine am_astore_n (ls' := [(3, .inr (.inr (some (11, x2.toNat)))), (0, .inr (.inr (some (6, 0)))), (1, .inl x1), (2, .inl x2)]) dX4_lookAhead_151 (by decide) rfl ?_
    refine am_aload_n dX4_lookAhead_152 (List.Mem.head _) ?_
    refine am_getf (f := 4) (v := .inl (w.1 11 x2.toNat 4)) dX4_lookAhead_153 hc_7 (by decide) wd_405 (by decide) rfl rfl ?_
    refine am_aload_n dX4_lookAhead_156 (List.Mem.tail _ (List.Mem.head _)) ?_
    refine am_getf (f := 6) (v := .inl (w.1 6 0 6)) dX4_lookAhead_157 hc_6 (by decide) wd_444 (by decide) rfl rfl ?_
    refine am_icmple (tgt := 181) dX4_lookAhead_160 (by decide) (fun c4 => ?_) (fun c4 => ?_)
    · replace h := h.1 c4
      refine am_aload_n dX4_lookAhead_181 (List.Mem.head _) ?_
      refine am_getf (f := 7) (v := .inl (w.1 11 x2.toNat 7)) dX4_lookAhead_182 hc_7 (by decide) wd_410 (by decide) rfl rfl ?_
      refine am_ifne (tgt := 216) dX4_lookAhead_185 (by decide) (fun c5 => ?_) (fun c5 => ?_)
      · replace h := h.1 c5
        exact am_sub [1, 2, 3] rfl h
      · replace h := h.2 c5
        refine am_aload_n dX4_lookAhead_188 (List.Mem.head _) ?_
        refine am_iload_n dX4_lookAhead_189 (List.Mem.tail _ (List.Mem.tail _ (List.Mem.head _))) ?_
        exact am_callv (d' := d) (kc := 0) (ks := 0) (as := [.inl x1]) dX4_lookAhead_190 wc_X5_goesOn wd_1230 wd_1231 wd_1232 wd_119 ds_X5_goesOn (by decide) (Nat.le_refl _) (Nat.le_of_ble_eq_true rfl) (Nat.zero_le _) (Nat.zero_le _) hc_7 (by decide) rfl rfl h
    · replace h := h.2 c4
      refine am_aload_n dX4_lookAhead_163 (List.Mem.tail _ (List.Mem.head _)) ?_
      refine am_aload_n dX4_lookAhead_164 (List.Mem.tail _ (List.Mem.head _)) ?_
      refine am_getf (f := 7) (v := .inl (w.1 6 0 7)) dX4_lookAhead_165 hc_6 (by decide) wd_445 (by decide) rfl rfl ?_
      refine am_aload_n dX4_lookAhead_168 (List.Mem.head _) ?_
      refine am_getf (f := 4) (v := .inl (w.1 11 x2.toNat 4)) dX4_lookAhead_169 hc_7 (by decide) wd_405 (by decide) rfl rfl ?_
      exact am_calls (d' := d) (kc := 0) (ks := 0) (as := [.inl (w.1 6 0 7), .inl (w.1 11 x2.toNat 4)]) dX4_lookAhead_172 wc_J9_min_7cf53 wd_1229 wd_782 wd_128 ds_J9_min_7cf53 (by decide) (Nat.le_refl _) (Nat.le_of_ble_eq_true rfl) (Nat.zero_le _) (Nat.zero_le _) rfl h
theorem bX4_lookAhead_89 {SC : Nat → Nat} {X : mh_X} {d : Nat} {Q : Option am_V → am_W → Prop} {bc bs : Nat} {w : am_W} {x1 : Int}
    (h : am_A (mh_G X) SC (d + 1) mX4_lookAhead Q 12 [(0, .inr (.inr (some (6, 0)))), (1, .inl (am_w (x1 + 1)))] [] w bc bs) :
    am_A (mh_G X) SC (d + 1) mX4_lookAhead Q 89 [(0, .inr (.inr (some (6, 0)))), (1, .inl x1)] [] w bc bs := by
  refine am_iinc (ls' := [(1, .inl (am_w (x1 + 1))), (0, .inr (.inr (some (6, 0))))]) dX4_lookAhead_89 (List.Mem.tail _ (List.Mem.head _)) (by decide) rfl ?_
  refine am_goto (tgt := 12) dX4_lookAhead_92 (by decide) ?_
  exact am_sub [1, 0] rfl h
theorem bX4_lookAhead_83 {SC : Nat → Nat} {X : mh_X} {d : Nat} {Q : Option am_V → am_W → Prop} {bc bs : Nat} {w : am_W} {x1 : Int} {j2 : Nat} {xs0 : Int} {xs1 : Int}
    (h : am_M (mh_G X) SC d 0 0 mJ9_max_7cf53 [.inl xs1, .inl xs0] w (fun r w1 => am_A (mh_G X) SC (d + 1) mX4_lookAhead Q 86 [(0, .inr (.inr (some (6, 0)))), (1, .inl x1), (2, .inr (.inr (some (11, j2))))] (r.toList ++ [.inr (.inr (some (6, 0)))]) w1 bc bs)) :
    am_A (mh_G X) SC (d + 1) mX4_lookAhead Q 83 [(0, .inr (.inr (some (6, 0)))), (1, .inl x1), (2, .inr (.inr (some (11, j2))))] [.inl xs0, .inl xs1, .inr (.inr (some (6, 0)))] w bc bs := by
  exact am_calls (d' := d) (kc := 0) (ks := 0) (as := [.inl xs1, .inl xs0]) dX4_lookAhead_83 wc_J9_max_7cf53 wd_1191 wd_785 wd_128 ds_J9_max_7cf53 (by decide) (Nat.le_refl _) (Nat.le_of_ble_eq_true rfl) (Nat.zero_le _) (Nat.zero_le _) rfl h
theorem bX4_lookAhead_216 {SC : Nat → Nat} {X : mh_X} {d : Nat} {Q : Option am_V → am_W → Prop} {bc bs : Nat} {w : am_W} {x1 : Int} {x2 : Int}
    (h : am_A (mh_G X) SC (d + 1) mX4_lookAhead Q 137 [(0, .inr (.inr (some (6, 0)))), (1, .inl x1), (2, .inl (am_w (x2 + 1)))] [] w bc bs) :
    am_A (mh_G X) SC (d + 1) mX4_lookAhead Q 216 [(0, .inr (.inr (some (6, 0)))), (1, .inl x1), (2, .inl x2)] [] w bc bs := by
  refine am_iinc (ls' := [(2, .inl (am_w (x2 + 1))), (0, .inr (.inr (some (6, 0)))), (1, .inl x1)]) dX4_lookAhead_216 (List.Mem.tail _ (List.Mem.tail _ (List.Mem.head _))) (by decide) rfl ?_
  refine am_goto (tgt := 137) dX4_lookAhead_219 (by decide) ?_
  exact am_sub [1, 2, 0] rfl h
theorem bX4_lookAhead_193 {SC : Nat → Nat} {X : mh_X} {d : Nat} {Q : Option am_V → am_W → Prop} {bc bs : Nat} {w : am_W} {j3 : Nat} {x1 : Int} {x2 : Int} {xs0 : Int}
    (h : ((xs0 = 0 → am_A (mh_G X) SC (d + 1) mX4_lookAhead Q 216 [(0, .inr (.inr (some (6, 0)))), (1, .inl x1), (2, .inl x2)] [] w bc bs) ∧ (¬ xs0 = 0 → am_M (mh_G X) SC d 0 0 mX5_leftInPart [.inr (.inr (some (11, j3)))] w (fun r w1 => am_A (mh_G X) SC (d + 1) mX4_lookAhead Q 209 [(3, .inr (.inr (some (11, j3)))), (0, .inr (.inr (some (6, 0)))), (1, .inl x1), (2, .inl x2)] (r.toList ++ [.inl (w.1 6 0 6), .inl (w.1 6 0 7), .inr (.inr (some (6, 0)))]) w1 bc bs)))) :
    am_A (mh_G X) SC (d + 1) mX4_lookAhead Q 193 [(3, .inr (.inr (some (11, j3)))), (0, .inr (.inr (some (6, 0)))), (1, .inl x1), (2, .inl x2)] [.inl xs0] w bc bs := by
  refine am_ifeq (tgt := 216) dX4_lookAhead_193 (by decide) (fun c1 => ?_) (fun c1 => ?_)
  · replace h := h.1 c1
    exact am_sub [1, 2, 3] rfl h
  · replace h := h.2 c1
    refine am_aload_n dX4_lookAhead_196 (List.Mem.tail _ (List.Mem.head _)) ?_
    refine am_aload_n dX4_lookAhead_197 (List.Mem.tail _ (List.Mem.head _)) ?_
    refine am_getf (f := 7) (v := .inl (w.1 6 0 7)) dX4_lookAhead_198 hc_6 (by decide) wd_445 (by decide) rfl rfl ?_
    refine am_aload_n dX4_lookAhead_201 (List.Mem.tail _ (List.Mem.head _)) ?_
    refine am_getf (f := 6) (v := .inl (w.1 6 0 6)) dX4_lookAhead_202 hc_6 (by decide) wd_444 (by decide) rfl rfl ?_
    refine am_aload_n dX4_lookAhead_205 (List.Mem.head _) ?_
    exact am_callv (d' := d) (kc := 0) (ks := 0) (as := []) dX4_lookAhead_206 wc_X5_leftInPart wd_1234 wd_1235 wd_1236 wd_119 ds_X5_leftInPart (by decide) (Nat.le_refl _) (Nat.le_of_ble_eq_true rfl) (Nat.zero_le _) (Nat.zero_le _) hc_7 (by decide) rfl rfl h
theorem bX4_lookAhead_175 {SC : Nat → Nat} {X : mh_X} {d : Nat} {Q : Option am_V → am_W → Prop} {bc bs : Nat} {w : am_W} {j3 : Nat} {x1 : Int} {x2 : Int} {xs0 : Int}
    (h : am_A (mh_G X) SC (d + 1) mX4_lookAhead Q 216 [(0, .inr (.inr (some (6, 0)))), (1, .inl x1), (2, .inl x2)] [] ((am_up w.1 6 0 7 xs0), w.2) bc bs) :
    am_A (mh_G X) SC (d + 1) mX4_lookAhead Q 175 [(3, .inr (.inr (some (11, j3)))), (0, .inr (.inr (some (6, 0)))), (1, .inl x1), (2, .inl x2)] [.inl xs0, .inr (.inr (some (6, 0)))] w bc bs := by
  refine am_putf (f := 7) dX4_lookAhead_175 hc_6 (by decide) wd_445 rfl (Or.inl rfl) (Or.inl (by decide)) rfl ?_
  refine am_goto (tgt := 216) dX4_lookAhead_178 (by decide) ?_
  exact am_sub [1, 2, 3] rfl h
theorem bX4_lookAhead_86 {SC : Nat → Nat} {X : mh_X} {d : Nat} {Q : Option am_V → am_W → Prop} {bc bs : Nat} {w : am_W} {x1 : Int} {j2 : Nat} {xs0 : Int}
    (h : am_A (mh_G X) SC (d + 1) mX4_lookAhead Q 89 [(0, .inr (.inr (some (6, 0)))), (1, .inl x1)] [] ((am_up w.1 6 0 9 xs0), w.2) bc bs) :
    am_A (mh_G X) SC (d + 1) mX4_lookAhead Q 86 [(0, .inr (.inr (some (6, 0)))), (1, .inl x1), (2, .inr (.inr (some (11, j2))))] [.inl xs0, .inr (.inr (some (6, 0)))] w bc bs := by
  refine am_putf (f := 9) dX4_lookAhead_86 hc_6 (by decide) wd_447 rfl (Or.inl rfl) (Or.inl (by decide)) rfl ?_
  exact am_sub [0, 1] rfl h
theorem bX4_lookAhead_209 {SC : Nat → Nat} {X : mh_X} {d : Nat} {Q : Option am_V → am_W → Prop} {bc bs : Nat} {w : am_W} {j3 : Nat} {x1 : Int} {x2 : Int} {xs0 : Int} {xs1 : Int} {xs2 : Int}
    (h : am_M (mh_G X) SC d 0 0 mJ9_min_7cf53 [.inl xs2, .inl (am_w (xs1 + xs0))] w (fun r w1 => am_A (mh_G X) SC (d + 1) mX4_lookAhead Q 213 [(3, .inr (.inr (some (11, j3)))), (0, .inr (.inr (some (6, 0)))), (1, .inl x1), (2, .inl x2)] (r.toList ++ [.inr (.inr (some (6, 0)))]) w1 bc bs)) :
    am_A (mh_G X) SC (d + 1) mX4_lookAhead Q 209 [(3, .inr (.inr (some (11, j3)))), (0, .inr (.inr (some (6, 0)))), (1, .inl x1), (2, .inl x2)] [.inl xs0, .inl xs1, .inl xs2, .inr (.inr (some (6, 0)))] w bc bs := by
  refine am_iadd dX4_lookAhead_209 ?_
  exact am_calls (d' := d) (kc := 0) (ks := 0) (as := [.inl xs2, .inl (am_w (xs1 + xs0))]) dX4_lookAhead_210 wc_J9_min_7cf53 wd_1229 wd_782 wd_128 ds_J9_min_7cf53 (by decide) (Nat.le_refl _) (Nat.le_of_ble_eq_true rfl) (Nat.zero_le _) (Nat.zero_le _) rfl h
theorem bX4_lookAhead_213 {SC : Nat → Nat} {X : mh_X} {d : Nat} {Q : Option am_V → am_W → Prop} {bc bs : Nat} {w : am_W} {j3 : Nat} {x1 : Int} {x2 : Int} {xs0 : Int}
    (h : am_A (mh_G X) SC (d + 1) mX4_lookAhead Q 216 [(0, .inr (.inr (some (6, 0)))), (1, .inl x1), (2, .inl x2)] [] ((am_up w.1 6 0 7 xs0), w.2) bc bs) :
    am_A (mh_G X) SC (d + 1) mX4_lookAhead Q 213 [(3, .inr (.inr (some (11, j3)))), (0, .inr (.inr (some (6, 0)))), (1, .inl x1), (2, .inl x2)] [.inl xs0, .inr (.inr (some (6, 0)))] w bc bs := by
  refine am_putf (f := 7) dX4_lookAhead_213 hc_6 (by decide) wd_445 rfl (Or.inl rfl) (Or.inl (by decide)) rfl ?_
  exact am_sub [1, 2, 3] rfl h
-- MourningHouse$Mourner.depthOn(I)I
theorem dX4_depthOn_0 : decode mX4_depthOn.2.1 0 = .ok (.aload_n 0, 1) := by decide +kernel
theorem dX4_depthOn_1 : decode mX4_depthOn.2.1 1 = .ok (.getfield 41, 3) := by decide +kernel
theorem dX4_depthOn_4 : decode mX4_depthOn.2.1 4 = .ok (.getfield 56, 3) := by decide +kernel
theorem dX4_depthOn_7 : decode mX4_depthOn.2.1 7 = .ok (.aload_n 0, 1) := by decide +kernel
theorem dX4_depthOn_8 : decode mX4_depthOn.2.1 8 = .ok (.getfield 23, 3) := by decide +kernel
theorem dX4_depthOn_11 : decode mX4_depthOn.2.1 11 = .ok (.iaload, 1) := by decide +kernel
theorem dX4_depthOn_12 : decode mX4_depthOn.2.1 12 = .ok (.aload_n 0, 1) := by decide +kernel
theorem dX4_depthOn_13 : decode mX4_depthOn.2.1 13 = .ok (.getfield 26, 3) := by decide +kernel
theorem dX4_depthOn_16 : decode mX4_depthOn.2.1 16 = .ok (.if_icmp .gt 23, 3) := by decide +kernel
theorem dX4_depthOn_19 : decode mX4_depthOn.2.1 19 = .ok (.iload_n 1, 1) := by decide +kernel
theorem dX4_depthOn_20 : decode mX4_depthOn.2.1 20 = .ok (.aload_n 0, 1) := by decide +kernel
theorem dX4_depthOn_21 : decode mX4_depthOn.2.1 21 = .ok (.getfield 41, 3) := by decide +kernel
theorem dX4_depthOn_24 : decode mX4_depthOn.2.1 24 = .ok (.getfield 59, 3) := by decide +kernel
theorem dX4_depthOn_27 : decode mX4_depthOn.2.1 27 = .ok (.aload_n 0, 1) := by decide +kernel
theorem dX4_depthOn_28 : decode mX4_depthOn.2.1 28 = .ok (.getfield 23, 3) := by decide +kernel
theorem dX4_depthOn_31 : decode mX4_depthOn.2.1 31 = .ok (.iaload, 1) := by decide +kernel
theorem dX4_depthOn_32 : decode mX4_depthOn.2.1 32 = .ok (.if_icmp .le 7, 3) := by decide +kernel
theorem dX4_depthOn_35 : decode mX4_depthOn.2.1 35 = .ok (.iconst 1, 1) := by decide +kernel
theorem dX4_depthOn_36 : decode mX4_depthOn.2.1 36 = .ok (.goto 4, 3) := by decide +kernel
theorem dX4_depthOn_39 : decode mX4_depthOn.2.1 39 = .ok (.iconst 0, 1) := by decide +kernel
theorem dX4_depthOn_40 : decode mX4_depthOn.2.1 40 = .ok (.istore_n 2, 1) := by decide +kernel
theorem dX4_depthOn_41 : decode mX4_depthOn.2.1 41 = .ok (.aload_n 0, 1) := by decide +kernel
theorem dX4_depthOn_42 : decode mX4_depthOn.2.1 42 = .ok (.getfield 41, 3) := by decide +kernel
theorem dX4_depthOn_45 : decode mX4_depthOn.2.1 45 = .ok (.getfield 50, 3) := by decide +kernel
theorem dX4_depthOn_48 : decode mX4_depthOn.2.1 48 = .ok (.aload_n 0, 1) := by decide +kernel
theorem dX4_depthOn_49 : decode mX4_depthOn.2.1 49 = .ok (.getfield 23, 3) := by decide +kernel
theorem dX4_depthOn_52 : decode mX4_depthOn.2.1 52 = .ok (.iaload, 1) := by decide +kernel
theorem dX4_depthOn_53 : decode mX4_depthOn.2.1 53 = .ok (.aload_n 0, 1) := by decide +kernel
theorem dX4_depthOn_54 : decode mX4_depthOn.2.1 54 = .ok (.getfield 26, 3) := by decide +kernel
theorem dX4_depthOn_57 : decode mX4_depthOn.2.1 57 = .ok (.if_icmp .gt 23, 3) := by decide +kernel
theorem dX4_depthOn_60 : decode mX4_depthOn.2.1 60 = .ok (.iload_n 1, 1) := by decide +kernel
theorem dX4_depthOn_61 : decode mX4_depthOn.2.1 61 = .ok (.aload_n 0, 1) := by decide +kernel
theorem dX4_depthOn_62 : decode mX4_depthOn.2.1 62 = .ok (.getfield 41, 3) := by decide +kernel
theorem dX4_depthOn_65 : decode mX4_depthOn.2.1 65 = .ok (.getfield 107, 3) := by decide +kernel
theorem dX4_depthOn_68 : decode mX4_depthOn.2.1 68 = .ok (.aload_n 0, 1) := by decide +kernel
theorem dX4_depthOn_69 : decode mX4_depthOn.2.1 69 = .ok (.getfield 23, 3) := by decide +kernel
theorem dX4_depthOn_72 : decode mX4_depthOn.2.1 72 = .ok (.iaload, 1) := by decide +kernel
theorem dX4_depthOn_73 : decode mX4_depthOn.2.1 73 = .ok (.if_icmp .lt 7, 3) := by decide +kernel
theorem dX4_depthOn_76 : decode mX4_depthOn.2.1 76 = .ok (.iload_n 2, 1) := by decide +kernel
theorem dX4_depthOn_77 : decode mX4_depthOn.2.1 77 = .ok (.ifCond .eq 5, 3) := by decide +kernel
theorem dX4_depthOn_80 : decode mX4_depthOn.2.1 80 = .ok (.iconst (-1), 1) := by decide +kernel
theorem dX4_depthOn_81 : decode mX4_depthOn.2.1 81 = .ok (.ireturn, 1) := by decide +kernel
theorem dX4_depthOn_82 : decode mX4_depthOn.2.1 82 = .ok (.aload_n 0, 1) := by decide +kernel
theorem dX4_depthOn_83 : decode mX4_depthOn.2.1 83 = .ok (.iload_n 1, 1) := by decide +kernel
theorem dX4_depthOn_84 : decode mX4_depthOn.2.1 84 = .ok (.invokevirtual 167, 3) := by decide +kernel
theorem dX4_depthOn_87 : decode mX4_depthOn.2.1 87 = .ok (.aload_n 0, 1) := by decide +kernel
theorem dX4_depthOn_88 : decode mX4_depthOn.2.1 88 = .ok (.getfield 45, 3) := by decide +kernel
theorem dX4_depthOn_91 : decode mX4_depthOn.2.1 91 = .ok (.iload_n 1, 1) := by decide +kernel
theorem dX4_depthOn_92 : decode mX4_depthOn.2.1 92 = .ok (.aload_n 0, 1) := by decide +kernel
theorem dX4_depthOn_93 : decode mX4_depthOn.2.1 93 = .ok (.getfield 26, 3) := by decide +kernel
theorem dX4_depthOn_96 : decode mX4_depthOn.2.1 96 = .ok (.invokevirtual 62, 3) := by decide +kernel
theorem dX4_depthOn_99 : decode mX4_depthOn.2.1 99 = .ok (.astore_n 3, 1) := by decide +kernel
theorem dX4_depthOn_100 : decode mX4_depthOn.2.1 100 = .ok (.aload_n 0, 1) := by decide +kernel
theorem dX4_depthOn_101 : decode mX4_depthOn.2.1 101 = .ok (.getfield 35, 3) := by decide +kernel
theorem dX4_depthOn_104 : decode mX4_depthOn.2.1 104 = .ok (.aload_n 0, 1) := by decide +kernel
theorem dX4_depthOn_105 : decode mX4_depthOn.2.1 105 = .ok (.aload_n 3, 1) := by decide +kernel
theorem dX4_depthOn_106 : decode mX4_depthOn.2.1 106 = .ok (.iload_n 1, 1) := by decide +kernel
theorem dX4_depthOn_107 : decode mX4_depthOn.2.1 107 = .ok (.invokevirtual 170, 3) := by decide +kernel
theorem dX4_depthOn_110 : decode mX4_depthOn.2.1 110 = .ok (.invokestatic 110, 3) := by decide +kernel
theorem dX4_depthOn_113 : decode mX4_depthOn.2.1 113 = .ok (.istore 4, 2) := by decide +kernel
theorem dX4_depthOn_115 : decode mX4_depthOn.2.1 115 = .ok (.iload 4, 2) := by decide +kernel
theorem dX4_depthOn_117 : decode mX4_depthOn.2.1 117 = .ok (.aload_n 0, 1) := by decide +kernel
theorem dX4_depthOn_118 : decode mX4_depthOn.2.1 118 = .ok (.getfield 45, 3) := by decide +kernel
theorem dX4_depthOn_121 : decode mX4_depthOn.2.1 121 = .ok (.iload_n 1, 1) := by decide +kernel
theorem dX4_depthOn_122 : decode mX4_depthOn.2.1 122 = .ok (.aload_n 0, 1) := by decide +kernel
theorem dX4_depthOn_123 : decode mX4_depthOn.2.1 123 = .ok (.getfield 26, 3) := by decide +kernel
theorem dX4_depthOn_126 : decode mX4_depthOn.2.1 126 = .ok (.invokevirtual 174, 3) := by decide +kernel
theorem dX4_depthOn_129 : decode mX4_depthOn.2.1 129 = .ok (.invokestatic 110, 3) := by decide +kernel
theorem dX4_depthOn_132 : decode mX4_depthOn.2.1 132 = .ok (.istore 4, 2) := by decide +kernel
theorem dX4_depthOn_134 : decode mX4_depthOn.2.1 134 = .ok (.iload 4, 2) := by decide +kernel
theorem dX4_depthOn_136 : decode mX4_depthOn.2.1 136 = .ok (.ifCond .le 24, 3) := by decide +kernel
theorem dX4_depthOn_139 : decode mX4_depthOn.2.1 139 = .ok (.aload_n 0, 1) := by decide +kernel
theorem dX4_depthOn_140 : decode mX4_depthOn.2.1 140 = .ok (.aload_n 3, 1) := by decide +kernel
theorem dX4_depthOn_141 : decode mX4_depthOn.2.1 141 = .ok (.iload_n 1, 1) := by decide +kernel
theorem dX4_depthOn_142 : decode mX4_depthOn.2.1 142 = .ok (.invokevirtual 177, 3) := by decide +kernel
theorem dX4_depthOn_145 : decode mX4_depthOn.2.1 145 = .ok (.ifCond .eq 15, 3) := by decide +kernel
theorem dX4_depthOn_148 : decode mX4_depthOn.2.1 148 = .ok (.iload 4, 2) := by decide +kernel
theorem dX4_depthOn_150 : decode mX4_depthOn.2.1 150 = .ok (.aload_n 3, 1) := by decide +kernel
theorem dX4_depthOn_151 : decode mX4_depthOn.2.1 151 = .ok (.getfield 181, 3) := by decide +kernel
theorem dX4_depthOn_154 : decode mX4_depthOn.2.1 154 = .ok (.invokestatic 155, 3) := by decide +kernel
theorem dX4_depthOn_157 : decode mX4_depthOn.2.1 157 = .ok (.goto 5, 3) := by decide +kernel
theorem dX4_depthOn_160 : decode mX4_depthOn.2.1 160 = .ok (.iload 4, 2) := by decide +kernel
theorem dX4_depthOn_162 : decode mX4_depthOn.2.1 162 = .ok (.ireturn, 1) := by decide +kernel
theorem bX4_depthOn_0 {SC : Nat → Nat} {X : mh_X} {d : Nat} {Q : Option am_V → am_W → Prop} {bc bs : Nat} {w : am_W} {x1 : Int}
    (h : (0 ≤ (w.1 6 0 4) ∧ ((w.1 6 0 4) < 40 ∧ (((w.1 6 0 5) < (w.1 40 0 (w.1 6 0 4).toNat) → am_A (mh_G X) SC (d + 1) mX4_depthOn Q 39 [(0, .inr (.inr (some (6, 0)))), (1, .inl x1)] [] w bc bs) ∧ (¬ (w.1 6 0 5) < (w.1 40 0 (w.1 6 0 4).toNat) → ((x1 ≤ (w.1 39 0 (w.1 6 0 4).toNat) → am_A (mh_G X) SC (d + 1) mX4_depthOn Q 39 [(0, .inr (.inr (some (6, 0)))), (1, .inl x1)] [] w bc bs) ∧ (¬ x1 ≤ (w.1 39 0 (w.1 6 0 4).toNat) → am_A (mh_G X) SC (d + 1) mX4_depthOn Q 40 [(0, .inr (.inr (some (6, 0)))), (1, .inl x1)] [.inl 1] w bc bs))))))) :
    am_A (mh_G X) SC (d + 1) mX4_depthOn Q 0 [(0, .inr (.inr (some (6, 0)))), (1, .inl x1)] [] w bc bs := by
  refine am_aload_n dX4_depthOn_0 (List.Mem.head _) ?_
  refine am_getf (f := 0) (v := .inr (.inr (some (5, 0)))) dX4_depthOn_1 hc_6 (by decide) wd_438 (by decide) rfl rfl ?_
  refine am_getf (f := 7) (v := .inr (.inr (some (40, 0)))) dX4_depthOn_4 hc_5 (by decide) wd_328 (by decide) rfl rfl ?_
  refine am_aload_n dX4_depthOn_7 (List.Mem.head _) ?_
  refine am_getf (f := 4) (v := .inl (w.1 6 0 4)) dX4_depthOn_8 hc_6 (by decide) wd_442 (by decide) rfl rfl ?_
  have o1 := h.1
  replace h := h.2
  have o2 := h.1
  replace h := h.2
  refine am_iaload (v := (w.1 40 0 (w.1 6 0 4).toNat)) dX4_depthOn_11 (by decide) rfl o1 o2 rfl ?_
  refine am_aload_n dX4_depthOn_12 (List.Mem.head _) ?_
  refine am_getf (f := 5) (v := .inl (w.1 6 0 5)) dX4_depthOn_13 hc_6 (by decide) wd_443 (by decide) rfl rfl ?_
  refine am_icmpgt (tgt := 39) dX4_depthOn_16 (by decide) (fun c3 => ?_) (fun c3 => ?_)
  · replace h := h.1 c3
    exact h
  · replace h := h.2 c3
    refine am_iload_n dX4_depthOn_19 (List.Mem.tail _ (List.Mem.head _)) ?_
    refine am_aload_n dX4_depthOn_20 (List.Mem.head _) ?_
    refine am_getf (f := 0) (v := .inr (.inr (some (5, 0)))) dX4_depthOn_21 hc_6 (by decide) wd_438 (by decide) rfl rfl ?_
    refine am_getf (f := 6) (v := .inr (.inr (some (39, 0)))) dX4_depthOn_24 hc_5 (by decide) wd_326 (by decide) rfl rfl ?_
    refine am_aload_n dX4_depthOn_27 (List.Mem.head _) ?_
    refine am_getf (f := 4) (v := .inl (w.1 6 0 4)) dX4_depthOn_28 hc_6 (by decide) wd_442 (by decide) rfl rfl ?_
    refine am_iaload (v := (w.1 39 0 (w.1 6 0 4).toNat)) dX4_depthOn_31 (by decide) rfl o1 o2 rfl ?_
    refine am_icmple (tgt := 39) dX4_depthOn_32 (by decide) (fun c4 => ?_) (fun c4 => ?_)
    · replace h := h.1 c4
      exact h
    · replace h := h.2 c4
      refine am_iconst dX4_depthOn_35 (by unfold am_rg; omega) ?_
      refine am_goto (tgt := 40) dX4_depthOn_36 (by decide) ?_
      exact h
theorem bX4_depthOn_39 {SC : Nat → Nat} {X : mh_X} {d : Nat} {Q : Option am_V → am_W → Prop} {bc bs : Nat} {w : am_W} {x1 : Int}
    (h : am_A (mh_G X) SC (d + 1) mX4_depthOn Q 40 [(0, .inr (.inr (some (6, 0)))), (1, .inl x1)] [.inl 0] w bc bs) :
    am_A (mh_G X) SC (d + 1) mX4_depthOn Q 39 [(0, .inr (.inr (some (6, 0)))), (1, .inl x1)] [] w bc bs := by
  refine am_iconst dX4_depthOn_39 (by unfold am_rg; omega) ?_
  exact h
theorem bX4_depthOn_40 {SC : Nat → Nat} {X : mh_X} {d : Nat} {Q : Option am_V → am_W → Prop} {bc bs : Nat} {w : am_W} {x1 : Int} {xs0 : Int}
    (h : (0 ≤ (w.1 6 0 4) ∧ ((w.1 6 0 4) < 40 ∧ (((w.1 6 0 5) < (w.1 38 0 (w.1 6 0 4).toNat) → Q (some (.inl (-1))) w) ∧ (¬ (w.1 6 0 5) < (w.1 38 0 (w.1 6 0 4).toNat) → ((x1 < (w.1 37 0 (w.1 6 0 4).toNat) → Q (some (.inl (-1))) w) ∧ (¬ x1 < (w.1 37 0 (w.1 6 0 4).toNat) → ((xs0 = 0 → am_M (mh_G X) SC d 0 0 mX4_moveTo [.inr (.inr (some (6, 0))), .inl x1] w (fun r w1 => am_A (mh_G X) SC (d + 1) mX4_depthOn Q 87 [(2, .inl xs0), (0, .inr (.inr (some (6, 0)))), (1, .inl x1)] (r.toList ++ []) w1 bc bs)) ∧ (¬ xs0 = 0 → Q (some (.inl (-1))) w))))))))) :
    am_A (mh_G X) SC (d + 1) mX4_depthOn Q 40 [(0, .inr (.inr (some (6, 0)))), (1, .inl x1)] [.inl xs0] w bc bs := by
  refine am_istore_n (ls' := [(2, .inl xs0), (0, .inr (.inr (some (6, 0)))), (1, .inl x1)]) dX4_depthOn_40 (by decide) rfl ?_
  refine am_aload_n dX4_depthOn_41 (List.Mem.tail _ (List.Mem.head _)) ?_
  refine am_getf (f := 0) (v := .inr (.inr (some (5, 0)))) dX4_depthOn_42 hc_6 (by decide) wd_438 (by decide) rfl rfl ?_
  refine am_getf (f := 5) (v := .inr (.inr (some (38, 0)))) dX4_depthOn_45 hc_5 (by decide) wd_324 (by decide) rfl rfl ?_
  refine am_aload_n dX4_depthOn_48 (List.Mem.tail _ (List.Mem.head _)) ?_
  refine am_getf (f := 4) (v := .inl (w.1 6 0 4)) dX4_depthOn_49 hc_6 (by decide) wd_442 (by decide) rfl rfl ?_
  have o1 := h.1
  replace h := h.2
  have o2 := h.1
  replace h := h.2
  refine am_iaload (v := (w.1 38 0 (w.1 6 0 4).toNat)) dX4_depthOn_52 (by decide) rfl o1 o2 rfl ?_
  refine am_aload_n dX4_depthOn_53 (List.Mem.tail _ (List.Mem.head _)) ?_
  refine am_getf (f := 5) (v := .inl (w.1 6 0 5)) dX4_depthOn_54 hc_6 (by decide) wd_443 (by decide) rfl rfl ?_
  refine am_icmpgt (tgt := 80) dX4_depthOn_57 (by decide) (fun c3 => ?_) (fun c3 => ?_)
  · replace h := h.1 c3
    refine am_iconst dX4_depthOn_80 (by unfold am_rg; omega) ?_
    exact am_ret (r := some (.inl (-1))) dX4_depthOn_81 (Or.inl rfl) rfl h
  · replace h := h.2 c3
    refine am_iload_n dX4_depthOn_60 (List.Mem.tail _ (List.Mem.tail _ (List.Mem.head _))) ?_
    refine am_aload_n dX4_depthOn_61 (List.Mem.tail _ (List.Mem.head _)) ?_
    refine am_getf (f := 0) (v := .inr (.inr (some (5, 0)))) dX4_depthOn_62 hc_6 (by decide) wd_438 (by decide) rfl rfl ?_
    refine am_getf (f := 4) (v := .inr (.inr (some (37, 0)))) dX4_depthOn_65 hc_5 (by decide) wd_321 (by decide) rfl rfl ?_
    refine am_aload_n dX4_depthOn_68 (List.Mem.tail _ (List.Mem.head _)) ?_
    refine am_getf (f := 4) (v := .inl (w.1 6 0 4)) dX4_depthOn_69 hc_6 (by decide) wd_442 (by decide) rfl rfl ?_
    refine am_iaload (v := (w.1 37 0 (w.1 6 0 4).toNat)) dX4_depthOn_72 (by decide) rfl o1 o2 rfl ?_
    refine am_icmplt (tgt := 80) dX4_depthOn_73 (by decide) (fun c4 => ?_) (fun c4 => ?_)
    · replace h := h.1 c4
      refine am_iconst dX4_depthOn_80 (by unfold am_rg; omega) ?_
      exact am_ret (r := some (.inl (-1))) dX4_depthOn_81 (Or.inl rfl) rfl h
    · replace h := h.2 c4
      refine am_iload_n dX4_depthOn_76 (List.Mem.head _) ?_
      refine am_ifeq (tgt := 82) dX4_depthOn_77 (by decide) (fun c5 => ?_) (fun c5 => ?_)
      · replace h := h.1 c5
        refine am_aload_n dX4_depthOn_82 (List.Mem.tail _ (List.Mem.head _)) ?_
        refine am_iload_n dX4_depthOn_83 (List.Mem.tail _ (List.Mem.tail _ (List.Mem.head _))) ?_
        exact am_callv (d' := d) (kc := 0) (ks := 0) (as := [.inl x1]) dX4_depthOn_84 wc_X4_moveTo wd_1242 wd_1244 wd_35 wd_118 ds_X4_moveTo (by decide) (Nat.le_refl _) (Nat.le_of_ble_eq_true rfl) (Nat.zero_le _) (Nat.zero_le _) hc_6 (by decide) rfl rfl h
      · replace h := h.2 c5
        refine am_iconst dX4_depthOn_80 (by unfold am_rg; omega) ?_
        exact am_ret (r := some (.inl (-1))) dX4_depthOn_81 (Or.inl rfl) rfl h
theorem bX4_depthOn_87 {SC : Nat → Nat} {X : mh_X} {d : Nat} {Q : Option am_V → am_W → Prop} {bc bs : Nat} {w : am_W} {x2 : Int} {x1 : Int}
    (h : am_M (mh_G X) SC d 0 0 mX1_lawOn [.inr (.inr (some (4, 0))), .inl x1, .inl (w.1 6 0 5)] w (fun r w1 => am_A (mh_G X) SC (d + 1) mX4_depthOn Q 99 [(2, .inl x2), (0, .inr (.inr (some (6, 0)))), (1, .inl x1)] (r.toList ++ []) w1 bc bs)) :
    am_A (mh_G X) SC (d + 1) mX4_depthOn Q 87 [(2, .inl x2), (0, .inr (.inr (some (6, 0)))), (1, .inl x1)] [] w bc bs := by
  refine am_aload_n dX4_depthOn_87 (List.Mem.tail _ (List.Mem.head _)) ?_
  refine am_getf (f := 1) (v := .inr (.inr (some (4, 0)))) dX4_depthOn_88 hc_6 (by decide) wd_439 (by decide) rfl rfl ?_
  refine am_iload_n dX4_depthOn_91 (List.Mem.tail _ (List.Mem.tail _ (List.Mem.head _))) ?_
  refine am_aload_n dX4_depthOn_92 (List.Mem.tail _ (List.Mem.head _)) ?_
  refine am_getf (f := 5) (v := .inl (w.1 6 0 5)) dX4_depthOn_93 hc_6 (by decide) wd_443 (by decide) rfl rfl ?_
  exact am_callv (d' := d) (kc := 0) (ks := 0) (as := [.inl x1, .inl (w.1 6 0 5)]) dX4_depthOn_96 wc_X1_lawOn wd_1169 wd_1170 wd_1171 wd_115 ds_X1_lawOn (by decide) (Nat.le_refl _) (Nat.le_of_ble_eq_true rfl) (Nat.zero_le _) (Nat.zero_le _) hc_3 (by decide) rfl rfl h
theorem bX4_depthOn_99 {SC : Nat → Nat} {X : mh_X} {d : Nat} {Q : Option am_V → am_W → Prop} {bc bs : Nat} {w : am_W} {x2 : Int} {x1 : Int}
    (h : am_M (mh_G X) SC d 0 0 mX4_lightened [.inr (.inr (some (6, 0))), .inr (.inr none), .inl x1] w (fun r w1 => am_A (mh_G X) SC (d + 1) mX4_depthOn Q 110 [(3, .inr (.inr none)), (2, .inl x2), (0, .inr (.inr (some (6, 0)))), (1, .inl x1)] (r.toList ++ [.inl (w.1 6 0 8)]) w1 bc bs)) :
    am_A (mh_G X) SC (d + 1) mX4_depthOn Q 99 [(2, .inl x2), (0, .inr (.inr (some (6, 0)))), (1, .inl x1)] [.inr (.inr none)] w bc bs := by
  refine am_astore_n (ls' := [(3, .inr (.inr none)), (2, .inl x2), (0, .inr (.inr (some (6, 0)))), (1, .inl x1)]) dX4_depthOn_99 (by decide) rfl ?_
  refine am_aload_n dX4_depthOn_100 (List.Mem.tail _ (List.Mem.tail _ (List.Mem.head _))) ?_
  refine am_getf (f := 8) (v := .inl (w.1 6 0 8)) dX4_depthOn_101 hc_6 (by decide) wd_446 (by decide) rfl rfl ?_
  refine am_aload_n dX4_depthOn_104 (List.Mem.tail _ (List.Mem.tail _ (List.Mem.head _))) ?_
  refine am_aload_n dX4_depthOn_105 (List.Mem.head _) ?_
  refine am_iload_n dX4_depthOn_106 (List.Mem.tail _ (List.Mem.tail _ (List.Mem.tail _ (List.Mem.head _)))) ?_
  exact am_callv (d' := d) (kc := 0) (ks := 0) (as := [.inr (.inr none), .inl x1]) dX4_depthOn_107 wc_X4_lightened wd_1264 wd_1266 wd_38 wd_118 ds_X4_lightened (by decide) (Nat.le_refl _) (Nat.le_of_ble_eq_true rfl) (Nat.zero_le _) (Nat.zero_le _) hc_6 (by decide) rfl rfl h
theorem bX4_depthOn_99a {SC : Nat → Nat} {X : mh_X} {d : Nat} {Q : Option am_V → am_W → Prop} {bc bs : Nat} {w : am_W} {x2 : Int} {x1 : Int} {js0 : Nat}
    (h : am_M (mh_G X) SC d 0 0 mX4_lightened [.inr (.inr (some (6, 0))), .inr (.inr (some (10, js0))), .inl x1] w (fun r w1 => am_A (mh_G X) SC (d + 1) mX4_depthOn Q 110 [(3, .inr (.inr (some (10, js0)))), (2, .inl x2), (0, .inr (.inr (some (6, 0)))), (1, .inl x1)] (r.toList ++ [.inl (w.1 6 0 8)]) w1 bc bs)) :
    am_A (mh_G X) SC (d + 1) mX4_depthOn Q 99 [(2, .inl x2), (0, .inr (.inr (some (6, 0)))), (1, .inl x1)] [.inr (.inr (some (10, js0)))] w bc bs := by
  refine am_astore_n (ls' := [(3, .inr (.inr (some (10, js0)))), (2, .inl x2), (0, .inr (.inr (some (6, 0)))), (1, .inl x1)]) dX4_depthOn_99 (by decide) rfl ?_
  refine am_aload_n dX4_depthOn_100 (List.Mem.tail _ (List.Mem.tail _ (List.Mem.head _))) ?_
  refine am_getf (f := 8) (v := .inl (w.1 6 0 8)) dX4_depthOn_101 hc_6 (by decide) wd_446 (by decide) rfl rfl ?_
  refine am_aload_n dX4_depthOn_104 (List.Mem.tail _ (List.Mem.tail _ (List.Mem.head _))) ?_
  refine am_aload_n dX4_depthOn_105 (List.Mem.head _) ?_
  refine am_iload_n dX4_depthOn_106 (List.Mem.tail _ (List.Mem.tail _ (List.Mem.tail _ (List.Mem.head _)))) ?_
  exact am_callv (d' := d) (kc := 0) (ks := 0) (as := [.inr (.inr (some (10, js0))), .inl x1]) dX4_depthOn_107 wc_X4_lightened wd_1264 wd_1266 wd_38 wd_118 ds_X4_lightened (by decide) (Nat.le_refl _) (Nat.le_of_ble_eq_true rfl) (Nat.zero_le _) (Nat.zero_le _) hc_6 (by decide) rfl rfl h
theorem bX4_depthOn_110 {SC : Nat → Nat} {X : mh_X} {d : Nat} {Q : Option am_V → am_W → Prop} {bc bs : Nat} {w : am_W} {x2 : Int} {x1 : Int} {xs0 : Int} {xs1 : Int}
    (h : am_M (mh_G X) SC d 0 0 mJ9_max_7cf53 [.inl xs1, .inl xs0] w (fun r w1 => am_A (mh_G X) SC (d + 1) mX4_depthOn Q 113 [(3, .inr (.inr none)), (2, .inl x2), (0, .inr (.inr (some (6, 0)))), (1, .inl x1)] (r.toList ++ []) w1 bc bs)) :
    am_A (mh_G X) SC (d + 1) mX4_depthOn Q 110 [(3, .inr (.inr none)), (2, .inl x2), (0, .inr (.inr (some (6, 0)))), (1, .inl x1)] [.inl xs0, .inl xs1] w bc bs := by
  exact am_calls (d' := d) (kc := 0) (ks := 0) (as := [.inl xs1, .inl xs0]) dX4_depthOn_110 wc_J9_max_7cf53 wd_1191 wd_785 wd_128 ds_J9_max_7cf53 (by decide) (Nat.le_refl _) (Nat.le_of_ble_eq_true rfl) (Nat.zero_le _) (Nat.zero_le _) rfl h
theorem bX4_depthOn_110a {SC : Nat → Nat} {X : mh_X} {d : Nat} {Q : Option am_V → am_W → Prop} {bc bs : Nat} {w : am_W} {j3 : Nat} {x2 : Int} {x1 : Int} {xs0 : Int} {xs1 : Int}
    (h : am_M (mh_G X) SC d 0 0 mJ9_max_7cf53 [.inl xs1, .inl xs0] w (fun r w1 => am_A (mh_G X) SC (d + 1) mX4_depthOn Q 113 [(3, .inr (.inr (some (10, j3)))), (2, .inl x2), (0, .inr (.inr (some (6, 0)))), (1, .inl x1)] (r.toList ++ []) w1 bc bs)) :
    am_A (mh_G X) SC (d + 1) mX4_depthOn Q 110 [(3, .inr (.inr (some (10, j3)))), (2, .inl x2), (0, .inr (.inr (some (6, 0)))), (1, .inl x1)] [.inl xs0, .inl xs1] w bc bs := by
  exact am_calls (d' := d) (kc := 0) (ks := 0) (as := [.inl xs1, .inl xs0]) dX4_depthOn_110 wc_J9_max_7cf53 wd_1191 wd_785 wd_128 ds_J9_max_7cf53 (by decide) (Nat.le_refl _) (Nat.le_of_ble_eq_true rfl) (Nat.zero_le _) (Nat.zero_le _) rfl h
theorem bX4_depthOn_113 {SC : Nat → Nat} {X : mh_X} {d : Nat} {Q : Option am_V → am_W → Prop} {bc bs : Nat} {w : am_W} {x2 : Int} {x1 : Int} {xs0 : Int}
    (h : am_M (mh_G X) SC d 0 0 mX1_orderedDepth [.inr (.inr (some (4, 0))), .inl x1, .inl (w.1 6 0 5)] w (fun r w1 => am_A (mh_G X) SC (d + 1) mX4_depthOn Q 129 [(4, .inl xs0), (3, .inr (.inr none)), (2, .inl x2), (0, .inr (.inr (some (6, 0)))), (1, .inl x1)] (r.toList ++ [.inl xs0]) w1 bc bs)) :
    am_A (mh_G X) SC (d + 1) mX4_depthOn Q 113 [(3, .inr (.inr none)), (2, .inl x2), (0, .inr (.inr (some (6, 0)))), (1, .inl x1)] [.inl xs0] w bc bs := by
  refine am_istore (ls' := [(4, .inl xs0), (3, .inr (.inr none)), (2, .inl x2), (0, .inr (.inr (some (6, 0)))), (1, .inl x1)]) dX4_depthOn_113 (by decide) rfl ?_
  refine am_iload dX4_depthOn_115 (List.Mem.head _) ?_
  refine am_aload_n dX4_depthOn_117 (List.Mem.tail _ (List.Mem.tail _ (List.Mem.tail _ (List.Mem.head _)))) ?_
  refine am_getf (f := 1) (v := .inr (.inr (some (4, 0)))) dX4_depthOn_118 hc_6 (by decide) wd_439 (by decide) rfl rfl ?_
  refine am_iload_n dX4_depthOn_121 (List.Mem.tail _ (List.Mem.tail _ (List.Mem.tail _ (List.Mem.tail _ (List.Mem.head _))))) ?_
  refine am_aload_n dX4_depthOn_122 (List.Mem.tail _ (List.Mem.tail _ (List.Mem.tail _ (List.Mem.head _)))) ?_
  refine am_getf (f := 5) (v := .inl (w.1 6 0 5)) dX4_depthOn_123 hc_6 (by decide) wd_443 (by decide) rfl rfl ?_
  exact am_callv (d' := d) (kc := 0) (ks := 0) (as := [.inl x1, .inl (w.1 6 0 5)]) dX4_depthOn_126 wc_X1_orderedDepth wd_1278 wd_1279 wd_1280 wd_115 ds_X1_orderedDepth (by decide) (Nat.le_refl _) (Nat.le_of_ble_eq_true rfl) (Nat.zero_le _) (Nat.zero_le _) hc_3 (by decide) rfl rfl h
theorem bX4_depthOn_113a {SC : Nat → Nat} {X : mh_X} {d : Nat} {Q : Option am_V → am_W → Prop} {bc bs : Nat} {w : am_W} {j3 : Nat} {x2 : Int} {x1 : Int} {xs0 : Int}
    (h : am_M (mh_G X) SC d 0 0 mX1_orderedDepth [.inr (.inr (some (4, 0))), .inl x1, .inl (w.1 6 0 5)] w (fun r w1 => am_A (mh_G X) SC (d + 1) mX4_depthOn Q 129 [(4, .inl xs0), (3, .inr (.inr (some (10, j3)))), (2, .inl x2), (0, .inr (.inr (some (6, 0)))), (1, .inl x1)] (r.toList ++ [.inl xs0]) w1 bc bs)) :
    am_A (mh_G X) SC (d + 1) mX4_depthOn Q 113 [(3, .inr (.inr (some (10, j3)))), (2, .inl x2), (0, .inr (.inr (some (6, 0)))), (1, .inl x1)] [.inl xs0] w bc bs := by
  refine am_istore (ls' := [(4, .inl xs0), (3, .inr (.inr (some (10, j3)))), (2, .inl x2), (0, .inr (.inr (some (6, 0)))), (1, .inl x1)]) dX4_depthOn_113 (by decide) rfl ?_
  refine am_iload dX4_depthOn_115 (List.Mem.head _) ?_
  refine am_aload_n dX4_depthOn_117 (List.Mem.tail _ (List.Mem.tail _ (List.Mem.tail _ (List.Mem.head _)))) ?_
  refine am_getf (f := 1) (v := .inr (.inr (some (4, 0)))) dX4_depthOn_118 hc_6 (by decide) wd_439 (by decide) rfl rfl ?_
  refine am_iload_n dX4_depthOn_121 (List.Mem.tail _ (List.Mem.tail _ (List.Mem.tail _ (List.Mem.tail _ (List.Mem.head _))))) ?_
  refine am_aload_n dX4_depthOn_122 (List.Mem.tail _ (List.Mem.tail _ (List.Mem.tail _ (List.Mem.head _)))) ?_
  refine am_getf (f := 5) (v := .inl (w.1 6 0 5)) dX4_depthOn_123 hc_6 (by decide) wd_443 (by decide) rfl rfl ?_
  exact am_callv (d' := d) (kc := 0) (ks := 0) (as := [.inl x1, .inl (w.1 6 0 5)]) dX4_depthOn_126 wc_X1_orderedDepth wd_1278 wd_1279 wd_1280 wd_115 ds_X1_orderedDepth (by decide) (Nat.le_refl _) (Nat.le_of_ble_eq_true rfl) (Nat.zero_le _) (Nat.zero_le _) hc_3 (by decide) rfl rfl h
theorem bX4_depthOn_129 {SC : Nat → Nat} {X : mh_X} {d : Nat} {Q : Option am_V → am_W → Prop} {bc bs : Nat} {w : am_W} {x4 : Int} {x2 : Int} {x1 : Int} {xs0 : Int} {xs1 : Int}
    (h : am_M (mh_G X) SC d 0 0 mJ9_max_7cf53 [.inl xs1, .inl xs0] w (fun r w1 => am_A (mh_G X) SC (d + 1) mX4_depthOn Q 132 [(4, .inl x4), (3, .inr (.inr none)), (2, .inl x2), (0, .inr (.inr (some (6, 0)))), (1, .inl x1)] (r.toList ++ []) w1 bc bs)) :
    am_A (mh_G X) SC (d + 1) mX4_depthOn Q 129 [(4, .inl x4), (3, .inr (.inr none)), (2, .inl x2), (0, .inr (.inr (some (6, 0)))), (1, .inl x1)] [.inl xs0, .inl xs1] w bc bs := by
  exact am_calls (d' := d) (kc := 0) (ks := 0) (as := [.inl xs1, .inl xs0]) dX4_depthOn_129 wc_J9_max_7cf53 wd_1191 wd_785 wd_128 ds_J9_max_7cf53 (by decide) (Nat.le_refl _) (Nat.le_of_ble_eq_true rfl) (Nat.zero_le _) (Nat.zero_le _) rfl h
theorem bX4_depthOn_129a {SC : Nat → Nat} {X : mh_X} {d : Nat} {Q : Option am_V → am_W → Prop} {bc bs : Nat} {w : am_W} {x4 : Int} {j3 : Nat} {x2 : Int} {x1 : Int} {xs0 : Int} {xs1 : Int}
    (h : am_M (mh_G X) SC d 0 0 mJ9_max_7cf53 [.inl xs1, .inl xs0] w (fun r w1 => am_A (mh_G X) SC (d + 1) mX4_depthOn Q 132 [(4, .inl x4), (3, .inr (.inr (some (10, j3)))), (2, .inl x2), (0, .inr (.inr (some (6, 0)))), (1, .inl x1)] (r.toList ++ []) w1 bc bs)) :
    am_A (mh_G X) SC (d + 1) mX4_depthOn Q 129 [(4, .inl x4), (3, .inr (.inr (some (10, j3)))), (2, .inl x2), (0, .inr (.inr (some (6, 0)))), (1, .inl x1)] [.inl xs0, .inl xs1] w bc bs := by
  exact am_calls (d' := d) (kc := 0) (ks := 0) (as := [.inl xs1, .inl xs0]) dX4_depthOn_129 wc_J9_max_7cf53 wd_1191 wd_785 wd_128 ds_J9_max_7cf53 (by decide) (Nat.le_refl _) (Nat.le_of_ble_eq_true rfl) (Nat.zero_le _) (Nat.zero_le _) rfl h
theorem bX4_depthOn_132 {SC : Nat → Nat} {X : mh_X} {d : Nat} {Q : Option am_V → am_W → Prop} {bc bs : Nat} {w : am_W} {x4 : Int} {x2 : Int} {x1 : Int} {xs0 : Int}
    (h : ((xs0 ≤ 0 → Q (some (.inl xs0)) w) ∧ (¬ xs0 ≤ 0 → am_M (mh_G X) SC d 0 0 mX4_isTooYoung [.inr (.inr (some (6, 0))), .inr (.inr none), .inl x1] w (fun r w1 => am_A (mh_G X) SC (d + 1) mX4_depthOn Q 145 [(4, .inl xs0), (3, .inr (.inr none)), (2, .inl x2), (0, .inr (.inr (some (6, 0)))), (1, .inl x1)] (r.toList ++ []) w1 bc bs)))) :
    am_A (mh_G X) SC (d + 1) mX4_depthOn Q 132 [(4, .inl x4), (3, .inr (.inr none)), (2, .inl x2), (0, .inr (.inr (some (6, 0)))), (1, .inl x1)] [.inl xs0] w bc bs := by
  refine am_istore (ls' := [(4, .inl xs0), (3, .inr (.inr none)), (2, .inl x2), (0, .inr (.inr (some (6, 0)))), (1, .inl x1)]) dX4_depthOn_132 (by decide) rfl ?_
  refine am_iload dX4_depthOn_134 (List.Mem.head _) ?_
  refine am_ifle (tgt := 160) dX4_depthOn_136 (by decide) (fun c1 => ?_) (fun c1 => ?_)
  · replace h := h.1 c1
    refine am_iload dX4_depthOn_160 (List.Mem.head _) ?_
    exact am_ret (r := some (.inl xs0)) dX4_depthOn_162 (Or.inl rfl) rfl h
  · replace h := h.2 c1
    refine am_aload_n dX4_depthOn_139 (List.Mem.tail _ (List.Mem.tail _ (List.Mem.tail _ (List.Mem.head _)))) ?_
    refine am_aload_n dX4_depthOn_140 (List.Mem.tail _ (List.Mem.head _)) ?_
    refine am_iload_n dX4_depthOn_141 (List.Mem.tail _ (List.Mem.tail _ (List.Mem.tail _ (List.Mem.tail _ (List.Mem.head _))))) ?_
    exact am_callv (d' := d) (kc := 0) (ks := 0) (as := [.inr (.inr none), .inl x1]) dX4_depthOn_142 wc_X4_isTooYoung wd_1283 wd_1285 wd_39 wd_118 ds_X4_isTooYoung (by decide) (Nat.le_refl _) (Nat.le_of_ble_eq_true rfl) (Nat.zero_le _) (Nat.zero_le _) hc_6 (by decide) rfl rfl h
theorem bX4_depthOn_132a {SC : Nat → Nat} {X : mh_X} {d : Nat} {Q : Option am_V → am_W → Prop} {bc bs : Nat} {w : am_W} {x4 : Int} {j3 : Nat} {x2 : Int} {x1 : Int} {xs0 : Int}
    (h : ((xs0 ≤ 0 → Q (some (.inl xs0)) w) ∧ (¬ xs0 ≤ 0 → am_M (mh_G X) SC d 0 0 mX4_isTooYoung [.inr (.inr (some (6, 0))), .inr (.inr (some (10, j3))), .inl x1] w (fun r w1 => am_A (mh_G X) SC (d + 1) mX4_depthOn Q 145 [(4, .inl xs0), (3, .inr (.inr (some (10, j3)))), (2, .inl x2), (0, .inr (.inr (some (6, 0)))), (1, .inl x1)] (r.toList ++ []) w1 bc bs)))) :
    am_A (mh_G X) SC (d + 1) mX4_depthOn Q 132 [(4, .inl x4), (3, .inr (.inr (some (10, j3)))), (2, .inl x2), (0, .inr (.inr (some (6, 0)))), (1, .inl x1)] [.inl xs0] w bc bs := by
  refine am_istore (ls' := [(4, .inl xs0), (3, .inr (.inr (some (10, j3)))), (2, .inl x2), (0, .inr (.inr (some (6, 0)))), (1, .inl x1)]) dX4_depthOn_132 (by decide) rfl ?_
  refine am_iload dX4_depthOn_134 (List.Mem.head _) ?_
  refine am_ifle (tgt := 160) dX4_depthOn_136 (by decide) (fun c1 => ?_) (fun c1 => ?_)
  · replace h := h.1 c1
    refine am_iload dX4_depthOn_160 (List.Mem.head _) ?_
    exact am_ret (r := some (.inl xs0)) dX4_depthOn_162 (Or.inl rfl) rfl h
  · replace h := h.2 c1
    refine am_aload_n dX4_depthOn_139 (List.Mem.tail _ (List.Mem.tail _ (List.Mem.tail _ (List.Mem.head _)))) ?_
    refine am_aload_n dX4_depthOn_140 (List.Mem.tail _ (List.Mem.head _)) ?_
    refine am_iload_n dX4_depthOn_141 (List.Mem.tail _ (List.Mem.tail _ (List.Mem.tail _ (List.Mem.tail _ (List.Mem.head _))))) ?_
    exact am_callv (d' := d) (kc := 0) (ks := 0) (as := [.inr (.inr (some (10, j3))), .inl x1]) dX4_depthOn_142 wc_X4_isTooYoung wd_1283 wd_1285 wd_39 wd_118 ds_X4_isTooYoung (by decide) (Nat.le_refl _) (Nat.le_of_ble_eq_true rfl) (Nat.zero_le _) (Nat.zero_le _) hc_6 (by decide) rfl rfl h
theorem bX4_depthOn_145 {SC : Nat → Nat} {X : mh_X} {d : Nat} {Q : Option am_V → am_W → Prop} {bc bs : Nat} {w : am_W} {x4 : Int} {x2 : Int} {x1 : Int} {xs0 : Int}
    (h : ((xs0 = 0 → Q (some (.inl x4)) w) ∧ (¬ xs0 = 0 → False))) :
    am_A (mh_G X) SC (d + 1) mX4_depthOn Q 145 [(4, .inl x4), (3, .inr (.inr none)), (2, .inl x2), (0, .inr (.inr (some (6, 0)))), (1, .inl x1)] [.inl xs0] w bc bs := by
  refine am_ifeq (tgt := 160) dX4_depthOn_145 (by decide) (fun c1 => ?_) (fun c1 => ?_)
  · replace h := h.1 c1
    refine am_iload dX4_depthOn_160 (List.Mem.head _) ?_
    exact am_ret (r := some (.inl x4)) dX4_depthOn_162 (Or.inl rfl) rfl h
  · replace h := h.2 c1
    refine am_iload dX4_depthOn_148 (List.Mem.head _) ?_
    refine am_aload_n dX4_depthOn_150 (List.Mem.tail _ (List.Mem.head _)) ?_
    exact h.elim
theorem bX4_depthOn_145a {SC : Nat → Nat} {X : mh_X} {d : Nat} {Q : Option am_V → am_W → Prop} {bc bs : Nat} {w : am_W} {x4 : Int} {j3 : Nat} {x2 : Int} {x1 : Int} {xs0 : Int}
    (h : ((xs0 = 0 → Q (some (.inl x4)) w) ∧ (¬ xs0 = 0 → am_M (mh_G X) SC d 0 0 mJ9_min_7cf53 [.inl x4, .inl (w.1 10 j3 15)] w (fun r w1 => am_A (mh_G X) SC (d + 1) mX4_depthOn Q 157 [(4, .inl x4), (3, .inr (.inr (some (10, j3)))), (2, .inl x2), (0, .inr (.inr (some (6, 0)))), (1, .inl x1)] (r.toList ++ []) w1 bc bs)))) :
    am_A (mh_G X) SC (d + 1) mX4_depthOn Q 145 [(4, .inl x4), (3, .inr (.inr (some (10, j3)))), (2, .inl x2), (0, .inr (.inr (some (6, 0)))), (1, .inl x1)] [.inl xs0] w bc bs := by
  refine am_ifeq (tgt := 160) dX4_depthOn_145 (by decide) (fun c1 => ?_) (fun c1 => ?_)
  · replace h := h.1 c1
    refine am_iload dX4_depthOn_160 (List.Mem.head _) ?_
    exact am_ret (r := some (.inl x4)) dX4_depthOn_162 (Or.inl rfl) rfl h
  · replace h := h.2 c1
    refine am_iload dX4_depthOn_148 (List.Mem.head _) ?_
    refine am_aload_n dX4_depthOn_150 (List.Mem.tail _ (List.Mem.head _)) ?_
    refine am_getf (f := 15) (v := .inl (w.1 10 j3 15)) dX4_depthOn_151 hc_4 (by decide) wd_241 (by decide) rfl rfl ?_
    exact am_calls (d' := d) (kc := 0) (ks := 0) (as := [.inl x4, .inl (w.1 10 j3 15)]) dX4_depthOn_154 wc_J9_min_7cf53 wd_1229 wd_782 wd_128 ds_J9_min_7cf53 (by decide) (Nat.le_refl _) (Nat.le_of_ble_eq_true rfl) (Nat.zero_le _) (Nat.zero_le _) rfl h
theorem bX4_depthOn_157 {SC : Nat → Nat} {X : mh_X} {d : Nat} {Q : Option am_V → am_W → Prop} {bc bs : Nat} {w : am_W} {x4 : Int} {j3 : Nat} {x2 : Int} {x1 : Int} {xs0 : Int}
    (h : Q (some (.inl xs0)) w) :
    am_A (mh_G X) SC (d + 1) mX4_depthOn Q 157 [(4, .inl x4), (3, .inr (.inr (some (10, j3)))), (2, .inl x2), (0, .inr (.inr (some (6, 0)))), (1, .inl x1)] [.inl xs0] w bc bs := by
  refine am_goto (tgt := 162) dX4_depthOn_157 (by decide) ?_
  exact am_ret (r := some (.inl xs0)) dX4_depthOn_162 (Or.inl rfl) rfl h
-- MourningHouse$Mourner.lightened(LMourningHouse$Law;I)I
theorem dX4_lightened_0 : decode mX4_lightened.2.1 0 = .ok (.aload_n 1, 1) := by decide +kernel
theorem dX4_lightened_1 : decode mX4_lightened.2.1 1 = .ok (.ifnull 10, 3) := by decide +kernel
theorem dX4_lightened_4 : decode mX4_lightened.2.1 4 = .ok (.aload_n 0, 1) := by decide +kernel
theorem dX4_lightened_5 : decode mX4_lightened.2.1 5 = .ok (.getfield 38, 3) := by decide +kernel
theorem dX4_lightened_8 : decode mX4_lightened.2.1 8 = .ok (.ifCond .ne 8, 3) := by decide +kernel
theorem dX4_lightened_11 : decode mX4_lightened.2.1 11 = .ok (.aload_n 0, 1) := by decide +kernel
theorem dX4_lightened_12 : decode mX4_lightened.2.1 12 = .ok (.getfield 38, 3) := by decide +kernel
theorem dX4_lightened_15 : decode mX4_lightened.2.1 15 = .ok (.ireturn, 1) := by decide +kernel
theorem dX4_lightened_16 : decode mX4_lightened.2.1 16 = .ok (.aload_n 1, 1) := by decide +kernel
theorem dX4_lightened_17 : decode mX4_lightened.2.1 17 = .ok (.aload_n 0, 1) := by decide +kernel
theorem dX4_lightened_18 : decode mX4_lightened.2.1 18 = .ok (.getfield 38, 3) := by decide +kernel
theorem dX4_lightened_21 : decode mX4_lightened.2.1 21 = .ok (.iload_n 2, 1) := by decide +kernel
theorem dX4_lightened_22 : decode mX4_lightened.2.1 22 = .ok (.invokestatic 184, 3) := by decide +kernel
theorem dX4_lightened_25 : decode mX4_lightened.2.1 25 = .ok (.invokevirtual 187, 3) := by decide +kernel
theorem dX4_lightened_28 : decode mX4_lightened.2.1 28 = .ok (.istore_n 3, 1) := by decide +kernel
theorem dX4_lightened_29 : decode mX4_lightened.2.1 29 = .ok (.iload_n 3, 1) := by decide +kernel
theorem dX4_lightened_30 : decode mX4_lightened.2.1 30 = .ok (.aload_n 1, 1) := by decide +kernel
theorem dX4_lightened_31 : decode mX4_lightened.2.1 31 = .ok (.getfield 190, 3) := by decide +kernel
theorem dX4_lightened_34 : decode mX4_lightened.2.1 34 = .ok (.if_icmp .le 42, 3) := by decide +kernel
theorem dX4_lightened_37 : decode mX4_lightened.2.1 37 = .ok (.aload_n 1, 1) := by decide +kernel
theorem dX4_lightened_38 : decode mX4_lightened.2.1 38 = .ok (.getfield 193, 3) := by decide +kernel
theorem dX4_lightened_41 : decode mX4_lightened.2.1 41 = .ok (.ifCond .le 35, 3) := by decide +kernel
theorem dX4_lightened_44 : decode mX4_lightened.2.1 44 = .ok (.aload_n 0, 1) := by decide +kernel
theorem dX4_lightened_45 : decode mX4_lightened.2.1 45 = .ok (.getfield 41, 3) := by decide +kernel
theorem dX4_lightened_48 : decode mX4_lightened.2.1 48 = .ok (.aload_n 0, 1) := by decide +kernel
theorem dX4_lightened_49 : decode mX4_lightened.2.1 49 = .ok (.getfield 23, 3) := by decide +kernel
theorem dX4_lightened_52 : decode mX4_lightened.2.1 52 = .ok (.iload_n 2, 1) := by decide +kernel
theorem dX4_lightened_53 : decode mX4_lightened.2.1 53 = .ok (.aload_n 1, 1) := by decide +kernel
theorem dX4_lightened_54 : decode mX4_lightened.2.1 54 = .ok (.getfield 193, 3) := by decide +kernel
theorem dX4_lightened_57 : decode mX4_lightened.2.1 57 = .ok (.isub, 1) := by decide +kernel
theorem dX4_lightened_58 : decode mX4_lightened.2.1 58 = .ok (.iconst 1, 1) := by decide +kernel
theorem dX4_lightened_59 : decode mX4_lightened.2.1 59 = .ok (.iadd, 1) := by decide +kernel
theorem dX4_lightened_60 : decode mX4_lightened.2.1 60 = .ok (.iload_n 2, 1) := by decide +kernel
theorem dX4_lightened_61 : decode mX4_lightened.2.1 61 = .ok (.aload_n 0, 1) := by decide +kernel
theorem dX4_lightened_62 : decode mX4_lightened.2.1 62 = .ok (.getfield 26, 3) := by decide +kernel
theorem dX4_lightened_65 : decode mX4_lightened.2.1 65 = .ok (.invokevirtual 196, 3) := by decide +kernel
theorem dX4_lightened_68 : decode mX4_lightened.2.1 68 = .ok (.ifCond .eq 8, 3) := by decide +kernel
theorem dX4_lightened_71 : decode mX4_lightened.2.1 71 = .ok (.aload_n 1, 1) := by decide +kernel
theorem dX4_lightened_72 : decode mX4_lightened.2.1 72 = .ok (.getfield 190, 3) := by decide +kernel
theorem dX4_lightened_75 : decode mX4_lightened.2.1 75 = .ok (.ireturn, 1) := by decide +kernel
theorem dX4_lightened_76 : decode mX4_lightened.2.1 76 = .ok (.iload_n 3, 1) := by decide +kernel
theorem dX4_lightened_77 : decode mX4_lightened.2.1 77 = .ok (.ireturn, 1) := by decide +kernel
theorem bX4_lightened_0 {SC : Nat → Nat} {X : mh_X} {d : Nat} {Q : Option am_V → am_W → Prop} {bc bs : Nat} {w : am_W} {j1 : Nat} {x2 : Int}
    (h : ((¬ (w.1 6 0 9) = 0 → am_M (mh_G X) SC d 0 0 mX0_dateOf [.inl x2] w (fun r w1 => am_A (mh_G X) SC (d + 1) mX4_lightened Q 25 [(0, .inr (.inr (some (6, 0)))), (1, .inr (.inr (some (10, j1)))), (2, .inl x2)] (r.toList ++ [.inl (w.1 6 0 9), .inr (.inr (some (10, j1)))]) w1 bc bs)) ∧ ((w.1 6 0 9) = 0 → Q (some (.inl (w.1 6 0 9))) w))) :
    am_A (mh_G X) SC (d + 1) mX4_lightened Q 0 [(0, .inr (.inr (some (6, 0)))), (1, .inr (.inr (some (10, j1)))), (2, .inl x2)] [] w bc bs := by
  refine am_aload_n dX4_lightened_0 (List.Mem.tail _ (List.Mem.head _)) ?_
  refine am_ifnull (tgt := 11) dX4_lightened_1 (by decide) (fun e => by cases e) (fun _ => ?_)
  refine am_aload_n dX4_lightened_4 (List.Mem.head _) ?_
  refine am_getf (f := 9) (v := .inl (w.1 6 0 9)) dX4_lightened_5 hc_6 (by decide) wd_447 (by decide) rfl rfl ?_
  refine am_ifne (tgt := 16) dX4_lightened_8 (by decide) (fun c1 => ?_) (fun c1 => ?_)
  · replace h := h.1 c1
    refine am_aload_n dX4_lightened_16 (List.Mem.tail _ (List.Mem.head _)) ?_
    refine am_aload_n dX4_lightened_17 (List.Mem.head _) ?_
    refine am_getf (f := 9) (v := .inl (w.1 6 0 9)) dX4_lightened_18 hc_6 (by decide) wd_447 (by decide) rfl rfl ?_
    refine am_iload_n dX4_lightened_21 (List.Mem.tail _ (List.Mem.tail _ (List.Mem.head _))) ?_
    exact am_calls (d' := d) (kc := 0) (ks := 0) (as := [.inl x2]) dX4_lightened_22 wc_X0_dateOf wd_1268 wd_1010 wd_129 ds_X0_dateOf (by decide) (Nat.le_refl _) (Nat.le_of_ble_eq_true rfl) (Nat.zero_le _) (Nat.zero_le _) rfl h
  · replace h := h.2 c1
    refine am_aload_n dX4_lightened_11 (List.Mem.head _) ?_
    refine am_getf (f := 9) (v := .inl (w.1 6 0 9)) dX4_lightened_12 hc_6 (by decide) wd_447 (by decide) rfl rfl ?_
    exact am_ret (r := some (.inl (w.1 6 0 9))) dX4_lightened_15 (Or.inl rfl) rfl h
theorem bX4_lightened_25 {SC : Nat → Nat} {X : mh_X} {d : Nat} {Q : Option am_V → am_W → Prop} {bc bs : Nat} {w : am_W} {j1 : Nat} {x2 : Int} {xs0 : Int} {xs1 : Int} {js2 : Nat}
    (h : am_M (mh_G X) SC d 0 0 mX3_onFeasts [.inr (.inr (some (10, js2))), .inl xs1, .inl xs0] w (fun r w1 => am_A (mh_G X) SC (d + 1) mX4_lightened Q 28 [(0, .inr (.inr (some (6, 0)))), (1, .inr (.inr (some (10, j1)))), (2, .inl x2)] (r.toList ++ []) w1 bc bs)) :
    am_A (mh_G X) SC (d + 1) mX4_lightened Q 25 [(0, .inr (.inr (some (6, 0)))), (1, .inr (.inr (some (10, j1)))), (2, .inl x2)] [.inl xs0, .inl xs1, .inr (.inr (some (10, js2)))] w bc bs := by
  exact am_callv (d' := d) (kc := 0) (ks := 0) (as := [.inl xs1, .inl xs0]) dX4_lightened_25 wc_X3_onFeasts wd_1269 wd_1270 wd_1271 wd_116 ds_X3_onFeasts (by decide) (Nat.le_refl _) (Nat.le_of_ble_eq_true rfl) (Nat.zero_le _) (Nat.zero_le _) hc_4 (by decide) rfl rfl h
theorem bX4_lightened_28 {SC : Nat → Nat} {X : mh_X} {d : Nat} {Q : Option am_V → am_W → Prop} {bc bs : Nat} {w : am_W} {j1 : Nat} {x2 : Int} {xs0 : Int}
    (h : ((xs0 ≤ (w.1 10 j1 13) → Q (some (.inl xs0)) w) ∧ (¬ xs0 ≤ (w.1 10 j1 13) → (((w.1 10 j1 12) ≤ 0 → Q (some (.inl xs0)) w) ∧ (¬ (w.1 10 j1 12) ≤ 0 → am_M (mh_G X) SC d 0 0 mX2_hasChildBorn [.inr (.inr (some (5, 0))), .inl (w.1 6 0 4), .inl (am_w ((am_w (x2 - (w.1 10 j1 12))) + 1)), .inl x2, .inl (w.1 6 0 5)] w (fun r w1 => am_A (mh_G X) SC (d + 1) mX4_lightened Q 68 [(3, .inl xs0), (0, .inr (.inr (some (6, 0)))), (1, .inr (.inr (some (10, j1)))), (2, .inl x2)] (r.toList ++ []) w1 bc bs)))))) :
    am_A (mh_G X) SC (d + 1) mX4_lightened Q 28 [(0, .inr (.inr (some (6, 0)))), (1, .inr (.inr (some (10, j1)))), (2, .inl x2)] [.inl xs0] w bc bs := by
  refine am_istore_n (ls' := [(3, .inl xs0), (0, .inr (.inr (some (6, 0)))), (1, .inr (.inr (some (10, j1)))), (2, .inl x2)]) dX4_lightened_28 (by decide) rfl ?_
  refine am_iload_n dX4_lightened_29 (List.Mem.head _) ?_
  refine am_aload_n dX4_lightened_30 (List.Mem.tail _ (List.Mem.tail _ (List.Mem.head _))) ?_
  refine am_getf (f := 13) (v := .inl (w.1 10 j1 13)) dX4_lightened_31 hc_4 (by decide) wd_235 (by decide) rfl rfl ?_
  refine am_icmple (tgt := 76) dX4_lightened_34 (by decide) (fun c1 => ?_) (fun c1 => ?_)
  · replace h := h.1 c1
    refine am_iload_n dX4_lightened_76 (List.Mem.head _) ?_
    exact am_ret (r := some (.inl xs0)) dX4_lightened_77 (Or.inl rfl) rfl h
  · replace h := h.2 c1
    refine am_aload_n dX4_lightened_37 (List.Mem.tail _ (List.Mem.tail _ (List.Mem.head _))) ?_
    refine am_getf (f := 12) (v := .inl (w.1 10 j1 12)) dX4_lightened_38 hc_4 (by decide) wd_232 (by decide) rfl rfl ?_
    refine am_ifle (tgt := 76) dX4_lightened_41 (by decide) (fun c2 => ?_) (fun c2 => ?_)
    · replace h := h.1 c2
      refine am_iload_n dX4_lightened_76 (List.Mem.head _) ?_
      exact am_ret (r := some (.inl xs0)) dX4_lightened_77 (Or.inl rfl) rfl h
    · replace h := h.2 c2
      refine am_aload_n dX4_lightened_44 (List.Mem.tail _ (List.Mem.head _)) ?_
      refine am_getf (f := 0) (v := .inr (.inr (some (5, 0)))) dX4_lightened_45 hc_6 (by decide) wd_438 (by decide) rfl rfl ?_
      refine am_aload_n dX4_lightened_48 (List.Mem.tail _ (List.Mem.head _)) ?_
      refine am_getf (f := 4) (v := .inl (w.1 6 0 4)) dX4_lightened_49 hc_6 (by decide) wd_442 (by decide) rfl rfl ?_
      refine am_iload_n dX4_lightened_52 (List.Mem.tail _ (List.Mem.tail _ (List.Mem.tail _ (List.Mem.head _)))) ?_
      refine am_aload_n dX4_lightened_53 (List.Mem.tail _ (List.Mem.tail _ (List.Mem.head _))) ?_
      refine am_getf (f := 12) (v := .inl (w.1 10 j1 12)) dX4_lightened_54 hc_4 (by decide) wd_232 (by decide) rfl rfl ?_
      refine am_isub dX4_lightened_57 ?_
      refine am_iconst dX4_lightened_58 (by unfold am_rg; omega) ?_
      refine am_iadd dX4_lightened_59 ?_
      refine am_iload_n dX4_lightened_60 (List.Mem.tail _ (List.Mem.tail _ (List.Mem.tail _ (List.Mem.head _)))) ?_
      refine am_aload_n dX4_lightened_61 (List.Mem.tail _ (List.Mem.head _)) ?_
      refine am_getf (f := 5) (v := .inl (w.1 6 0 5)) dX4_lightened_62 hc_6 (by decide) wd_443 (by decide) rfl rfl ?_
      exact am_callv (d' := d) (kc := 0) (ks := 0) (as := [.inl (w.1 6 0 4), .inl (am_w ((am_w (x2 - (w.1 10 j1 12))) + 1)), .inl x2, .inl (w.1 6 0 5)]) dX4_lightened_65 wc_X2_hasChildBorn wd_1274 wd_1275 wd_1276 wd_117 ds_X2_hasChildBorn (by decide) (Nat.le_refl _) (Nat.le_of_ble_eq_true rfl) (Nat.zero_le _) (Nat.zero_le _) hc_5 (by decide) rfl rfl h
theorem bX4_lightened_68 {SC : Nat → Nat} {X : mh_X} {d : Nat} {Q : Option am_V → am_W → Prop} {bc bs : Nat} {w : am_W} {x3 : Int} {j1 : Nat} {x2 : Int} {xs0 : Int}
    (h : ((xs0 = 0 → Q (some (.inl x3)) w) ∧ (¬ xs0 = 0 → Q (some (.inl (w.1 10 j1 13))) w))) :
    am_A (mh_G X) SC (d + 1) mX4_lightened Q 68 [(3, .inl x3), (0, .inr (.inr (some (6, 0)))), (1, .inr (.inr (some (10, j1)))), (2, .inl x2)] [.inl xs0] w bc bs := by
  refine am_ifeq (tgt := 76) dX4_lightened_68 (by decide) (fun c1 => ?_) (fun c1 => ?_)
  · replace h := h.1 c1
    refine am_iload_n dX4_lightened_76 (List.Mem.head _) ?_
    exact am_ret (r := some (.inl x3)) dX4_lightened_77 (Or.inl rfl) rfl h
  · replace h := h.2 c1
    refine am_aload_n dX4_lightened_71 (List.Mem.tail _ (List.Mem.tail _ (List.Mem.head _))) ?_
    refine am_getf (f := 13) (v := .inl (w.1 10 j1 13)) dX4_lightened_72 hc_4 (by decide) wd_235 (by decide) rfl rfl ?_
    exact am_ret (r := some (.inl (w.1 10 j1 13))) dX4_lightened_75 (Or.inl rfl) rfl h
-- MourningHouse$Mourner.isTooYoung(LMourningHouse$Law;I)Z
theorem dX4_isTooYoung_0 : decode mX4_isTooYoung.2.1 0 = .ok (.aload_n 1, 1) := by decide +kernel
theorem dX4_isTooYoung_1 : decode mX4_isTooYoung.2.1 1 = .ok (.ifnull 40, 3) := by decide +kernel
theorem dX4_isTooYoung_4 : decode mX4_isTooYoung.2.1 4 = .ok (.aload_n 1, 1) := by decide +kernel
theorem dX4_isTooYoung_5 : decode mX4_isTooYoung.2.1 5 = .ok (.getfield 200, 3) := by decide +kernel
theorem dX4_isTooYoung_8 : decode mX4_isTooYoung.2.1 8 = .ok (.ifCond .le 33, 3) := by decide +kernel
theorem dX4_isTooYoung_11 : decode mX4_isTooYoung.2.1 11 = .ok (.aload_n 0, 1) := by decide +kernel
theorem dX4_isTooYoung_12 : decode mX4_isTooYoung.2.1 12 = .ok (.getfield 41, 3) := by decide +kernel
theorem dX4_isTooYoung_15 : decode mX4_isTooYoung.2.1 15 = .ok (.getfield 107, 3) := by decide +kernel
theorem dX4_isTooYoung_18 : decode mX4_isTooYoung.2.1 18 = .ok (.aload_n 0, 1) := by decide +kernel
theorem dX4_isTooYoung_19 : decode mX4_isTooYoung.2.1 19 = .ok (.getfield 23, 3) := by decide +kernel
theorem dX4_isTooYoung_22 : decode mX4_isTooYoung.2.1 22 = .ok (.iaload, 1) := by decide +kernel
theorem dX4_isTooYoung_23 : decode mX4_isTooYoung.2.1 23 = .ok (.aload_n 1, 1) := by decide +kernel
theorem dX4_isTooYoung_24 : decode mX4_isTooYoung.2.1 24 = .ok (.getfield 200, 3) := by decide +kernel
theorem dX4_isTooYoung_27 : decode mX4_isTooYoung.2.1 27 = .ok (.bipush 12, 2) := by decide +kernel
theorem dX4_isTooYoung_29 : decode mX4_isTooYoung.2.1 29 = .ok (.imul, 1) := by decide +kernel
theorem dX4_isTooYoung_30 : decode mX4_isTooYoung.2.1 30 = .ok (.invokestatic 203, 3) := by decide +kernel
theorem dX4_isTooYoung_33 : decode mX4_isTooYoung.2.1 33 = .ok (.iload_n 2, 1) := by decide +kernel
theorem dX4_isTooYoung_34 : decode mX4_isTooYoung.2.1 34 = .ok (.if_icmp .le 7, 3) := by decide +kernel
theorem dX4_isTooYoung_37 : decode mX4_isTooYoung.2.1 37 = .ok (.iconst 1, 1) := by decide +kernel
theorem dX4_isTooYoung_38 : decode mX4_isTooYoung.2.1 38 = .ok (.goto 4, 3) := by decide +kernel
theorem dX4_isTooYoung_41 : decode mX4_isTooYoung.2.1 41 = .ok (.iconst 0, 1) := by decide +kernel
theorem dX4_isTooYoung_42 : decode mX4_isTooYoung.2.1 42 = .ok (.ireturn, 1) := by decide +kernel
theorem bX4_isTooYoung_0 {SC : Nat → Nat} {X : mh_X} {d : Nat} {Q : Option am_V → am_W → Prop} {bc bs : Nat} {w : am_W} {j1 : Nat} {x2 : Int}
    (h : (((w.1 10 j1 14) ≤ 0 → Q (some (.inl 0)) w) ∧ (¬ (w.1 10 j1 14) ≤ 0 → (0 ≤ (w.1 6 0 4) ∧ ((w.1 6 0 4) < 40 ∧ am_M (mh_G X) SC d 0 0 mX0_later [.inl (w.1 37 0 (w.1 6 0 4).toNat), .inl (am_w ((w.1 10 j1 14) * 12))] w (fun r w1 => am_A (mh_G X) SC (d + 1) mX4_isTooYoung Q 33 [(0, .inr (.inr (some (6, 0)))), (1, .inr (.inr (some (10, j1)))), (2, .inl x2)] (r.toList ++ []) w1 bc bs)))))) :
    am_A (mh_G X) SC (d + 1) mX4_isTooYoung Q 0 [(0, .inr (.inr (some (6, 0)))), (1, .inr (.inr (some (10, j1)))), (2, .inl x2)] [] w bc bs := by
  refine am_aload_n dX4_isTooYoung_0 (List.Mem.tail _ (List.Mem.head _)) ?_
  refine am_ifnull (tgt := 41) dX4_isTooYoung_1 (by decide) (fun e => by cases e) (fun _ => ?_)
  refine am_aload_n dX4_isTooYoung_4 (List.Mem.tail _ (List.Mem.head _)) ?_
  refine am_getf (f := 14) (v := .inl (w.1 10 j1 14)) dX4_isTooYoung_5 hc_4 (by decide) wd_238 (by decide) rfl rfl ?_
  refine am_ifle (tgt := 41) dX4_isTooYoung_8 (by decide) (fun c1 => ?_) (fun c1 => ?_)
  · replace h := h.1 c1
    refine am_iconst dX4_isTooYoung_41 (by unfold am_rg; omega) ?_
    exact am_ret (r := some (.inl 0)) dX4_isTooYoung_42 (Or.inr (Or.inl ⟨rfl, (Or.inl rfl)⟩)) rfl h
  · replace h := h.2 c1
    refine am_aload_n dX4_isTooYoung_11 (List.Mem.head _) ?_
    refine am_getf (f := 0) (v := .inr (.inr (some (5, 0)))) dX4_isTooYoung_12 hc_6 (by decide) wd_438 (by decide) rfl rfl ?_
    refine am_getf (f := 4) (v := .inr (.inr (some (37, 0)))) dX4_isTooYoung_15 hc_5 (by decide) wd_321 (by decide) rfl rfl ?_
    refine am_aload_n dX4_isTooYoung_18 (List.Mem.head _) ?_
    refine am_getf (f := 4) (v := .inl (w.1 6 0 4)) dX4_isTooYoung_19 hc_6 (by decide) wd_442 (by decide) rfl rfl ?_
    have o2 := h.1
    replace h := h.2
    have o3 := h.1
    replace h := h.2
    refine am_iaload (v := (w.1 37 0 (w.1 6 0 4).toNat)) dX4_isTooYoung_22 (by decide) rfl o2 o3 rfl ?_
    refine am_aload_n dX4_isTooYoung_23 (List.Mem.tail _ (List.Mem.head _)) ?_
    refine am_getf (f := 14) (v := .inl (w.1 10 j1 14)) dX4_isTooYoung_24 hc_4 (by decide) wd_238 (by decide) rfl rfl ?_
    refine am_bipush dX4_isTooYoung_27 (by decide) (by unfold am_rg; omega) ?_
    refine am_imul dX4_isTooYoung_29 ?_
    exact am_calls (d' := d) (kc := 0) (ks := 0) (as := [.inl (w.1 37 0 (w.1 6 0 4).toNat), .inl (am_w ((w.1 10 j1 14) * 12))]) dX4_isTooYoung_30 wc_X0_later wd_1287 wd_1034 wd_129 ds_X0_later (by decide) (Nat.le_refl _) (Nat.le_of_ble_eq_true rfl) (Nat.zero_le _) (Nat.zero_le _) rfl h
theorem bX4_isTooYoung_33 {SC : Nat → Nat} {X : mh_X} {d : Nat} {Q : Option am_V → am_W → Prop} {bc bs : Nat} {w : am_W} {j1 : Nat} {x2 : Int} {xs0 : Int}
    (h : ((xs0 ≤ x2 → Q (some (.inl 0)) w) ∧ (¬ xs0 ≤ x2 → Q (some (.inl 1)) w))) :
    am_A (mh_G X) SC (d + 1) mX4_isTooYoung Q 33 [(0, .inr (.inr (some (6, 0)))), (1, .inr (.inr (some (10, j1)))), (2, .inl x2)] [.inl xs0] w bc bs := by
  refine am_iload_n dX4_isTooYoung_33 (List.Mem.tail _ (List.Mem.tail _ (List.Mem.head _))) ?_
  refine am_icmple (tgt := 41) dX4_isTooYoung_34 (by decide) (fun c1 => ?_) (fun c1 => ?_)
  · replace h := h.1 c1
    refine am_iconst dX4_isTooYoung_41 (by unfold am_rg; omega) ?_
    exact am_ret (r := some (.inl 0)) dX4_isTooYoung_42 (Or.inr (Or.inl ⟨rfl, (Or.inl rfl)⟩)) rfl h
  · replace h := h.2 c1
    refine am_iconst dX4_isTooYoung_37 (by unfold am_rg; omega) ?_
    refine am_goto (tgt := 42) dX4_isTooYoung_38 (by decide) ?_
    exact am_ret (r := some (.inl 1)) dX4_isTooYoung_42 (Or.inr (Or.inl ⟨rfl, (Or.inr rfl)⟩)) rfl h
-- MourningHouse$Mourner.isAllowed(II)Z
theorem dX4_isAllowed_0 : decode mX4_isAllowed.2.1 0 = .ok (.aload_n 0, 1) := by decide +kernel
theorem dX4_isAllowed_1 : decode mX4_isAllowed.2.1 1 = .ok (.iload_n 2, 1) := by decide +kernel
theorem dX4_isAllowed_2 : decode mX4_isAllowed.2.1 2 = .ok (.invokevirtual 206, 3) := by decide +kernel
theorem dX4_isAllowed_5 : decode mX4_isAllowed.2.1 5 = .ok (.istore_n 3, 1) := by decide +kernel
theorem dX4_isAllowed_6 : decode mX4_isAllowed.2.1 6 = .ok (.iload_n 3, 1) := by decide +kernel
theorem dX4_isAllowed_7 : decode mX4_isAllowed.2.1 7 = .ok (.iconst (-1), 1) := by decide +kernel
theorem dX4_isAllowed_8 : decode mX4_isAllowed.2.1 8 = .ok (.if_icmp .ne 5, 3) := by decide +kernel
theorem dX4_isAllowed_11 : decode mX4_isAllowed.2.1 11 = .ok (.iconst 0, 1) := by decide +kernel
theorem dX4_isAllowed_12 : decode mX4_isAllowed.2.1 12 = .ok (.ireturn, 1) := by decide +kernel
theorem dX4_isAllowed_13 : decode mX4_isAllowed.2.1 13 = .ok (.aload_n 0, 1) := by decide +kernel
theorem dX4_isAllowed_14 : decode mX4_isAllowed.2.1 14 = .ok (.getfield 45, 3) := by decide +kernel
theorem dX4_isAllowed_17 : decode mX4_isAllowed.2.1 17 = .ok (.iload_n 2, 1) := by decide +kernel
theorem dX4_isAllowed_18 : decode mX4_isAllowed.2.1 18 = .ok (.aload_n 0, 1) := by decide +kernel
theorem dX4_isAllowed_19 : decode mX4_isAllowed.2.1 19 = .ok (.getfield 26, 3) := by decide +kernel
theorem dX4_isAllowed_22 : decode mX4_isAllowed.2.1 22 = .ok (.invokevirtual 62, 3) := by decide +kernel
theorem dX4_isAllowed_25 : decode mX4_isAllowed.2.1 25 = .ok (.astore 4, 2) := by decide +kernel
theorem dX4_isAllowed_27 : decode mX4_isAllowed.2.1 27 = .ok (.aload 4, 2) := by decide +kernel
theorem dX4_isAllowed_29 : decode mX4_isAllowed.2.1 29 = .ok (.ifnull 14, 3) := by decide +kernel
theorem dX4_isAllowed_32 : decode mX4_isAllowed.2.1 32 = .ok (.iload_n 3, 1) := by decide +kernel
theorem dX4_isAllowed_33 : decode mX4_isAllowed.2.1 33 = .ok (.aload 4, 2) := by decide +kernel
theorem dX4_isAllowed_35 : decode mX4_isAllowed.2.1 35 = .ok (.getfield 209, 3) := by decide +kernel
theorem dX4_isAllowed_38 : decode mX4_isAllowed.2.1 38 = .ok (.iload_n 1, 1) := by decide +kernel
theorem dX4_isAllowed_39 : decode mX4_isAllowed.2.1 39 = .ok (.iaload, 1) := by decide +kernel
theorem dX4_isAllowed_40 : decode mX4_isAllowed.2.1 40 = .ok (.if_icmp .gt 7, 3) := by decide +kernel
theorem dX4_isAllowed_43 : decode mX4_isAllowed.2.1 43 = .ok (.iconst 1, 1) := by decide +kernel
theorem dX4_isAllowed_44 : decode mX4_isAllowed.2.1 44 = .ok (.goto 4, 3) := by decide +kernel
theorem dX4_isAllowed_47 : decode mX4_isAllowed.2.1 47 = .ok (.iconst 0, 1) := by decide +kernel
theorem dX4_isAllowed_48 : decode mX4_isAllowed.2.1 48 = .ok (.ireturn, 1) := by decide +kernel
theorem bX4_isAllowed_0 {SC : Nat → Nat} {X : mh_X} {d : Nat} {Q : Option am_V → am_W → Prop} {bc bs : Nat} {w : am_W} {x1 : Int} {x2 : Int}
    (h : am_M (mh_G X) SC d 0 0 mX4_depthOn [.inr (.inr (some (6, 0))), .inl x2] w (fun r w1 => am_A (mh_G X) SC (d + 1) mX4_isAllowed Q 5 [(0, .inr (.inr (some (6, 0)))), (1, .inl x1), (2, .inl x2)] (r.toList ++ []) w1 bc bs)) :
    am_A (mh_G X) SC (d + 1) mX4_isAllowed Q 0 [(0, .inr (.inr (some (6, 0)))), (1, .inl x1), (2, .inl x2)] [] w bc bs := by
  refine am_aload_n dX4_isAllowed_0 (List.Mem.head _) ?_
  refine am_iload_n dX4_isAllowed_1 (List.Mem.tail _ (List.Mem.tail _ (List.Mem.head _))) ?_
  exact am_callv (d' := d) (kc := 0) (ks := 0) (as := [.inl x2]) dX4_isAllowed_2 wc_X4_depthOn wd_1306 wd_1239 wd_1240 wd_118 ds_X4_depthOn (by decide) (Nat.le_refl _) (Nat.le_of_ble_eq_true rfl) (Nat.zero_le _) (Nat.zero_le _) hc_6 (by decide) rfl rfl h
theorem bX4_isAllowed_5 {SC : Nat → Nat} {X : mh_X} {d : Nat} {Q : Option am_V → am_W → Prop} {bc bs : Nat} {w : am_W} {x1 : Int} {x2 : Int} {xs0 : Int}
    (h : ((¬ xs0 = (-1) → am_M (mh_G X) SC d 0 0 mX1_lawOn [.inr (.inr (some (4, 0))), .inl x2, .inl (w.1 6 0 5)] w (fun r w1 => am_A (mh_G X) SC (d + 1) mX4_isAllowed Q 25 [(3, .inl xs0), (0, .inr (.inr (some (6, 0)))), (1, .inl x1), (2, .inl x2)] (r.toList ++ []) w1 bc bs)) ∧ (xs0 = (-1) → Q (some (.inl 0)) w))) :
    am_A (mh_G X) SC (d + 1) mX4_isAllowed Q 5 [(0, .inr (.inr (some (6, 0)))), (1, .inl x1), (2, .inl x2)] [.inl xs0] w bc bs := by
  refine am_istore_n (ls' := [(3, .inl xs0), (0, .inr (.inr (some (6, 0)))), (1, .inl x1), (2, .inl x2)]) dX4_isAllowed_5 (by decide) rfl ?_
  refine am_iload_n dX4_isAllowed_6 (List.Mem.head _) ?_
  refine am_iconst dX4_isAllowed_7 (by unfold am_rg; omega) ?_
  refine am_icmpne (tgt := 13) dX4_isAllowed_8 (by decide) (fun c1 => ?_) (fun c1 => ?_)
  · replace h := h.1 c1
    refine am_aload_n dX4_isAllowed_13 (List.Mem.tail _ (List.Mem.head _)) ?_
    refine am_getf (f := 1) (v := .inr (.inr (some (4, 0)))) dX4_isAllowed_14 hc_6 (by decide) wd_439 (by decide) rfl rfl ?_
    refine am_iload_n dX4_isAllowed_17 (List.Mem.tail _ (List.Mem.tail _ (List.Mem.tail _ (List.Mem.head _)))) ?_
    refine am_aload_n dX4_isAllowed_18 (List.Mem.tail _ (List.Mem.head _)) ?_
    refine am_getf (f := 5) (v := .inl (w.1 6 0 5)) dX4_isAllowed_19 hc_6 (by decide) wd_443 (by decide) rfl rfl ?_
    exact am_callv (d' := d) (kc := 0) (ks := 0) (as := [.inl x2, .inl (w.1 6 0 5)]) dX4_isAllowed_22 wc_X1_lawOn wd_1169 wd_1170 wd_1171 wd_115 ds_X1_lawOn (by decide) (Nat.le_refl _) (Nat.le_of_ble_eq_true rfl) (Nat.zero_le _) (Nat.zero_le _) hc_3 (by decide) rfl rfl h
  · replace h := h.2 c1
    refine am_iconst dX4_isAllowed_11 (by unfold am_rg; omega) ?_
    exact am_ret (r := some (.inl 0)) dX4_isAllowed_12 (Or.inr (Or.inl ⟨rfl, (Or.inl rfl)⟩)) rfl h
theorem bX4_isAllowed_25 {SC : Nat → Nat} {X : mh_X} {d : Nat} {Q : Option am_V → am_W → Prop} {bc bs : Nat} {w : am_W} {x3 : Int} {x1 : Int} {x2 : Int}
    (h : Q (some (.inl 1)) w) :
    am_A (mh_G X) SC (d + 1) mX4_isAllowed Q 25 [(3, .inl x3), (0, .inr (.inr (some (6, 0)))), (1, .inl x1), (2, .inl x2)] [.inr (.inr none)] w bc bs := by
  refine am_astore (ls' := [(4, .inr (.inr none)), (3, .inl x3), (0, .inr (.inr (some (6, 0)))), (1, .inl x1), (2, .inl x2)]) dX4_isAllowed_25 (by decide) rfl ?_
  refine am_aload dX4_isAllowed_27 (List.Mem.head _) ?_
  refine am_ifnull (tgt := 43) dX4_isAllowed_29 (by decide) (fun _ => ?_) (fun e => absurd rfl e)
  refine am_iconst dX4_isAllowed_43 (by unfold am_rg; omega) ?_
  refine am_goto (tgt := 48) dX4_isAllowed_44 (by decide) ?_
  exact am_ret (r := some (.inl 1)) dX4_isAllowed_48 (Or.inr (Or.inl ⟨rfl, (Or.inr rfl)⟩)) rfl h
theorem bX4_isAllowed_25a {SC : Nat → Nat} {X : mh_X} {d : Nat} {Q : Option am_V → am_W → Prop} {bc bs : Nat} {w : am_W} {x3 : Int} {x1 : Int} {x2 : Int} {js0 : Nat}
    (h : (0 ≤ x1 ∧ (x1 < 4 ∧ (((w.1 153 js0 x1.toNat) < x3 → Q (some (.inl 0)) w) ∧ (¬ (w.1 153 js0 x1.toNat) < x3 → Q (some (.inl 1)) w))))) :
    am_A (mh_G X) SC (d + 1) mX4_isAllowed Q 25 [(3, .inl x3), (0, .inr (.inr (some (6, 0)))), (1, .inl x1), (2, .inl x2)] [.inr (.inr (some (10, js0)))] w bc bs := by
  refine am_astore (ls' := [(4, .inr (.inr (some (10, js0)))), (3, .inl x3), (0, .inr (.inr (some (6, 0)))), (1, .inl x1), (2, .inl x2)]) dX4_isAllowed_25 (by decide) rfl ?_
  refine am_aload dX4_isAllowed_27 (List.Mem.head _) ?_
  refine am_ifnull (tgt := 43) dX4_isAllowed_29 (by decide) (fun e => by cases e) (fun _ => ?_)
  refine am_iload_n dX4_isAllowed_32 (List.Mem.tail _ (List.Mem.head _)) ?_
  refine am_aload dX4_isAllowed_33 (List.Mem.head _) ?_
  refine am_getf (f := 9) (v := .inr (.inr (some (153, js0)))) dX4_isAllowed_35 hc_4 (by decide) wd_225 (by decide) rfl rfl ?_
  refine am_iload_n dX4_isAllowed_38 (List.Mem.tail _ (List.Mem.tail _ (List.Mem.tail _ (List.Mem.head _)))) ?_
  have o1 := h.1
  replace h := h.2
  have o2 := h.1
  replace h := h.2
  refine am_iaload (v := (w.1 153 js0 x1.toNat)) dX4_isAllowed_39 (by decide) rfl o1 o2 rfl ?_
  refine am_icmpgt (tgt := 47) dX4_isAllowed_40 (by decide) (fun c3 => ?_) (fun c3 => ?_)
  · replace h := h.1 c3
    refine am_iconst dX4_isAllowed_47 (by unfold am_rg; omega) ?_
    exact am_ret (r := some (.inl 0)) dX4_isAllowed_48 (Or.inr (Or.inl ⟨rfl, (Or.inl rfl)⟩)) rfl h
  · replace h := h.2 c3
    refine am_iconst dX4_isAllowed_43 (by unfold am_rg; omega) ?_
    refine am_goto (tgt := 48) dX4_isAllowed_44 (by decide) ?_
    exact am_ret (r := some (.inl 1)) dX4_isAllowed_48 (Or.inr (Or.inl ⟨rfl, (Or.inr rfl)⟩)) rfl h
-- MourningHouse$Mourner.edgeOn(I)I
theorem dX4_edgeOn_0 : decode mX4_edgeOn.2.1 0 = .ok (.aload_n 0, 1) := by decide +kernel
theorem dX4_edgeOn_1 : decode mX4_edgeOn.2.1 1 = .ok (.iload_n 1, 1) := by decide +kernel
theorem dX4_edgeOn_2 : decode mX4_edgeOn.2.1 2 = .ok (.invokevirtual 206, 3) := by decide +kernel
theorem dX4_edgeOn_5 : decode mX4_edgeOn.2.1 5 = .ok (.istore_n 2, 1) := by decide +kernel
theorem dX4_edgeOn_6 : decode mX4_edgeOn.2.1 6 = .ok (.iload_n 2, 1) := by decide +kernel
theorem dX4_edgeOn_7 : decode mX4_edgeOn.2.1 7 = .ok (.ifCond .gt 5, 3) := by decide +kernel
theorem dX4_edgeOn_10 : decode mX4_edgeOn.2.1 10 = .ok (.iload_n 2, 1) := by decide +kernel
theorem dX4_edgeOn_11 : decode mX4_edgeOn.2.1 11 = .ok (.ireturn, 1) := by decide +kernel
theorem dX4_edgeOn_12 : decode mX4_edgeOn.2.1 12 = .ok (.iconst 0, 1) := by decide +kernel
theorem dX4_edgeOn_13 : decode mX4_edgeOn.2.1 13 = .ok (.istore_n 3, 1) := by decide +kernel
theorem dX4_edgeOn_14 : decode mX4_edgeOn.2.1 14 = .ok (.iconst 0, 1) := by decide +kernel
theorem dX4_edgeOn_15 : decode mX4_edgeOn.2.1 15 = .ok (.istore 4, 2) := by decide +kernel
theorem dX4_edgeOn_17 : decode mX4_edgeOn.2.1 17 = .ok (.iload 4, 2) := by decide +kernel
theorem dX4_edgeOn_19 : decode mX4_edgeOn.2.1 19 = .ok (.aload_n 0, 1) := by decide +kernel
theorem dX4_edgeOn_20 : decode mX4_edgeOn.2.1 20 = .ok (.getfield 19, 3) := by decide +kernel
theorem dX4_edgeOn_23 : decode mX4_edgeOn.2.1 23 = .ok (.if_icmp .ge 38, 3) := by decide +kernel
theorem dX4_edgeOn_26 : decode mX4_edgeOn.2.1 26 = .ok (.aload_n 0, 1) := by decide +kernel
theorem dX4_edgeOn_27 : decode mX4_edgeOn.2.1 27 = .ok (.getfield 15, 3) := by decide +kernel
theorem dX4_edgeOn_30 : decode mX4_edgeOn.2.1 30 = .ok (.iload 4, 2) := by decide +kernel
theorem dX4_edgeOn_32 : decode mX4_edgeOn.2.1 32 = .ok (.aaload, 1) := by decide +kernel
theorem dX4_edgeOn_33 : decode mX4_edgeOn.2.1 33 = .ok (.getfield 158, 3) := by decide +kernel
theorem dX4_edgeOn_36 : decode mX4_edgeOn.2.1 36 = .ok (.istore 5, 2) := by decide +kernel
theorem dX4_edgeOn_38 : decode mX4_edgeOn.2.1 38 = .ok (.iload_n 1, 1) := by decide +kernel
theorem dX4_edgeOn_39 : decode mX4_edgeOn.2.1 39 = .ok (.iload 5, 2) := by decide +kernel
theorem dX4_edgeOn_41 : decode mX4_edgeOn.2.1 41 = .ok (.if_icmp .lt 14, 3) := by decide +kernel
theorem dX4_edgeOn_44 : decode mX4_edgeOn.2.1 44 = .ok (.iload_n 1, 1) := by decide +kernel
theorem dX4_edgeOn_45 : decode mX4_edgeOn.2.1 45 = .ok (.iload 5, 2) := by decide +kernel
theorem dX4_edgeOn_47 : decode mX4_edgeOn.2.1 47 = .ok (.bipush 30, 2) := by decide +kernel
theorem dX4_edgeOn_49 : decode mX4_edgeOn.2.1 49 = .ok (.iadd, 1) := by decide +kernel
theorem dX4_edgeOn_50 : decode mX4_edgeOn.2.1 50 = .ok (.if_icmp .ge 5, 3) := by decide +kernel
theorem dX4_edgeOn_53 : decode mX4_edgeOn.2.1 53 = .ok (.iconst 2, 1) := by decide +kernel
theorem dX4_edgeOn_54 : decode mX4_edgeOn.2.1 54 = .ok (.istore_n 3, 1) := by decide +kernel
theorem dX4_edgeOn_55 : decode mX4_edgeOn.2.1 55 = .ok (.iinc 4 1, 3) := by decide +kernel
theorem dX4_edgeOn_58 : decode mX4_edgeOn.2.1 58 = .ok (.goto (-41), 3) := by decide +kernel
theorem dX4_edgeOn_61 : decode mX4_edgeOn.2.1 61 = .ok (.iload_n 2, 1) := by decide +kernel
theorem dX4_edgeOn_62 : decode mX4_edgeOn.2.1 62 = .ok (.iconst 2, 1) := by decide +kernel
theorem dX4_edgeOn_63 : decode mX4_edgeOn.2.1 63 = .ok (.imul, 1) := by decide +kernel
theorem dX4_edgeOn_64 : decode mX4_edgeOn.2.1 64 = .ok (.iload_n 3, 1) := by decide +kernel
theorem dX4_edgeOn_65 : decode mX4_edgeOn.2.1 65 = .ok (.iadd, 1) := by decide +kernel
theorem dX4_edgeOn_66 : decode mX4_edgeOn.2.1 66 = .ok (.ireturn, 1) := by decide +kernel
theorem bX4_edgeOn_0 {SC : Nat → Nat} {X : mh_X} {d : Nat} {Q : Option am_V → am_W → Prop} {bc bs : Nat} {w : am_W} {x1 : Int}
    (h : am_M (mh_G X) SC d 0 0 mX4_depthOn [.inr (.inr (some (6, 0))), .inl x1] w (fun r w1 => am_A (mh_G X) SC (d + 1) mX4_edgeOn Q 5 [(0, .inr (.inr (some (6, 0)))), (1, .inl x1)] (r.toList ++ []) w1 bc bs)) :
    am_A (mh_G X) SC (d + 1) mX4_edgeOn Q 0 [(0, .inr (.inr (some (6, 0)))), (1, .inl x1)] [] w bc bs := by
  refine am_aload_n dX4_edgeOn_0 (List.Mem.head _) ?_
  refine am_iload_n dX4_edgeOn_1 (List.Mem.tail _ (List.Mem.head _)) ?_
  exact am_callv (d' := d) (kc := 0) (ks := 0) (as := [.inl x1]) dX4_edgeOn_2 wc_X4_depthOn wd_1306 wd_1239 wd_1240 wd_118 ds_X4_depthOn (by decide) (Nat.le_refl _) (Nat.le_of_ble_eq_true rfl) (Nat.zero_le _) (Nat.zero_le _) hc_6 (by decide) rfl rfl h
theorem bX4_edgeOn_5 {SC : Nat → Nat} {X : mh_X} {d : Nat} {Q : Option am_V → am_W → Prop} {bc bs : Nat} {w : am_W} {x1 : Int} {xs0 : Int}
    (h : ((0 < xs0 → am_A (mh_G X) SC (d + 1) mX4_edgeOn Q 17 [(0, .inr (.inr (some (6, 0)))), (1, .inl x1), (2, .inl xs0), (3, .inl 0), (4, .inl 0)] [] w bc bs) ∧ (¬ 0 < xs0 → Q (some (.inl xs0)) w))) :
    am_A (mh_G X) SC (d + 1) mX4_edgeOn Q 5 [(0, .inr (.inr (some (6, 0)))), (1, .inl x1)] [.inl xs0] w bc bs := by
  refine am_istore_n (ls' := [(2, .inl xs0), (0, .inr (.inr (some (6, 0)))), (1, .inl x1)]) dX4_edgeOn_5 (by decide) rfl ?_
  refine am_iload_n dX4_edgeOn_6 (List.Mem.head _) ?_
  refine am_ifgt (tgt := 12) dX4_edgeOn_7 (by decide) (fun c1 => ?_) (fun c1 => ?_)
  · replace h := h.1 c1
    refine am_iconst dX4_edgeOn_12 (by unfold am_rg; omega) ?_
    refine am_istore_n (ls' := [(3, .inl 0), (2, .inl xs0), (0, .inr (.inr (some (6, 0)))), (1, .inl x1)]) dX4_edgeOn_13 (by decide) rfl ?_
    refine am_iconst dX4_edgeOn_14 (by unfold am_rg; omega) ?_
    refine am_istore (ls' := [(4, .inl 0), (3, .inl 0), (2, .inl xs0), (0, .inr (.inr (some (6, 0)))), (1, .inl x1)]) dX4_edgeOn_15 (by decide) rfl ?_
    exact am_sub [3, 4, 2, 1, 0] rfl h
  · replace h := h.2 c1
    refine am_iload_n dX4_edgeOn_10 (List.Mem.head _) ?_
    exact am_ret (r := some (.inl xs0)) dX4_edgeOn_11 (Or.inl rfl) rfl h
theorem bX4_edgeOn_17 {SC : Nat → Nat} {X : mh_X} {d : Nat} {Q : Option am_V → am_W → Prop} {bc bs : Nat} {w : am_W} {x1 : Int} {x2 : Int} {x3 : Int} {x4 : Int}
    (h : (((w.1 6 0 3) ≤ x4 → Q (some (.inl (am_w ((am_w (x2 * 2)) + x3)))) w) ∧ (¬ (w.1 6 0 3) ≤ x4 → (0 ≤ x4 ∧ (x4 < 40 ∧ ((x1 < (w.1 11 x4.toNat 4) → am_A (mh_G X) SC (d + 1) mX4_edgeOn Q 55 [(0, .inr (.inr (some (6, 0)))), (1, .inl x1), (2, .inl x2), (3, .inl x3), (4, .inl x4)] [] w bc bs) ∧ (¬ x1 < (w.1 11 x4.toNat 4) → (((am_w ((w.1 11 x4.toNat 4) + 30)) ≤ x1 → am_A (mh_G X) SC (d + 1) mX4_edgeOn Q 55 [(0, .inr (.inr (some (6, 0)))), (1, .inl x1), (2, .inl x2), (3, .inl x3), (4, .inl x4)] [] w bc bs) ∧ (¬ (am_w ((w.1 11 x4.toNat 4) + 30)) ≤ x1 → am_A (mh_G X) SC (d + 1) mX4_edgeOn Q 55 [(0, .inr (.inr (some (6, 0)))), (1, .inl x1), (2, .inl x2), (3, .inl 2), (4, .inl x4)] [] w bc bs))))))))) :
    am_A (mh_G X) SC (d + 1) mX4_edgeOn Q 17 [(0, .inr (.inr (some (6, 0)))), (1, .inl x1), (2, .inl x2), (3, .inl x3), (4, .inl x4)] [] w bc bs := by
  refine am_iload dX4_edgeOn_17 (List.Mem.tail _ (List.Mem.tail _ (List.Mem.tail _ (List.Mem.tail _ (List.Mem.head _))))) ?_
  refine am_aload_n dX4_edgeOn_19 (List.Mem.head _) ?_
  refine am_getf (f := 3) (v := .inl (w.1 6 0 3)) dX4_edgeOn_20 hc_6 (by decide) wd_441 (by decide) rfl rfl ?_
  refine am_icmpge (tgt := 61) dX4_edgeOn_23 (by decide) (fun c1 => ?_) (fun c1 => ?_)
  · replace h := h.1 c1
    refine am_iload_n dX4_edgeOn_61 (List.Mem.tail _ (List.Mem.tail _ (List.Mem.head _))) ?_
    refine am_iconst dX4_edgeOn_62 (by unfold am_rg; omega) ?_
    refine am_imul dX4_edgeOn_63 ?_
    refine am_iload_n dX4_edgeOn_64 (List.Mem.tail _ (List.Mem.tail _ (List.Mem.tail _ (List.Mem.head _)))) ?_
    refine am_iadd dX4_edgeOn_65 ?_
    exact am_ret (r := some (.inl (am_w ((am_w (x2 * 2)) + x3)))) dX4_edgeOn_66 (Or.inl rfl) rfl h
  · replace h := h.2 c1
    refine am_aload_n dX4_edgeOn_26 (List.Mem.head _) ?_
    refine am_getf (f := 2) (v := .inr (.inr (some (49, 0)))) dX4_edgeOn_27 hc_6 (by decide) wd_440 (by decide) rfl rfl ?_
    refine am_iload dX4_edgeOn_30 (List.Mem.tail _ (List.Mem.tail _ (List.Mem.tail _ (List.Mem.tail _ (List.Mem.head _))))) ?_
    have o2 := h.1
    replace h := h.2
    have o3 := h.1
    replace h := h.2
    refine am_aaload (kd := 8) (r := some (11, x4.toNat)) dX4_edgeOn_32 (by decide) rfl (by decide) (by decide) o2 o3 rfl ?_
    refine am_getf (f := 4) (v := .inl (w.1 11 x4.toNat 4)) dX4_edgeOn_33 hc_7 (by decide) wd_405 (by decide) rfl rfl ?_
    refine am_istore (ls' := [(5, .inl (w.1 11 x4.toNat 4)), (0, .inr (.inr (some (6, 0)))), (1, .inl x1), (2, .inl x2), (3, .inl x3), (4, .inl x4)]) dX4_edgeOn_36 (by decide) rfl ?_
    refine am_iload_n dX4_edgeOn_38 (List.Mem.tail _ (List.Mem.tail _ (List.Mem.head _))) ?_
    refine am_iload dX4_edgeOn_39 (List.Mem.head _) ?_
    refine am_icmplt (tgt := 55) dX4_edgeOn_41 (by decide) (fun c4 => ?_) (fun c4 => ?_)
    · replace h := h.1 c4
      exact am_sub [1, 2, 3, 4, 5] rfl h
    · replace h := h.2 c4
      refine am_iload_n dX4_edgeOn_44 (List.Mem.tail _ (List.Mem.tail _ (List.Mem.head _))) ?_
      refine am_iload dX4_edgeOn_45 (List.Mem.head _) ?_
      refine am_bipush dX4_edgeOn_47 (by decide) (by unfold am_rg; omega) ?_
      refine am_iadd dX4_edgeOn_49 ?_
      refine am_icmpge (tgt := 55) dX4_edgeOn_50 (by decide) (fun c5 => ?_) (fun c5 => ?_)
      · replace h := h.1 c5
        exact am_sub [1, 2, 3, 4, 5] rfl h
      · replace h := h.2 c5
        refine am_iconst dX4_edgeOn_53 (by unfold am_rg; omega) ?_
        refine am_istore_n (ls' := [(3, .inl 2), (5, .inl (w.1 11 x4.toNat 4)), (0, .inr (.inr (some (6, 0)))), (1, .inl x1), (2, .inl x2), (4, .inl x4)]) dX4_edgeOn_54 (by decide) rfl ?_
        exact am_sub [2, 3, 4, 0, 5] rfl h
theorem bX4_edgeOn_55 {SC : Nat → Nat} {X : mh_X} {d : Nat} {Q : Option am_V → am_W → Prop} {bc bs : Nat} {w : am_W} {x1 : Int} {x2 : Int} {x3 : Int} {x4 : Int}
    (h : am_A (mh_G X) SC (d + 1) mX4_edgeOn Q 17 [(0, .inr (.inr (some (6, 0)))), (1, .inl x1), (2, .inl x2), (3, .inl x3), (4, .inl (am_w (x4 + 1)))] [] w bc bs) :
    am_A (mh_G X) SC (d + 1) mX4_edgeOn Q 55 [(0, .inr (.inr (some (6, 0)))), (1, .inl x1), (2, .inl x2), (3, .inl x3), (4, .inl x4)] [] w bc bs := by
  refine am_iinc (ls' := [(4, .inl (am_w (x4 + 1))), (0, .inr (.inr (some (6, 0)))), (1, .inl x1), (2, .inl x2), (3, .inl x3)]) dX4_edgeOn_55 (List.Mem.tail _ (List.Mem.tail _ (List.Mem.tail _ (List.Mem.tail _ (List.Mem.head _))))) (by decide) rfl ?_
  refine am_goto (tgt := 17) dX4_edgeOn_58 (by decide) ?_
  exact am_sub [1, 2, 3, 4, 0] rfl h
-- MourningHouse$Mourner.lastDayFor(I)I
theorem dX4_lastDayFor_0 : decode mX4_lastDayFor.2.1 0 = .ok (.aload_n 0, 1) := by decide +kernel
theorem dX4_lastDayFor_1 : decode mX4_lastDayFor.2.1 1 = .ok (.ldc 212, 2) := by decide +kernel
theorem dX4_lastDayFor_3 : decode mX4_lastDayFor.2.1 3 = .ok (.invokevirtual 167, 3) := by decide +kernel
theorem dX4_lastDayFor_6 : decode mX4_lastDayFor.2.1 6 = .ok (.iconst 0, 1) := by decide +kernel
theorem dX4_lastDayFor_7 : decode mX4_lastDayFor.2.1 7 = .ok (.istore_n 2, 1) := by decide +kernel
theorem dX4_lastDayFor_8 : decode mX4_lastDayFor.2.1 8 = .ok (.iload_n 2, 1) := by decide +kernel
theorem dX4_lastDayFor_9 : decode mX4_lastDayFor.2.1 9 = .ok (.aload_n 0, 1) := by decide +kernel
theorem dX4_lastDayFor_10 : decode mX4_lastDayFor.2.1 10 = .ok (.getfield 19, 3) := by decide +kernel
theorem dX4_lastDayFor_13 : decode mX4_lastDayFor.2.1 13 = .ok (.if_icmp .ge 50, 3) := by decide +kernel
theorem dX4_lastDayFor_16 : decode mX4_lastDayFor.2.1 16 = .ok (.aload_n 0, 1) := by decide +kernel
theorem dX4_lastDayFor_17 : decode mX4_lastDayFor.2.1 17 = .ok (.getfield 15, 3) := by decide +kernel
theorem dX4_lastDayFor_20 : decode mX4_lastDayFor.2.1 20 = .ok (.iload_n 2, 1) := by decide +kernel
theorem dX4_lastDayFor_21 : decode mX4_lastDayFor.2.1 21 = .ok (.aaload, 1) := by decide +kernel
theorem dX4_lastDayFor_22 : decode mX4_lastDayFor.2.1 22 = .ok (.astore_n 3, 1) := by decide +kernel
theorem dX4_lastDayFor_23 : decode mX4_lastDayFor.2.1 23 = .ok (.aload_n 3, 1) := by decide +kernel
theorem dX4_lastDayFor_24 : decode mX4_lastDayFor.2.1 24 = .ok (.getfield 213, 3) := by decide +kernel
theorem dX4_lastDayFor_27 : decode mX4_lastDayFor.2.1 27 = .ok (.iload_n 1, 1) := by decide +kernel
theorem dX4_lastDayFor_28 : decode mX4_lastDayFor.2.1 28 = .ok (.if_icmp .ne 29, 3) := by decide +kernel
theorem dX4_lastDayFor_31 : decode mX4_lastDayFor.2.1 31 = .ok (.aload_n 3, 1) := by decide +kernel
theorem dX4_lastDayFor_32 : decode mX4_lastDayFor.2.1 32 = .ok (.getfield 216, 3) := by decide +kernel
theorem dX4_lastDayFor_35 : decode mX4_lastDayFor.2.1 35 = .ok (.aload_n 3, 1) := by decide +kernel
theorem dX4_lastDayFor_36 : decode mX4_lastDayFor.2.1 36 = .ok (.getfield 158, 3) := by decide +kernel
theorem dX4_lastDayFor_39 : decode mX4_lastDayFor.2.1 39 = .ok (.if_icmp .ge 8, 3) := by decide +kernel
theorem dX4_lastDayFor_42 : decode mX4_lastDayFor.2.1 42 = .ok (.ldc 219, 2) := by decide +kernel
theorem dX4_lastDayFor_44 : decode mX4_lastDayFor.2.1 44 = .ok (.goto 12, 3) := by decide +kernel
theorem dX4_lastDayFor_47 : decode mX4_lastDayFor.2.1 47 = .ok (.aload_n 3, 1) := by decide +kernel
theorem dX4_lastDayFor_48 : decode mX4_lastDayFor.2.1 48 = .ok (.getfield 216, 3) := by decide +kernel
theorem dX4_lastDayFor_51 : decode mX4_lastDayFor.2.1 51 = .ok (.ldc 212, 2) := by decide +kernel
theorem dX4_lastDayFor_53 : decode mX4_lastDayFor.2.1 53 = .ok (.invokestatic 155, 3) := by decide +kernel
theorem dX4_lastDayFor_56 : decode mX4_lastDayFor.2.1 56 = .ok (.ireturn, 1) := by decide +kernel
theorem dX4_lastDayFor_57 : decode mX4_lastDayFor.2.1 57 = .ok (.iinc 2 1, 3) := by decide +kernel
theorem dX4_lastDayFor_60 : decode mX4_lastDayFor.2.1 60 = .ok (.goto (-52), 3) := by decide +kernel
theorem dX4_lastDayFor_63 : decode mX4_lastDayFor.2.1 63 = .ok (.ldc 219, 2) := by decide +kernel
theorem dX4_lastDayFor_65 : decode mX4_lastDayFor.2.1 65 = .ok (.ireturn, 1) := by decide +kernel
theorem bX4_lastDayFor_0 {SC : Nat → Nat} {X : mh_X} {d : Nat} {Q : Option am_V → am_W → Prop} {bc bs : Nat} {w : am_W} {x1 : Int}
    (h : am_M (mh_G X) SC d 0 0 mX4_moveTo [.inr (.inr (some (6, 0))), .inl 73048] w (fun r w1 => am_A (mh_G X) SC (d + 1) mX4_lastDayFor Q 6 [(0, .inr (.inr (some (6, 0)))), (1, .inl x1)] (r.toList ++ []) w1 bc bs)) :
    am_A (mh_G X) SC (d + 1) mX4_lastDayFor Q 0 [(0, .inr (.inr (some (6, 0)))), (1, .inl x1)] [] w bc bs := by
  refine am_aload_n dX4_lastDayFor_0 (List.Mem.head _) ?_
  refine am_ldcV (n := 73048) dX4_lastDayFor_1 (by decide) wd_1296 (by unfold am_rg; omega) ?_
  exact am_callv (d' := d) (kc := 0) (ks := 0) (as := [.inl 73048]) dX4_lastDayFor_3 wc_X4_moveTo wd_1242 wd_1244 wd_35 wd_118 ds_X4_moveTo (by decide) (Nat.le_refl _) (Nat.le_of_ble_eq_true rfl) (Nat.zero_le _) (Nat.zero_le _) hc_6 (by decide) rfl rfl h
theorem bX4_lastDayFor_6 {SC : Nat → Nat} {X : mh_X} {d : Nat} {Q : Option am_V → am_W → Prop} {bc bs : Nat} {w : am_W} {x1 : Int}
    (h : am_A (mh_G X) SC (d + 1) mX4_lastDayFor Q 8 [(0, .inr (.inr (some (6, 0)))), (1, .inl x1), (2, .inl 0)] [] w bc bs) :
    am_A (mh_G X) SC (d + 1) mX4_lastDayFor Q 6 [(0, .inr (.inr (some (6, 0)))), (1, .inl x1)] [] w bc bs := by
  refine am_iconst dX4_lastDayFor_6 (by unfold am_rg; omega) ?_
  refine am_istore_n (ls' := [(2, .inl 0), (0, .inr (.inr (some (6, 0)))), (1, .inl x1)]) dX4_lastDayFor_7 (by decide) rfl ?_
  exact am_sub [1, 2, 0] rfl h
theorem bX4_lastDayFor_8 {SC : Nat → Nat} {X : mh_X} {d : Nat} {Q : Option am_V → am_W → Prop} {bc bs : Nat} {w : am_W} {x1 : Int} {x2 : Int}
    (h : (((w.1 6 0 3) ≤ x2 → Q (some (.inl (-2147483648))) w) ∧ (¬ (w.1 6 0 3) ≤ x2 → (0 ≤ x2 ∧ (x2 < 40 ∧ ((¬ (w.1 11 x2.toNat 3) = x1 → am_A (mh_G X) SC (d + 1) mX4_lastDayFor Q 8 [(0, .inr (.inr (some (6, 0)))), (1, .inl x1), (2, .inl (am_w (x2 + 1)))] [] w bc bs) ∧ ((w.1 11 x2.toNat 3) = x1 → (((w.1 11 x2.toNat 4) ≤ (w.1 11 x2.toNat 8) → am_M (mh_G X) SC d 0 0 mJ9_min_7cf53 [.inl (w.1 11 x2.toNat 8), .inl 73048] w (fun r w1 => am_A (mh_G X) SC (d + 1) mX4_lastDayFor Q 56 [(3, .inr (.inr (some (11, x2.toNat)))), (0, .inr (.inr (some (6, 0)))), (1, .inl x1), (2, .inl x2)] (r.toList ++ []) w1 bc bs)) ∧ (¬ (w.1 11 x2.toNat 4) ≤ (w.1 11 x2.toNat 8) → Q (some (.inl (-2147483648))) w))))))))) :
    am_A (mh_G X) SC (d + 1) mX4_lastDayFor Q 8 [(0, .inr (.inr (some (6, 0)))), (1, .inl x1), (2, .inl x2)] [] w bc bs := by
  refine am_iload_n dX4_lastDayFor_8 (List.Mem.tail _ (List.Mem.tail _ (List.Mem.head _))) ?_
  refine am_aload_n dX4_lastDayFor_9 (List.Mem.head _) ?_
  refine am_getf (f := 3) (v := .inl (w.1 6 0 3)) dX4_lastDayFor_10 hc_6 (by decide) wd_441 (by decide) rfl rfl ?_
  refine am_icmpge (tgt := 63) dX4_lastDayFor_13 (by decide) (fun c1 => ?_) (fun c1 => ?_)
  · replace h := h.1 c1
    refine am_ldcV (n := (-2147483648)) dX4_lastDayFor_63 (by decide) wd_1297 (by unfold am_rg; omega) ?_
    exact am_ret (r := some (.inl (-2147483648))) dX4_lastDayFor_65 (Or.inl rfl) rfl h
  · replace h := h.2 c1
    refine am_aload_n dX4_lastDayFor_16 (List.Mem.head _) ?_
    refine am_getf (f := 2) (v := .inr (.inr (some (49, 0)))) dX4_lastDayFor_17 hc_6 (by decide) wd_440 (by decide) rfl rfl ?_
    refine am_iload_n dX4_lastDayFor_20 (List.Mem.tail _ (List.Mem.tail _ (List.Mem.head _))) ?_
    have o2 := h.1
    replace h := h.2
    have o3 := h.1
    replace h := h.2
    refine am_aaload (kd := 8) (r := some (11, x2.toNat)) dX4_lastDayFor_21 (by decide) rfl (by decide) (by decide) o2 o3 rfl ?_
    refine am_astore_n (ls' := [(3, .inr (.inr (some (11, x2.toNat)))), (0, .inr (.inr (some (6, 0)))), (1, .inl x1), (2, .inl x2)]) dX4_lastDayFor_22 (by decide) rfl ?_
    refine am_aload_n dX4_lastDayFor_23 (List.Mem.head _) ?_
    refine am_getf (f := 3) (v := .inl (w.1 11 x2.toNat 3)) dX4_lastDayFor_24 hc_7 (by decide) wd_403 (by decide) rfl rfl ?_
    refine am_iload_n dX4_lastDayFor_27 (List.Mem.tail _ (List.Mem.tail _ (List.Mem.head _))) ?_
    refine am_icmpne (tgt := 57) dX4_lastDayFor_28 (by decide) (fun c4 => ?_) (fun c4 => ?_)
    · replace h := h.1 c4
      refine am_iinc (ls' := [(2, .inl (am_w (x2 + 1))), (3, .inr (.inr (some (11, x2.toNat)))), (0, .inr (.inr (some (6, 0)))), (1, .inl x1)]) dX4_lastDayFor_57 (List.Mem.tail _ (List.Mem.tail _ (List.Mem.tail _ (List.Mem.head _)))) (by decide) rfl ?_
      refine am_goto (tgt := 8) dX4_lastDayFor_60 (by decide) ?_
      exact am_sub [2, 3, 0] rfl h
    · replace h := h.2 c4
      refine am_aload_n dX4_lastDayFor_31 (List.Mem.head _) ?_
      refine am_getf (f := 8) (v := .inl (w.1 11 x2.toNat 8)) dX4_lastDayFor_32 hc_7 (by decide) wd_412 (by decide) rfl rfl ?_
      refine am_aload_n dX4_lastDayFor_35 (List.Mem.head _) ?_
      refine am_getf (f := 4) (v := .inl (w.1 11 x2.toNat 4)) dX4_lastDayFor_36 hc_7 (by decide) wd_405 (by decide) rfl rfl ?_
      refine am_icmpge (tgt := 47) dX4_lastDayFor_39 (by decide) (fun c5 => ?_) (fun c5 => ?_)
      · replace h := h.1 c5
        refine am_aload_n dX4_lastDayFor_47 (List.Mem.head _) ?_
        refine am_getf (f := 8) (v := .inl (w.1 11 x2.toNat 8)) dX4_lastDayFor_48 hc_7 (by decide) wd_412 (by decide) rfl rfl ?_
        refine am_ldcV (n := 73048) dX4_lastDayFor_51 (by decide) wd_1296 (by unfold am_rg; omega) ?_
        exact am_calls (d' := d) (kc := 0) (ks := 0) (as := [.inl (w.1 11 x2.toNat 8), .inl 73048]) dX4_lastDayFor_53 wc_J9_min_7cf53 wd_1229 wd_782 wd_128 ds_J9_min_7cf53 (by decide) (Nat.le_refl _) (Nat.le_of_ble_eq_true rfl) (Nat.zero_le _) (Nat.zero_le _) rfl h
      · replace h := h.2 c5
        refine am_ldcV (n := (-2147483648)) dX4_lastDayFor_42 (by decide) wd_1297 (by unfold am_rg; omega) ?_
        refine am_goto (tgt := 56) dX4_lastDayFor_44 (by decide) ?_
        exact am_ret (r := some (.inl (-2147483648))) dX4_lastDayFor_56 (Or.inl rfl) rfl h
theorem bX4_lastDayFor_56 {SC : Nat → Nat} {X : mh_X} {d : Nat} {Q : Option am_V → am_W → Prop} {bc bs : Nat} {w : am_W} {j3 : Nat} {x1 : Int} {x2 : Int} {xs0 : Int}
    (h : Q (some (.inl xs0)) w) :
    am_A (mh_G X) SC (d + 1) mX4_lastDayFor Q 56 [(3, .inr (.inr (some (11, j3)))), (0, .inr (.inr (some (6, 0)))), (1, .inl x1), (2, .inl x2)] [.inl xs0] w bc bs := by
  exact am_ret (r := some (.inl xs0)) dX4_lastDayFor_56 (Or.inl rfl) rfl h
-- MourningHouse$Mourning.start(IILMourningHouse$Law;IZ)V
theorem dX5_start_0 : decode mX5_start.2.1 0 = .ok (.aload_n 0, 1) := by decide +kernel
theorem dX5_start_1 : decode mX5_start.2.1 1 = .ok (.iload_n 1, 1) := by decide +kernel
theorem dX5_start_2 : decode mX5_start.2.1 2 = .ok (.putfield 24, 3) := by decide +kernel
theorem dX5_start_5 : decode mX5_start.2.1 5 = .ok (.aload_n 0, 1) := by decide +kernel
theorem dX5_start_6 : decode mX5_start.2.1 6 = .ok (.iload_n 2, 1) := by decide +kernel
theorem dX5_start_7 : decode mX5_start.2.1 7 = .ok (.putfield 27, 3) := by decide +kernel
theorem dX5_start_10 : decode mX5_start.2.1 10 = .ok (.aload_n 0, 1) := by decide +kernel
theorem dX5_start_11 : decode mX5_start.2.1 11 = .ok (.aload_n 3, 1) := by decide +kernel
theorem dX5_start_12 : decode mX5_start.2.1 12 = .ok (.iload 4, 2) := by decide +kernel
theorem dX5_start_14 : decode mX5_start.2.1 14 = .ok (.iconst 1, 1) := by decide +kernel
theorem dX5_start_15 : decode mX5_start.2.1 15 = .ok (.invokevirtual 49, 3) := by decide +kernel
theorem dX5_start_18 : decode mX5_start.2.1 18 = .ok (.putfield 30, 3) := by decide +kernel
theorem dX5_start_21 : decode mX5_start.2.1 21 = .ok (.aload_n 0, 1) := by decide +kernel
theorem dX5_start_22 : decode mX5_start.2.1 22 = .ok (.aload_n 3, 1) := by decide +kernel
theorem dX5_start_23 : decode mX5_start.2.1 23 = .ok (.iload 4, 2) := by decide +kernel
theorem dX5_start_25 : decode mX5_start.2.1 25 = .ok (.iconst 2, 1) := by decide +kernel
theorem dX5_start_26 : decode mX5_start.2.1 26 = .ok (.invokevirtual 49, 3) := by decide +kernel
theorem dX5_start_29 : decode mX5_start.2.1 29 = .ok (.putfield 34, 3) := by decide +kernel
theorem dX5_start_32 : decode mX5_start.2.1 32 = .ok (.aload_n 0, 1) := by decide +kernel
theorem dX5_start_33 : decode mX5_start.2.1 33 = .ok (.iconst 0, 1) := by decide +kernel
theorem dX5_start_34 : decode mX5_start.2.1 34 = .ok (.putfield 37, 3) := by decide +kernel
theorem dX5_start_37 : decode mX5_start.2.1 37 = .ok (.aload_n 0, 1) := by decide +kernel
theorem dX5_start_38 : decode mX5_start.2.1 38 = .ok (.ldc 53, 2) := by decide +kernel
theorem dX5_start_40 : decode mX5_start.2.1 40 = .ok (.putfield 40, 3) := by decide +kernel
theorem dX5_start_43 : decode mX5_start.2.1 43 = .ok (.aload_n 0, 1) := by decide +kernel
theorem dX5_start_44 : decode mX5_start.2.1 44 = .ok (.iconst 0, 1) := by decide +kernel
theorem dX5_start_45 : decode mX5_start.2.1 45 = .ok (.putfield 43, 3) := by decide +kernel
theorem dX5_start_48 : decode mX5_start.2.1 48 = .ok (.aload_n 0, 1) := by decide +kernel
theorem dX5_start_49 : decode mX5_start.2.1 49 = .ok (.iconst 0, 1) := by decide +kernel
theorem dX5_start_50 : decode mX5_start.2.1 50 = .ok (.putfield 46, 3) := by decide +kernel
theorem dX5_start_53 : decode mX5_start.2.1 53 = .ok (.aload_n 0, 1) := by decide +kernel
theorem dX5_start_54 : decode mX5_start.2.1 54 = .ok (.aload_n 3, 1) := by decide +kernel
theorem dX5_start_55 : decode mX5_start.2.1 55 = .ok (.iload 4, 2) := by decide +kernel
theorem dX5_start_57 : decode mX5_start.2.1 57 = .ok (.invokevirtual 54, 3) := by decide +kernel
theorem dX5_start_60 : decode mX5_start.2.1 60 = .ok (.putfield 20, 3) := by decide +kernel
theorem dX5_start_63 : decode mX5_start.2.1 63 = .ok (.iload_n 2, 1) := by decide +kernel
theorem dX5_start_64 : decode mX5_start.2.1 64 = .ok (.istore 6, 2) := by decide +kernel
theorem dX5_start_66 : decode mX5_start.2.1 66 = .ok (.iconst 0, 1) := by decide +kernel
theorem dX5_start_67 : decode mX5_start.2.1 67 = .ok (.istore 7, 2) := by decide +kernel
theorem dX5_start_69 : decode mX5_start.2.1 69 = .ok (.iconst 0, 1) := by decide +kernel
theorem dX5_start_70 : decode mX5_start.2.1 70 = .ok (.istore 8, 2) := by decide +kernel
theorem dX5_start_72 : decode mX5_start.2.1 72 = .ok (.iload 8, 2) := by decide +kernel
theorem dX5_start_74 : decode mX5_start.2.1 74 = .ok (.aload_n 0, 1) := by decide +kernel
theorem dX5_start_75 : decode mX5_start.2.1 75 = .ok (.getfield 20, 3) := by decide +kernel
theorem dX5_start_78 : decode mX5_start.2.1 78 = .ok (.if_icmp .ge 76, 3) := by decide +kernel
theorem dX5_start_81 : decode mX5_start.2.1 81 = .ok (.aload_n 3, 1) := by decide +kernel
theorem dX5_start_82 : decode mX5_start.2.1 82 = .ok (.iload 4, 2) := by decide +kernel
theorem dX5_start_84 : decode mX5_start.2.1 84 = .ok (.iload 8, 2) := by decide +kernel
theorem dX5_start_86 : decode mX5_start.2.1 86 = .ok (.iload 6, 2) := by decide +kernel
theorem dX5_start_88 : decode mX5_start.2.1 88 = .ok (.invokevirtual 58, 3) := by decide +kernel
theorem dX5_start_91 : decode mX5_start.2.1 91 = .ok (.istore 9, 2) := by decide +kernel
theorem dX5_start_93 : decode mX5_start.2.1 93 = .ok (.iload 7, 2) := by decide +kernel
theorem dX5_start_95 : decode mX5_start.2.1 95 = .ok (.iload 5, 2) := by decide +kernel
theorem dX5_start_97 : decode mX5_start.2.1 97 = .ok (.ifCond .eq 15, 3) := by decide +kernel
theorem dX5_start_100 : decode mX5_start.2.1 100 = .ok (.iload 9, 2) := by decide +kernel
theorem dX5_start_102 : decode mX5_start.2.1 102 = .ok (.iload 6, 2) := by decide +kernel
theorem dX5_start_104 : decode mX5_start.2.1 104 = .ok (.isub, 1) := by decide +kernel
theorem dX5_start_105 : decode mX5_start.2.1 105 = .ok (.iconst 1, 1) := by decide +kernel
theorem dX5_start_106 : decode mX5_start.2.1 106 = .ok (.iadd, 1) := by decide +kernel
theorem dX5_start_107 : decode mX5_start.2.1 107 = .ok (.iconst 2, 1) := by decide +kernel
theorem dX5_start_108 : decode mX5_start.2.1 108 = .ok (.idiv, 1) := by decide +kernel
theorem dX5_start_109 : decode mX5_start.2.1 109 = .ok (.goto 8, 3) := by decide +kernel
theorem dX5_start_112 : decode mX5_start.2.1 112 = .ok (.iload 9, 2) := by decide +kernel
theorem dX5_start_114 : decode mX5_start.2.1 114 = .ok (.iload 6, 2) := by decide +kernel
theorem dX5_start_116 : decode mX5_start.2.1 116 = .ok (.isub, 1) := by decide +kernel
theorem dX5_start_117 : decode mX5_start.2.1 117 = .ok (.iadd, 1) := by decide +kernel
theorem dX5_start_118 : decode mX5_start.2.1 118 = .ok (.istore 7, 2) := by decide +kernel
theorem dX5_start_120 : decode mX5_start.2.1 120 = .ok (.aload_n 0, 1) := by decide +kernel
theorem dX5_start_121 : decode mX5_start.2.1 121 = .ok (.getfield 11, 3) := by decide +kernel
theorem dX5_start_124 : decode mX5_start.2.1 124 = .ok (.iload 8, 2) := by decide +kernel
theorem dX5_start_126 : decode mX5_start.2.1 126 = .ok (.iload 7, 2) := by decide +kernel
theorem dX5_start_128 : decode mX5_start.2.1 128 = .ok (.iastore, 1) := by decide +kernel
theorem dX5_start_129 : decode mX5_start.2.1 129 = .ok (.aload_n 0, 1) := by decide +kernel
theorem dX5_start_130 : decode mX5_start.2.1 130 = .ok (.getfield 17, 3) := by decide +kernel
theorem dX5_start_133 : decode mX5_start.2.1 133 = .ok (.iload 8, 2) := by decide +kernel
theorem dX5_start_135 : decode mX5_start.2.1 135 = .ok (.aload_n 3, 1) := by decide +kernel
theorem dX5_start_136 : decode mX5_start.2.1 136 = .ok (.iload 4, 2) := by decide +kernel
theorem dX5_start_138 : decode mX5_start.2.1 138 = .ok (.iload 8, 2) := by decide +kernel
theorem dX5_start_140 : decode mX5_start.2.1 140 = .ok (.invokevirtual 62, 3) := by decide +kernel
theorem dX5_start_143 : decode mX5_start.2.1 143 = .ok (.iastore, 1) := by decide +kernel
theorem dX5_start_144 : decode mX5_start.2.1 144 = .ok (.iload 9, 2) := by decide +kernel
theorem dX5_start_146 : decode mX5_start.2.1 146 = .ok (.istore 6, 2) := by decide +kernel
theorem dX5_start_148 : decode mX5_start.2.1 148 = .ok (.iinc 8 1, 3) := by decide +kernel
theorem dX5_start_151 : decode mX5_start.2.1 151 = .ok (.goto (-79), 3) := by decide +kernel
theorem dX5_start_154 : decode mX5_start.2.1 154 = .ok (.return_, 1) := by decide +kernel
theorem bX5_start_0 {SC : Nat → Nat} {X : mh_X} {d : Nat} {Q : Option am_V → am_W → Prop} {bc bs : Nat} {w : am_W} {j0 : Nat} {x1 : Int} {x2 : Int} {j3 : Nat} {x4 : Int} {x5 : Int}
    (h : am_M (mh_G X) SC d 0 0 mX3_hasOption [.inr (.inr (some (10, j3))), .inl x4, .inl 1] ((am_up (am_up w.1 11 j0 3 x1) 11 j0 4 x2), w.2) (fun r w1 => am_A (mh_G X) SC (d + 1) mX5_start Q 18 [(0, .inr (.inr (some (11, j0)))), (1, .inl x1), (2, .inl x2), (3, .inr (.inr (some (10, j3)))), (4, .inl x4), (5, .inl x5)] (r.toList ++ [.inr (.inr (some (11, j0)))]) w1 bc bs)) :
    am_A (mh_G X) SC (d + 1) mX5_start Q 0 [(0, .inr (.inr (some (11, j0)))), (1, .inl x1), (2, .inl x2), (3, .inr (.inr (some (10, j3)))), (4, .inl x4), (5, .inl x5)] [] w bc bs := by
  refine am_aload_n dX5_start_0 (List.Mem.head _) ?_
  refine am_iload_n dX5_start_1 (List.Mem.tail _ (List.Mem.head _)) ?_
  refine am_putf (f := 3) dX5_start_2 hc_7 (by decide) wd_402 rfl (Or.inl rfl) (Or.inl (by decide)) rfl ?_
  refine am_aload_n dX5_start_5 (List.Mem.head _) ?_
  refine am_iload_n dX5_start_6 (List.Mem.tail _ (List.Mem.tail _ (List.Mem.head _))) ?_
  refine am_putf (f := 4) dX5_start_7 hc_7 (by decide) wd_404 rfl (Or.inl rfl) (Or.inl (by decide)) rfl ?_
  refine am_aload_n dX5_start_10 (List.Mem.head _) ?_
  refine am_aload_n dX5_start_11 (List.Mem.tail _ (List.Mem.tail _ (List.Mem.tail _ (List.Mem.head _)))) ?_
  refine am_iload dX5_start_12 (List.Mem.tail _ (List.Mem.tail _ (List.Mem.tail _ (List.Mem.tail _ (List.Mem.head _))))) ?_
  refine am_iconst dX5_start_14 (by unfold am_rg; omega) ?_
  exact am_callv (d' := d) (kc := 0) (ks := 0) (as := [.inl x4, .inl 1]) dX5_start_15 wc_X3_hasOption wd_1196 wd_970 wd_971 wd_116 ds_X3_hasOption (by decide) (Nat.le_refl _) (Nat.le_of_ble_eq_true rfl) (Nat.zero_le _) (Nat.zero_le _) hc_4 (by decide) rfl rfl h
theorem bX5_start_18 {SC : Nat → Nat} {X : mh_X} {d : Nat} {Q : Option am_V → am_W → Prop} {bc bs : Nat} {w : am_W} {j0 : Nat} {x1 : Int} {x2 : Int} {j3 : Nat} {x4 : Int} {x5 : Int} {xs0 : Int} {js1 : Nat}
    (h : ((xs0 = 0 ∨ xs0 = 1) ∧ am_M (mh_G X) SC d 0 0 mX3_hasOption [.inr (.inr (some (10, j3))), .inl x4, .inl 2] ((am_up w.1 11 js1 5 xs0), w.2) (fun r w1 => am_A (mh_G X) SC (d + 1) mX5_start Q 29 [(0, .inr (.inr (some (11, j0)))), (1, .inl x1), (2, .inl x2), (3, .inr (.inr (some (10, j3)))), (4, .inl x4), (5, .inl x5)] (r.toList ++ [.inr (.inr (some (11, j0)))]) w1 bc bs))) :
    am_A (mh_G X) SC (d + 1) mX5_start Q 18 [(0, .inr (.inr (some (11, j0)))), (1, .inl x1), (2, .inl x2), (3, .inr (.inr (some (10, j3)))), (4, .inl x4), (5, .inl x5)] [.inl xs0, .inr (.inr (some (11, js1)))] w bc bs := by
  have o1 := h.1
  replace h := h.2
  refine am_putf (f := 5) dX5_start_18 hc_7 (by decide) wd_406 rfl (Or.inr (Or.inl ⟨rfl, o1⟩)) (Or.inl (by decide)) rfl ?_
  refine am_aload_n dX5_start_21 (List.Mem.head _) ?_
  refine am_aload_n dX5_start_22 (List.Mem.tail _ (List.Mem.tail _ (List.Mem.tail _ (List.Mem.head _)))) ?_
  refine am_iload dX5_start_23 (List.Mem.tail _ (List.Mem.tail _ (List.Mem.tail _ (List.Mem.tail _ (List.Mem.head _))))) ?_
  refine am_iconst dX5_start_25 (by unfold am_rg; omega) ?_
  exact am_callv (d' := d) (kc := 0) (ks := 0) (as := [.inl x4, .inl 2]) dX5_start_26 wc_X3_hasOption wd_1196 wd_970 wd_971 wd_116 ds_X3_hasOption (by decide) (Nat.le_refl _) (Nat.le_of_ble_eq_true rfl) (Nat.zero_le _) (Nat.zero_le _) hc_4 (by decide) rfl rfl h
theorem bX5_start_29 {SC : Nat → Nat} {X : mh_X} {d : Nat} {Q : Option am_V → am_W → Prop} {bc bs : Nat} {w : am_W} {j0 : Nat} {x1 : Int} {x2 : Int} {j3 : Nat} {x4 : Int} {x5 : Int} {xs0 : Int} {js1 : Nat}
    (h : ((xs0 = 0 ∨ xs0 = 1) ∧ am_M (mh_G X) SC d 0 0 mX3_partCount [.inr (.inr (some (10, j3))), .inl x4] ((am_up (am_up (am_up (am_up (am_up w.1 11 js1 6 xs0) 11 j0 7 0) 11 j0 8 2147483647) 11 j0 9 0) 11 j0 10 0), w.2) (fun r w1 => am_A (mh_G X) SC (d + 1) mX5_start Q 60 [(0, .inr (.inr (some (11, j0)))), (1, .inl x1), (2, .inl x2), (3, .inr (.inr (some (10, j3)))), (4, .inl x4), (5, .inl x5)] (r.toList ++ [.inr (.inr (some (11, j0)))]) w1 bc bs))) :
    am_A (mh_G X) SC (d + 1) mX5_start Q 29 [(0, .inr (.inr (some (11, j0)))), (1, .inl x1), (2, .inl x2), (3, .inr (.inr (some (10, j3)))), (4, .inl x4), (5, .inl x5)] [.inl xs0, .inr (.inr (some (11, js1)))] w bc bs := by
  have o1 := h.1
  replace h := h.2
  refine am_putf (f := 6) dX5_start_29 hc_7 (by decide) wd_407 rfl (Or.inr (Or.inl ⟨rfl, o1⟩)) (Or.inl (by decide)) rfl ?_
  refine am_aload_n dX5_start_32 (List.Mem.head _) ?_
  refine am_iconst dX5_start_33 (by unfold am_rg; omega) ?_
  refine am_putf (f := 7) dX5_start_34 hc_7 (by decide) wd_409 rfl (Or.inr (Or.inl ⟨rfl, (Or.inl rfl)⟩)) (Or.inl (by decide)) rfl ?_
  refine am_aload_n dX5_start_37 (List.Mem.head _) ?_
  refine am_ldcV (n := 2147483647) dX5_start_38 (by decide) wd_1197 (by unfold am_rg; omega) ?_
  refine am_putf (f := 8) dX5_start_40 hc_7 (by decide) wd_411 rfl (Or.inl rfl) (Or.inl (by decide)) rfl ?_
  refine am_aload_n dX5_start_43 (List.Mem.head _) ?_
  refine am_iconst dX5_start_44 (by unfold am_rg; omega) ?_
  refine am_putf (f := 9) dX5_start_45 hc_7 (by decide) wd_413 rfl (Or.inl rfl) (Or.inl (by decide)) rfl ?_
  refine am_aload_n dX5_start_48 (List.Mem.head _) ?_
  refine am_iconst dX5_start_49 (by unfold am_rg; omega) ?_
  refine am_putf (f := 10) dX5_start_50 hc_7 (by decide) wd_414 rfl (Or.inl rfl) (Or.inl (by decide)) rfl ?_
  refine am_aload_n dX5_start_53 (List.Mem.head _) ?_
  refine am_aload_n dX5_start_54 (List.Mem.tail _ (List.Mem.tail _ (List.Mem.tail _ (List.Mem.head _)))) ?_
  refine am_iload dX5_start_55 (List.Mem.tail _ (List.Mem.tail _ (List.Mem.tail _ (List.Mem.tail _ (List.Mem.head _))))) ?_
  exact am_callv (d' := d) (kc := 0) (ks := 0) (as := [.inl x4]) dX5_start_57 wc_X3_partCount wd_1198 wd_1199 wd_1200 wd_116 ds_X3_partCount (by decide) (Nat.le_refl _) (Nat.le_of_ble_eq_true rfl) (Nat.zero_le _) (Nat.zero_le _) hc_4 (by decide) rfl rfl h
theorem bX5_start_60 {SC : Nat → Nat} {X : mh_X} {d : Nat} {Q : Option am_V → am_W → Prop} {bc bs : Nat} {w : am_W} {j0 : Nat} {x1 : Int} {x2 : Int} {j3 : Nat} {x4 : Int} {x5 : Int} {xs0 : Int} {js1 : Nat}
    (h : am_A (mh_G X) SC (d + 1) mX5_start Q 72 [(0, .inr (.inr (some (11, j0)))), (3, .inr (.inr (some (10, j3)))), (4, .inl x4), (5, .inl x5), (6, .inl x2), (7, .inl 0), (8, .inl 0)] [] ((am_up w.1 11 js1 2 xs0), w.2) bc bs) :
    am_A (mh_G X) SC (d + 1) mX5_start Q 60 [(0, .inr (.inr (some (11, j0)))), (1, .inl x1), (2, .inl x2), (3, .inr (.inr (some (10, j3)))), (4, .inl x4), (5, .inl x5)] [.inl xs0, .inr (.inr (some (11, js1)))] w bc bs := by
  refine am_putf (f := 2) dX5_start_60 hc_7 (by decide) wd_401 rfl (Or.inl rfl) (Or.inl (by decide)) rfl ?_
  refine am_iload_n dX5_start_63 (List.Mem.tail _ (List.Mem.tail _ (List.Mem.head _))) ?_
  refine am_istore (ls' := [(6, .inl x2), (0, .inr (.inr (some (11, j0)))), (1, .inl x1), (2, .inl x2), (3, .inr (.inr (some (10, j3)))), (4, .inl x4), (5, .inl x5)]) dX5_start_64 (by decide) rfl ?_
  refine am_iconst dX5_start_66 (by unfold am_rg; omega) ?_
  refine am_istore (ls' := [(7, .inl 0), (6, .inl x2), (0, .inr (.inr (some (11, j0)))), (1, .inl x1), (2, .inl x2), (3, .inr (.inr (some (10, j3)))), (4, .inl x4), (5, .inl x5)]) dX5_start_67 (by decide) rfl ?_
  refine am_iconst dX5_start_69 (by unfold am_rg; omega) ?_
  refine am_istore (ls' := [(8, .inl 0), (7, .inl 0), (6, .inl x2), (0, .inr (.inr (some (11, j0)))), (1, .inl x1), (2, .inl x2), (3, .inr (.inr (some (10, j3)))), (4, .inl x4), (5, .inl x5)]) dX5_start_70 (by decide) rfl ?_
  exact am_sub [3, 6, 7, 8, 2, 1, 0] rfl h
theorem bX5_start_72 {SC : Nat → Nat} {X : mh_X} {d : Nat} {Q : Option am_V → am_W → Prop} {bc bs : Nat} {w : am_W} {j0 : Nat} {j3 : Nat} {x4 : Int} {x5 : Int} {x6 : Int} {x7 : Int} {x8 : Int}
    (h : (((w.1 11 j0 2) ≤ x8 → Q none w) ∧ (¬ (w.1 11 j0 2) ≤ x8 → am_M (mh_G X) SC d 0 0 mX3_endOfPart [.inr (.inr (some (10, j3))), .inl x4, .inl x8, .inl x6] w (fun r w1 => am_A (mh_G X) SC (d + 1) mX5_start Q 91 [(0, .inr (.inr (some (11, j0)))), (3, .inr (.inr (some (10, j3)))), (4, .inl x4), (5, .inl x5), (6, .inl x6), (7, .inl x7), (8, .inl x8)] (r.toList ++ []) w1 bc bs)))) :
    am_A (mh_G X) SC (d + 1) mX5_start Q 72 [(0, .inr (.inr (some (11, j0)))), (3, .inr (.inr (some (10, j3)))), (4, .inl x4), (5, .inl x5), (6, .inl x6), (7, .inl x7), (8, .inl x8)] [] w bc bs := by
  refine am_iload dX5_start_72 (List.Mem.tail _ (List.Mem.tail _ (List.Mem.tail _ (List.Mem.tail _ (List.Mem.tail _ (List.Mem.tail _ (List.Mem.head _))))))) ?_
  refine am_aload_n dX5_start_74 (List.Mem.head _) ?_
  refine am_getf (f := 2) (v := .inl (w.1 11 j0 2)) dX5_start_75 hc_7 (by decide) wd_401 (by decide) rfl rfl ?_
  refine am_icmpge (tgt := 154) dX5_start_78 (by decide) (fun c1 => ?_) (fun c1 => ?_)
  · replace h := h.1 c1
    exact am_ret (r := none) dX5_start_154 rfl rfl h
  · replace h := h.2 c1
    refine am_aload_n dX5_start_81 (List.Mem.tail _ (List.Mem.head _)) ?_
    refine am_iload dX5_start_82 (List.Mem.tail _ (List.Mem.tail _ (List.Mem.head _))) ?_
    refine am_iload dX5_start_84 (List.Mem.tail _ (List.Mem.tail _ (List.Mem.tail _ (List.Mem.tail _ (List.Mem.tail _ (List.Mem.tail _ (List.Mem.head _))))))) ?_
    refine am_iload dX5_start_86 (List.Mem.tail _ (List.Mem.tail _ (List.Mem.tail _ (List.Mem.tail _ (List.Mem.head _))))) ?_
    exact am_callv (d' := d) (kc := 0) (ks := 0) (as := [.inl x4, .inl x8, .inl x6]) dX5_start_88 wc_X3_endOfPart wd_1202 wd_1203 wd_1204 wd_116 ds_X3_endOfPart (by decide) (Nat.le_refl _) (Nat.le_of_ble_eq_true rfl) (Nat.zero_le _) (Nat.zero_le _) hc_4 (by decide) rfl rfl h
theorem bX5_start_91 {SC : Nat → Nat} {X : mh_X} {d : Nat} {Q : Option am_V → am_W → Prop} {bc bs : Nat} {w : am_W} {j0 : Nat} {j3 : Nat} {x4 : Int} {x5 : Int} {x6 : Int} {x7 : Int} {x8 : Int} {xs0 : Int}
    (h : ((x5 = 0 → am_A (mh_G X) SC (d + 1) mX5_start Q 117 [(0, .inr (.inr (some (11, j0)))), (3, .inr (.inr (some (10, j3)))), (4, .inl x4), (5, .inl x5), (8, .inl x8), (9, .inl xs0)] [.inl (am_w (xs0 - x6)), .inl x7] w bc bs) ∧ (¬ x5 = 0 → am_A (mh_G X) SC (d + 1) mX5_start Q 117 [(0, .inr (.inr (some (11, j0)))), (3, .inr (.inr (some (10, j3)))), (4, .inl x4), (5, .inl x5), (8, .inl x8), (9, .inl xs0)] [.inl (am_w (Int.tdiv (am_w ((am_w (xs0 - x6)) + 1)) 2)), .inl x7] w bc bs))) :
    am_A (mh_G X) SC (d + 1) mX5_start Q 91 [(0, .inr (.inr (some (11, j0)))), (3, .inr (.inr (some (10, j3)))), (4, .inl x4), (5, .inl x5), (6, .inl x6), (7, .inl x7), (8, .inl x8)] [.inl xs0] w bc bs := by
  refine am_istore (ls' := [(9, .inl xs0), (0, .inr (.inr (some (11, j0)))), (3, .inr (.inr (some (10, j3)))), (4, .inl x4), (5, .inl x5), (6, .inl x6), (7, .inl x7), (8, .inl x8)]) dX5_start_91 (by decide) rfl ?_
  refine am_iload dX5_start_93 (List.Mem.tail _ (List.Mem.tail _ (List.Mem.tail _ (List.Mem.tail _ (List.Mem.tail _ (List.Mem.tail _ (List.Mem.head _))))))) ?_
  refine am_iload dX5_start_95 (List.Mem.tail _ (List.Mem.tail _ (List.Mem.tail _ (List.Mem.tail _ (List.Mem.head _))))) ?_
  refine am_ifeq (tgt := 112) dX5_start_97 (by decide) (fun c1 => ?_) (fun c1 => ?_)
  · replace h := h.1 c1
    refine am_iload dX5_start_112 (List.Mem.head _) ?_
    refine am_iload dX5_start_114 (List.Mem.tail _ (List.Mem.tail _ (List.Mem.tail _ (List.Mem.tail _ (List.Mem.tail _ (List.Mem.head _)))))) ?_
    refine am_isub dX5_start_116 ?_
    exact am_sub [1, 2, 3, 4, 7, 0] rfl h
  · replace h := h.2 c1
    refine am_iload dX5_start_100 (List.Mem.head _) ?_
    refine am_iload dX5_start_102 (List.Mem.tail _ (List.Mem.tail _ (List.Mem.tail _ (List.Mem.tail _ (List.Mem.tail _ (List.Mem.head _)))))) ?_
    refine am_isub dX5_start_104 ?_
    refine am_iconst dX5_start_105 (by unfold am_rg; omega) ?_
    refine am_iadd dX5_start_106 ?_
    refine am_iconst dX5_start_107 (by unfold am_rg; omega) ?_
    refine am_idiv dX5_start_108 (by decide) ?_
    refine am_goto (tgt := 117) dX5_start_109 (by decide) ?_
    exact am_sub [1, 2, 3, 4, 7, 0] rfl h
theorem bX5_start_117 {SC : Nat → Nat} {X : mh_X} {d : Nat} {Q : Option am_V → am_W → Prop} {bc bs : Nat} {w : am_W} {j0 : Nat} {j3 : Nat} {x4 : Int} {x5 : Int} {x8 : Int} {x9 : Int} {xs0 : Int} {xs1 : Int}
    (h : (0 ≤ x8 ∧ (x8 < 4 ∧ am_M (mh_G X) SC d 0 0 mX3_partDepth [.inr (.inr (some (10, j3))), .inl x4, .inl x8] ((am_up w.1 154 j0 x8.toNat (am_w (xs1 + xs0))), w.2) (fun r w1 => am_A (mh_G X) SC (d + 1) mX5_start Q 143 [(7, .inl (am_w (xs1 + xs0))), (0, .inr (.inr (some (11, j0)))), (3, .inr (.inr (some (10, j3)))), (4, .inl x4), (5, .inl x5), (8, .inl x8), (9, .inl x9)] (r.toList ++ [.inl x8, .inr (.inr (some (155, j0)))]) w1 bc bs)))) :
    am_A (mh_G X) SC (d + 1) mX5_start Q 117 [(0, .inr (.inr (some (11, j0)))), (3, .inr (.inr (some (10, j3)))), (4, .inl x4), (5, .inl x5), (8, .inl x8), (9, .inl x9)] [.inl xs0, .inl xs1] w bc bs := by
  refine am_iadd dX5_start_117 ?_
  refine am_istore (ls' := [(7, .inl (am_w (xs1 + xs0))), (0, .inr (.inr (some (11, j0)))), (3, .inr (.inr (some (10, j3)))), (4, .inl x4), (5, .inl x5), (8, .inl x8), (9, .inl x9)]) dX5_start_118 (by decide) rfl ?_
  refine am_aload_n dX5_start_120 (List.Mem.tail _ (List.Mem.head _)) ?_
  refine am_getf (f := 0) (v := .inr (.inr (some (154, j0)))) dX5_start_121 hc_7 (by decide) wd_399 (by decide) rfl rfl ?_
  refine am_iload dX5_start_124 (List.Mem.tail _ (List.Mem.tail _ (List.Mem.tail _ (List.Mem.tail _ (List.Mem.tail _ (List.Mem.head _)))))) ?_
  refine am_iload dX5_start_126 (List.Mem.head _) ?_
  have o1 := h.1
  replace h := h.2
  have o2 := h.1
  replace h := h.2
  refine am_iastore dX5_start_128 (Or.inl (by decide)) rfl o1 o2 ?_
  refine am_aload_n dX5_start_129 (List.Mem.tail _ (List.Mem.head _)) ?_
  refine am_getf (f := 1) (v := .inr (.inr (some (155, j0)))) dX5_start_130 hc_7 (by decide) wd_400 (by decide) rfl rfl ?_
  refine am_iload dX5_start_133 (List.Mem.tail _ (List.Mem.tail _ (List.Mem.tail _ (List.Mem.tail _ (List.Mem.tail _ (List.Mem.head _)))))) ?_
  refine am_aload_n dX5_start_135 (List.Mem.tail _ (List.Mem.tail _ (List.Mem.head _))) ?_
  refine am_iload dX5_start_136 (List.Mem.tail _ (List.Mem.tail _ (List.Mem.tail _ (List.Mem.head _)))) ?_
  refine am_iload dX5_start_138 (List.Mem.tail _ (List.Mem.tail _ (List.Mem.tail _ (List.Mem.tail _ (List.Mem.tail _ (List.Mem.head _)))))) ?_
  exact am_callv (d' := d) (kc := 0) (ks := 0) (as := [.inl x4, .inl x8]) dX5_start_140 wc_X3_partDepth wd_1207 wd_1208 wd_1209 wd_116 ds_X3_partDepth (by decide) (Nat.le_refl _) (Nat.le_of_ble_eq_true rfl) (Nat.zero_le _) (Nat.zero_le _) hc_4 (by decide) rfl rfl h
theorem bX5_start_143 {SC : Nat → Nat} {X : mh_X} {d : Nat} {Q : Option am_V → am_W → Prop} {bc bs : Nat} {w : am_W} {x7 : Int} {j0 : Nat} {j3 : Nat} {x4 : Int} {x5 : Int} {x8 : Int} {x9 : Int} {xs0 : Int} {xs1 : Int} {js2 : Nat}
    (h : (0 ≤ xs1 ∧ (xs1 < 4 ∧ am_A (mh_G X) SC (d + 1) mX5_start Q 72 [(0, .inr (.inr (some (11, j0)))), (3, .inr (.inr (some (10, j3)))), (4, .inl x4), (5, .inl x5), (6, .inl x9), (7, .inl x7), (8, .inl (am_w (x8 + 1)))] [] ((am_up w.1 155 js2 xs1.toNat xs0), w.2) bc bs))) :
    am_A (mh_G X) SC (d + 1) mX5_start Q 143 [(7, .inl x7), (0, .inr (.inr (some (11, j0)))), (3, .inr (.inr (some (10, j3)))), (4, .inl x4), (5, .inl x5), (8, .inl x8), (9, .inl x9)] [.inl xs0, .inl xs1, .inr (.inr (some (155, js2)))] w bc bs := by
  have o1 := h.1
  replace h := h.2
  have o2 := h.1
  replace h := h.2
  refine am_iastore dX5_start_143 (Or.inl (by decide)) rfl o1 o2 ?_
  refine am_iload dX5_start_144 (List.Mem.tail _ (List.Mem.tail _ (List.Mem.tail _ (List.Mem.tail _ (List.Mem.tail _ (List.Mem.tail _ (List.Mem.head _))))))) ?_
  refine am_istore (ls' := [(6, .inl x9), (7, .inl x7), (0, .inr (.inr (some (11, j0)))), (3, .inr (.inr (some (10, j3)))), (4, .inl x4), (5, .inl x5), (8, .inl x8), (9, .inl x9)]) dX5_start_146 (by decide) rfl ?_
  refine am_iinc (ls' := [(8, .inl (am_w (x8 + 1))), (6, .inl x9), (7, .inl x7), (0, .inr (.inr (some (11, j0)))), (3, .inr (.inr (some (10, j3)))), (4, .inl x4), (5, .inl x5), (9, .inl x9)]) dX5_start_148 (List.Mem.tail _ (List.Mem.tail _ (List.Mem.tail _ (List.Mem.tail _ (List.Mem.tail _ (List.Mem.tail _ (List.Mem.head _))))))) (by decide) rfl ?_
  refine am_goto (tgt := 72) dX5_start_151 (by decide) ?_
  exact am_sub [3, 4, 5, 6, 1, 2, 0] rfl h
-- MourningHouse$Mourning.isOn(I)Z
theorem dX5_isOn_0 : decode mX5_isOn.2.1 0 = .ok (.aload_n 0, 1) := by decide +kernel
theorem dX5_isOn_1 : decode mX5_isOn.2.1 1 = .ok (.getfield 37, 3) := by decide +kernel
theorem dX5_isOn_4 : decode mX5_isOn.2.1 4 = .ok (.ifCond .ne 15, 3) := by decide +kernel
theorem dX5_isOn_7 : decode mX5_isOn.2.1 7 = .ok (.aload_n 0, 1) := by decide +kernel
theorem dX5_isOn_8 : decode mX5_isOn.2.1 8 = .ok (.getfield 27, 3) := by decide +kernel
theorem dX5_isOn_11 : decode mX5_isOn.2.1 11 = .ok (.iload_n 1, 1) := by decide +kernel
theorem dX5_isOn_12 : decode mX5_isOn.2.1 12 = .ok (.if_icmp .gt 7, 3) := by decide +kernel
theorem dX5_isOn_15 : decode mX5_isOn.2.1 15 = .ok (.iconst 1, 1) := by decide +kernel
theorem dX5_isOn_16 : decode mX5_isOn.2.1 16 = .ok (.goto 4, 3) := by decide +kernel
theorem dX5_isOn_19 : decode mX5_isOn.2.1 19 = .ok (.iconst 0, 1) := by decide +kernel
theorem dX5_isOn_20 : decode mX5_isOn.2.1 20 = .ok (.ireturn, 1) := by decide +kernel
theorem bX5_isOn_0 {SC : Nat → Nat} {X : mh_X} {d : Nat} {Q : Option am_V → am_W → Prop} {bc bs : Nat} {w : am_W} {j0 : Nat} {x1 : Int}
    (h : ((¬ (w.1 11 j0 7) = 0 → Q (some (.inl 0)) w) ∧ ((w.1 11 j0 7) = 0 → ((x1 < (w.1 11 j0 4) → Q (some (.inl 0)) w) ∧ (¬ x1 < (w.1 11 j0 4) → Q (some (.inl 1)) w))))) :
    am_A (mh_G X) SC (d + 1) mX5_isOn Q 0 [(0, .inr (.inr (some (11, j0)))), (1, .inl x1)] [] w bc bs := by
  refine am_aload_n dX5_isOn_0 (List.Mem.head _) ?_
  refine am_getf (f := 7) (v := .inl (w.1 11 j0 7)) dX5_isOn_1 hc_7 (by decide) wd_409 (by decide) rfl rfl ?_
  refine am_ifne (tgt := 19) dX5_isOn_4 (by decide) (fun c1 => ?_) (fun c1 => ?_)
  · replace h := h.1 c1
    refine am_iconst dX5_isOn_19 (by unfold am_rg; omega) ?_
    exact am_ret (r := some (.inl 0)) dX5_isOn_20 (Or.inr (Or.inl ⟨rfl, (Or.inl rfl)⟩)) rfl h
  · replace h := h.2 c1
    refine am_aload_n dX5_isOn_7 (List.Mem.head _) ?_
    refine am_getf (f := 4) (v := .inl (w.1 11 j0 4)) dX5_isOn_8 hc_7 (by decide) wd_404 (by decide) rfl rfl ?_
    refine am_iload_n dX5_isOn_11 (List.Mem.tail _ (List.Mem.head _)) ?_
    refine am_icmpgt (tgt := 19) dX5_isOn_12 (by decide) (fun c2 => ?_) (fun c2 => ?_)
    · replace h := h.1 c2
      refine am_iconst dX5_isOn_19 (by unfold am_rg; omega) ?_
      exact am_ret (r := some (.inl 0)) dX5_isOn_20 (Or.inr (Or.inl ⟨rfl, (Or.inl rfl)⟩)) rfl h
    · replace h := h.2 c2
      refine am_iconst dX5_isOn_15 (by unfold am_rg; omega) ?_
      refine am_goto (tgt := 20) dX5_isOn_16 (by decide) ?_
      exact am_ret (r := some (.inl 1)) dX5_isOn_20 (Or.inr (Or.inl ⟨rfl, (Or.inr rfl)⟩)) rfl h
-- MourningHouse$Mourning.depthNow()I
theorem dX5_depthNow_0 : decode mX5_depthNow.2.1 0 = .ok (.aload_n 0, 1) := by decide +kernel
theorem dX5_depthNow_1 : decode mX5_depthNow.2.1 1 = .ok (.getfield 17, 3) := by decide +kernel
theorem dX5_depthNow_4 : decode mX5_depthNow.2.1 4 = .ok (.aload_n 0, 1) := by decide +kernel
theorem dX5_depthNow_5 : decode mX5_depthNow.2.1 5 = .ok (.getfield 46, 3) := by decide +kernel
theorem dX5_depthNow_8 : decode mX5_depthNow.2.1 8 = .ok (.iaload, 1) := by decide +kernel
theorem dX5_depthNow_9 : decode mX5_depthNow.2.1 9 = .ok (.ireturn, 1) := by decide +kernel
theorem bX5_depthNow_0 {SC : Nat → Nat} {X : mh_X} {d : Nat} {Q : Option am_V → am_W → Prop} {bc bs : Nat} {w : am_W} {j0 : Nat}
    (h : (0 ≤ (w.1 11 j0 10) ∧ ((w.1 11 j0 10) < 4 ∧ Q (some (.inl (w.1 155 j0 (w.1 11 j0 10).toNat))) w))) :
    am_A (mh_G X) SC (d + 1) mX5_depthNow Q 0 [(0, .inr (.inr (some (11, j0))))] [] w bc bs := by
  refine am_aload_n dX5_depthNow_0 (List.Mem.head _) ?_
  refine am_getf (f := 1) (v := .inr (.inr (some (155, j0)))) dX5_depthNow_1 hc_7 (by decide) wd_400 (by decide) rfl rfl ?_
  refine am_aload_n dX5_depthNow_4 (List.Mem.head _) ?_
  refine am_getf (f := 10) (v := .inl (w.1 11 j0 10)) dX5_depthNow_5 hc_7 (by decide) wd_414 (by decide) rfl rfl ?_
  have o1 := h.1
  replace h := h.2
  have o2 := h.1
  replace h := h.2
  refine am_iaload (v := (w.1 155 j0 (w.1 11 j0 10).toNat)) dX5_depthNow_8 (by decide) rfl o1 o2 rfl ?_
  exact am_ret (r := some (.inl (w.1 155 j0 (w.1 11 j0 10).toNat))) dX5_depthNow_9 (Or.inl rfl) rfl h
-- MourningHouse$Mourning.goesOn(I)Z
theorem dX5_goesOn_0 : decode mX5_goesOn.2.1 0 = .ok (.aload_n 0, 1) := by decide +kernel
theorem dX5_goesOn_1 : decode mX5_goesOn.2.1 1 = .ok (.getfield 30, 3) := by decide +kernel
theorem dX5_goesOn_4 : decode mX5_goesOn.2.1 4 = .ok (.ifCond .eq 16, 3) := by decide +kernel
theorem dX5_goesOn_7 : decode mX5_goesOn.2.1 7 = .ok (.aload_n 0, 1) := by decide +kernel
theorem dX5_goesOn_8 : decode mX5_goesOn.2.1 8 = .ok (.getfield 17, 3) := by decide +kernel
theorem dX5_goesOn_11 : decode mX5_goesOn.2.1 11 = .ok (.aload_n 0, 1) := by decide +kernel
theorem dX5_goesOn_12 : decode mX5_goesOn.2.1 12 = .ok (.getfield 46, 3) := by decide +kernel
theorem dX5_goesOn_15 : decode mX5_goesOn.2.1 15 = .ok (.iaload, 1) := by decide +kernel
theorem dX5_goesOn_16 : decode mX5_goesOn.2.1 16 = .ok (.iload_n 1, 1) := by decide +kernel
theorem dX5_goesOn_17 : decode mX5_goesOn.2.1 17 = .ok (.if_icmp .ne 7, 3) := by decide +kernel
theorem dX5_goesOn_20 : decode mX5_goesOn.2.1 20 = .ok (.iconst 1, 1) := by decide +kernel
theorem dX5_goesOn_21 : decode mX5_goesOn.2.1 21 = .ok (.goto 4, 3) := by decide +kernel
theorem dX5_goesOn_24 : decode mX5_goesOn.2.1 24 = .ok (.iconst 0, 1) := by decide +kernel
theorem dX5_goesOn_25 : decode mX5_goesOn.2.1 25 = .ok (.ireturn, 1) := by decide +kernel
theorem bX5_goesOn_0 {SC : Nat → Nat} {X : mh_X} {d : Nat} {Q : Option am_V → am_W → Prop} {bc bs : Nat} {w : am_W} {j0 : Nat} {x1 : Int}
    (h : (((w.1 11 j0 5) = 0 → Q (some (.inl 1)) w) ∧ (¬ (w.1 11 j0 5) = 0 → (0 ≤ (w.1 11 j0 10) ∧ ((w.1 11 j0 10) < 4 ∧ ((¬ (w.1 155 j0 (w.1 11 j0 10).toNat) = x1 → Q (some (.inl 0)) w) ∧ ((w.1 155 j0 (w.1 11 j0 10).toNat) = x1 → Q (some (.inl 1)) w))))))) :
    am_A (mh_G X) SC (d + 1) mX5_goesOn Q 0 [(0, .inr (.inr (some (11, j0)))), (1, .inl x1)] [] w bc bs := by
  refine am_aload_n dX5_goesOn_0 (List.Mem.head _) ?_
  refine am_getf (f := 5) (v := .inl (w.1 11 j0 5)) dX5_goesOn_1 hc_7 (by decide) wd_406 (by decide) rfl rfl ?_
  refine am_ifeq (tgt := 20) dX5_goesOn_4 (by decide) (fun c1 => ?_) (fun c1 => ?_)
  · replace h := h.1 c1
    refine am_iconst dX5_goesOn_20 (by unfold am_rg; omega) ?_
    refine am_goto (tgt := 25) dX5_goesOn_21 (by decide) ?_
    exact am_ret (r := some (.inl 1)) dX5_goesOn_25 (Or.inr (Or.inl ⟨rfl, (Or.inr rfl)⟩)) rfl h
  · replace h := h.2 c1
    refine am_aload_n dX5_goesOn_7 (List.Mem.head _) ?_
    refine am_getf (f := 1) (v := .inr (.inr (some (155, j0)))) dX5_goesOn_8 hc_7 (by decide) wd_400 (by decide) rfl rfl ?_
    refine am_aload_n dX5_goesOn_11 (List.Mem.head _) ?_
    refine am_getf (f := 10) (v := .inl (w.1 11 j0 10)) dX5_goesOn_12 hc_7 (by decide) wd_414 (by decide) rfl rfl ?_
    have o2 := h.1
    replace h := h.2
    have o3 := h.1
    replace h := h.2
    refine am_iaload (v := (w.1 155 j0 (w.1 11 j0 10).toNat)) dX5_goesOn_15 (by decide) rfl o2 o3 rfl ?_
    refine am_iload_n dX5_goesOn_16 (List.Mem.tail _ (List.Mem.head _)) ?_
    refine am_icmpne (tgt := 24) dX5_goesOn_17 (by decide) (fun c4 => ?_) (fun c4 => ?_)
    · replace h := h.1 c4
      refine am_iconst dX5_goesOn_24 (by unfold am_rg; omega) ?_
      exact am_ret (r := some (.inl 0)) dX5_goesOn_25 (Or.inr (Or.inl ⟨rfl, (Or.inl rfl)⟩)) rfl h
    · replace h := h.2 c4
      refine am_iconst dX5_goesOn_20 (by unfold am_rg; omega) ?_
      refine am_goto (tgt := 25) dX5_goesOn_21 (by decide) ?_
      exact am_ret (r := some (.inl 1)) dX5_goesOn_25 (Or.inr (Or.inl ⟨rfl, (Or.inr rfl)⟩)) rfl h
-- MourningHouse$Mourning.leftInPart()I
theorem dX5_leftInPart_0 : decode mX5_leftInPart.2.1 0 = .ok (.aload_n 0, 1) := by decide +kernel
theorem dX5_leftInPart_1 : decode mX5_leftInPart.2.1 1 = .ok (.getfield 11, 3) := by decide +kernel
theorem dX5_leftInPart_4 : decode mX5_leftInPart.2.1 4 = .ok (.aload_n 0, 1) := by decide +kernel
theorem dX5_leftInPart_5 : decode mX5_leftInPart.2.1 5 = .ok (.getfield 46, 3) := by decide +kernel
theorem dX5_leftInPart_8 : decode mX5_leftInPart.2.1 8 = .ok (.iaload, 1) := by decide +kernel
theorem dX5_leftInPart_9 : decode mX5_leftInPart.2.1 9 = .ok (.aload_n 0, 1) := by decide +kernel
theorem dX5_leftInPart_10 : decode mX5_leftInPart.2.1 10 = .ok (.getfield 43, 3) := by decide +kernel
theorem dX5_leftInPart_13 : decode mX5_leftInPart.2.1 13 = .ok (.isub, 1) := by decide +kernel
theorem dX5_leftInPart_14 : decode mX5_leftInPart.2.1 14 = .ok (.ireturn, 1) := by decide +kernel
theorem bX5_leftInPart_0 {SC : Nat → Nat} {X : mh_X} {d : Nat} {Q : Option am_V → am_W → Prop} {bc bs : Nat} {w : am_W} {j0 : Nat}
    (h : (0 ≤ (w.1 11 j0 10) ∧ ((w.1 11 j0 10) < 4 ∧ Q (some (.inl (am_w ((w.1 154 j0 (w.1 11 j0 10).toNat) - (w.1 11 j0 9))))) w))) :
    am_A (mh_G X) SC (d + 1) mX5_leftInPart Q 0 [(0, .inr (.inr (some (11, j0))))] [] w bc bs := by
  refine am_aload_n dX5_leftInPart_0 (List.Mem.head _) ?_
  refine am_getf (f := 0) (v := .inr (.inr (some (154, j0)))) dX5_leftInPart_1 hc_7 (by decide) wd_399 (by decide) rfl rfl ?_
  refine am_aload_n dX5_leftInPart_4 (List.Mem.head _) ?_
  refine am_getf (f := 10) (v := .inl (w.1 11 j0 10)) dX5_leftInPart_5 hc_7 (by decide) wd_414 (by decide) rfl rfl ?_
  have o1 := h.1
  replace h := h.2
  have o2 := h.1
  replace h := h.2
  refine am_iaload (v := (w.1 154 j0 (w.1 11 j0 10).toNat)) dX5_leftInPart_8 (by decide) rfl o1 o2 rfl ?_
  refine am_aload_n dX5_leftInPart_9 (List.Mem.head _) ?_
  refine am_getf (f := 9) (v := .inl (w.1 11 j0 9)) dX5_leftInPart_10 hc_7 (by decide) wd_413 (by decide) rfl rfl ?_
  refine am_isub dX5_leftInPart_13 ?_
  exact am_ret (r := some (.inl (am_w ((w.1 154 j0 (w.1 11 j0 10).toNat) - (w.1 11 j0 9))))) dX5_leftInPart_14 (Or.inl rfl) rfl h
-- MourningHouse$Mourning.pass(II)V
theorem dX5_pass_0 : decode mX5_pass.2.1 0 = .ok (.aload_n 0, 1) := by decide +kernel
theorem dX5_pass_1 : decode mX5_pass.2.1 1 = .ok (.dup, 1) := by decide +kernel
theorem dX5_pass_2 : decode mX5_pass.2.1 2 = .ok (.getfield 43, 3) := by decide +kernel
theorem dX5_pass_5 : decode mX5_pass.2.1 5 = .ok (.iload_n 1, 1) := by decide +kernel
theorem dX5_pass_6 : decode mX5_pass.2.1 6 = .ok (.iadd, 1) := by decide +kernel
theorem dX5_pass_7 : decode mX5_pass.2.1 7 = .ok (.putfield 43, 3) := by decide +kernel
theorem dX5_pass_10 : decode mX5_pass.2.1 10 = .ok (.aload_n 0, 1) := by decide +kernel
theorem dX5_pass_11 : decode mX5_pass.2.1 11 = .ok (.getfield 43, 3) := by decide +kernel
theorem dX5_pass_14 : decode mX5_pass.2.1 14 = .ok (.aload_n 0, 1) := by decide +kernel
theorem dX5_pass_15 : decode mX5_pass.2.1 15 = .ok (.getfield 11, 3) := by decide +kernel
theorem dX5_pass_18 : decode mX5_pass.2.1 18 = .ok (.aload_n 0, 1) := by decide +kernel
theorem dX5_pass_19 : decode mX5_pass.2.1 19 = .ok (.getfield 46, 3) := by decide +kernel
theorem dX5_pass_22 : decode mX5_pass.2.1 22 = .ok (.iaload, 1) := by decide +kernel
theorem dX5_pass_23 : decode mX5_pass.2.1 23 = .ok (.if_icmp .ge 4, 3) := by decide +kernel
theorem dX5_pass_26 : decode mX5_pass.2.1 26 = .ok (.return_, 1) := by decide +kernel
theorem dX5_pass_27 : decode mX5_pass.2.1 27 = .ok (.aload_n 0, 1) := by decide +kernel
theorem dX5_pass_28 : decode mX5_pass.2.1 28 = .ok (.getfield 46, 3) := by decide +kernel
theorem dX5_pass_31 : decode mX5_pass.2.1 31 = .ok (.aload_n 0, 1) := by decide +kernel
theorem dX5_pass_32 : decode mX5_pass.2.1 32 = .ok (.getfield 20, 3) := by decide +kernel
theorem dX5_pass_35 : decode mX5_pass.2.1 35 = .ok (.iconst 1, 1) := by decide +kernel
theorem dX5_pass_36 : decode mX5_pass.2.1 36 = .ok (.isub, 1) := by decide +kernel
theorem dX5_pass_37 : decode mX5_pass.2.1 37 = .ok (.if_icmp .ne 13, 3) := by decide +kernel
theorem dX5_pass_40 : decode mX5_pass.2.1 40 = .ok (.aload_n 0, 1) := by decide +kernel
theorem dX5_pass_41 : decode mX5_pass.2.1 41 = .ok (.iload_n 2, 1) := by decide +kernel
theorem dX5_pass_42 : decode mX5_pass.2.1 42 = .ok (.iconst 1, 1) := by decide +kernel
theorem dX5_pass_43 : decode mX5_pass.2.1 43 = .ok (.isub, 1) := by decide +kernel
theorem dX5_pass_44 : decode mX5_pass.2.1 44 = .ok (.invokevirtual 66, 3) := by decide +kernel
theorem dX5_pass_47 : decode mX5_pass.2.1 47 = .ok (.goto 13, 3) := by decide +kernel
theorem dX5_pass_50 : decode mX5_pass.2.1 50 = .ok (.aload_n 0, 1) := by decide +kernel
theorem dX5_pass_51 : decode mX5_pass.2.1 51 = .ok (.dup, 1) := by decide +kernel
theorem dX5_pass_52 : decode mX5_pass.2.1 52 = .ok (.getfield 46, 3) := by decide +kernel
theorem dX5_pass_55 : decode mX5_pass.2.1 55 = .ok (.iconst 1, 1) := by decide +kernel
theorem dX5_pass_56 : decode mX5_pass.2.1 56 = .ok (.iadd, 1) := by decide +kernel
theorem dX5_pass_57 : decode mX5_pass.2.1 57 = .ok (.putfield 46, 3) := by decide +kernel
theorem dX5_pass_60 : decode mX5_pass.2.1 60 = .ok (.return_, 1) := by decide +kernel
theorem bX5_pass_0 {SC : Nat → Nat} {X : mh_X} {d : Nat} {Q : Option am_V → am_W → Prop} {bc bs : Nat} {w : am_W} {j0 : Nat} {x1 : Int} {x2 : Int}
    (h : (0 ≤ ((am_up w.1 11 j0 9 (am_w ((w.1 11 j0 9) + x1))) 11 j0 10) ∧ (((am_up w.1 11 j0 9 (am_w ((w.1 11 j0 9) + x1))) 11 j0 10) < 4 ∧ (((w.1 154 j0 ((am_up w.1 11 j0 9 (am_w ((w.1 11 j0 9) + x1))) 11 j0 10).toNat) ≤ ((am_up w.1 11 j0 9 (am_w ((w.1 11 j0 9) + x1))) 11 j0 9) → ((¬ ((am_up w.1 11 j0 9 (am_w ((w.1 11 j0 9) + x1))) 11 j0 10) = (am_w (((am_up w.1 11 j0 9 (am_w ((w.1 11 j0 9) + x1))) 11 j0 2) - 1)) → Q none ((am_up (am_up w.1 11 j0 9 (am_w ((w.1 11 j0 9) + x1))) 11 j0 10 (am_w (((am_up w.1 11 j0 9 (am_w ((w.1 11 j0 9) + x1))) 11 j0 10) + 1))), w.2)) ∧ (((am_up w.1 11 j0 9 (am_w ((w.1 11 j0 9) + x1))) 11 j0 10) = (am_w (((am_up w.1 11 j0 9 (am_w ((w.1 11 j0 9) + x1))) 11 j0 2) - 1)) → am_M (mh_G X) SC d 0 0 mX5_finish [.inr (.inr (some (11, j0))), .inl (am_w (x2 - 1))] ((am_up w.1 11 j0 9 (am_w ((w.1 11 j0 9) + x1))), w.2) (fun r w1 => am_A (mh_G X) SC (d + 1) mX5_pass Q 47 [(0, .inr (.inr (some (11, j0)))), (1, .inl x1), (2, .inl x2)] (r.toList ++ []) w1 bc bs)))) ∧ (¬ (w.1 154 j0 ((am_up w.1 11 j0 9 (am_w ((w.1 11 j0 9) + x1))) 11 j0 10).toNat) ≤ ((am_up w.1 11 j0 9 (am_w ((w.1 11 j0 9) + x1))) 11 j0 9) → Q none ((am_up w.1 11 j0 9 (am_w ((w.1 11 j0 9) + x1))), w.2)))))) :
    am_A (mh_G X) SC (d + 1) mX5_pass Q 0 [(0, .inr (.inr (some (11, j0)))), (1, .inl x1), (2, .inl x2)] [] w bc bs := by
  refine am_aload_n dX5_pass_0 (List.Mem.head _) ?_
  refine am_dup dX5_pass_1 rfl ?_
  refine am_getf (f := 9) (v := .inl (w.1 11 j0 9)) dX5_pass_2 hc_7 (by decide) wd_413 (by decide) rfl rfl ?_
  refine am_iload_n dX5_pass_5 (List.Mem.tail _ (List.Mem.head _)) ?_
  refine am_iadd dX5_pass_6 ?_
  refine am_putf (f := 9) dX5_pass_7 hc_7 (by decide) wd_413 rfl (Or.inl rfl) (Or.inl (by decide)) rfl ?_
  refine am_aload_n dX5_pass_10 (List.Mem.head _) ?_
  refine am_getf (f := 9) (v := .inl ((am_up w.1 11 j0 9 (am_w ((w.1 11 j0 9) + x1))) 11 j0 9)) dX5_pass_11 hc_7 (by decide) wd_413 (by decide) rfl rfl ?_
  refine am_aload_n dX5_pass_14 (List.Mem.head _) ?_
  refine am_getf (f := 0) (v := .inr (.inr (some (154, j0)))) dX5_pass_15 hc_7 (by decide) wd_399 (by decide) rfl rfl ?_
  refine am_aload_n dX5_pass_18 (List.Mem.head _) ?_
  refine am_getf (f := 10) (v := .inl ((am_up w.1 11 j0 9 (am_w ((w.1 11 j0 9) + x1))) 11 j0 10)) dX5_pass_19 hc_7 (by decide) wd_414 (by decide) rfl rfl ?_
  have o1 := h.1
  replace h := h.2
  have o2 := h.1
  replace h := h.2
  refine am_iaload (v := (w.1 154 j0 ((am_up w.1 11 j0 9 (am_w ((w.1 11 j0 9) + x1))) 11 j0 10).toNat)) dX5_pass_22 (by decide) rfl o1 o2 rfl ?_
  refine am_icmpge (tgt := 27) dX5_pass_23 (by decide) (fun c3 => ?_) (fun c3 => ?_)
  · replace h := h.1 c3
    refine am_aload_n dX5_pass_27 (List.Mem.head _) ?_
    refine am_getf (f := 10) (v := .inl ((am_up w.1 11 j0 9 (am_w ((w.1 11 j0 9) + x1))) 11 j0 10)) dX5_pass_28 hc_7 (by decide) wd_414 (by decide) rfl rfl ?_
    refine am_aload_n dX5_pass_31 (List.Mem.head _) ?_
    refine am_getf (f := 2) (v := .inl ((am_up w.1 11 j0 9 (am_w ((w.1 11 j0 9) + x1))) 11 j0 2)) dX5_pass_32 hc_7 (by decide) wd_401 (by decide) rfl rfl ?_
    refine am_iconst dX5_pass_35 (by unfold am_rg; omega) ?_
    refine am_isub dX5_pass_36 ?_
    refine am_icmpne (tgt := 50) dX5_pass_37 (by decide) (fun c4 => ?_) (fun c4 => ?_)
    · replace h := h.1 c4
      refine am_aload_n dX5_pass_50 (List.Mem.head _) ?_
      refine am_dup dX5_pass_51 rfl ?_
      refine am_getf (f := 10) (v := .inl ((am_up w.1 11 j0 9 (am_w ((w.1 11 j0 9) + x1))) 11 j0 10)) dX5_pass_52 hc_7 (by decide) wd_414 (by decide) rfl rfl ?_
      refine am_iconst dX5_pass_55 (by unfold am_rg; omega) ?_
      refine am_iadd dX5_pass_56 ?_
      refine am_putf (f := 10) dX5_pass_57 hc_7 (by decide) wd_414 rfl (Or.inl rfl) (Or.inl (by decide)) rfl ?_
      exact am_ret (r := none) dX5_pass_60 rfl rfl h
    · replace h := h.2 c4
      refine am_aload_n dX5_pass_40 (List.Mem.head _) ?_
      refine am_iload_n dX5_pass_41 (List.Mem.tail _ (List.Mem.tail _ (List.Mem.head _))) ?_
      refine am_iconst dX5_pass_42 (by unfold am_rg; omega) ?_
      refine am_isub dX5_pass_43 ?_
      exact am_callv (d' := d) (kc := 0) (ks := 0) (as := [.inl (am_w (x2 - 1))]) dX5_pass_44 wc_X5_finish wd_1255 wd_1256 wd_1257 wd_119 ds_X5_finish (by decide) (Nat.le_refl _) (Nat.le_of_ble_eq_true rfl) (Nat.zero_le _) (Nat.zero_le _) hc_7 (by decide) rfl rfl h
  · replace h := h.2 c3
    exact am_ret (r := none) dX5_pass_26 rfl rfl h
theorem bX5_pass_47 {SC : Nat → Nat} {X : mh_X} {d : Nat} {Q : Option am_V → am_W → Prop} {bc bs : Nat} {w : am_W} {j0 : Nat} {x1 : Int} {x2 : Int}
    (h : Q none w) :
    am_A (mh_G X) SC (d + 1) mX5_pass Q 47 [(0, .inr (.inr (some (11, j0)))), (1, .inl x1), (2, .inl x2)] [] w bc bs := by
  refine am_goto (tgt := 60) dX5_pass_47 (by decide) ?_
  exact am_ret (r := none) dX5_pass_60 rfl rfl h
-- MourningHouse$Mourning.finish(I)V
theorem dX5_finish_0 : decode mX5_finish.2.1 0 = .ok (.aload_n 0, 1) := by decide +kernel
theorem dX5_finish_1 : decode mX5_finish.2.1 1 = .ok (.iconst 1, 1) := by decide +kernel
theorem dX5_finish_2 : decode mX5_finish.2.1 2 = .ok (.putfield 37, 3) := by decide +kernel
theorem dX5_finish_5 : decode mX5_finish.2.1 5 = .ok (.aload_n 0, 1) := by decide +kernel
theorem dX5_finish_6 : decode mX5_finish.2.1 6 = .ok (.iload_n 1, 1) := by decide +kernel
theorem dX5_finish_7 : decode mX5_finish.2.1 7 = .ok (.putfield 40, 3) := by decide +kernel
theorem dX5_finish_10 : decode mX5_finish.2.1 10 = .ok (.return_, 1) := by decide +kernel
theorem bX5_finish_0 {SC : Nat → Nat} {X : mh_X} {d : Nat} {Q : Option am_V → am_W → Prop} {bc bs : Nat} {w : am_W} {j0 : Nat} {x1 : Int}
    (h : Q none ((am_up (am_up w.1 11 j0 7 1) 11 j0 8 x1), w.2)) :
    am_A (mh_G X) SC (d + 1) mX5_finish Q 0 [(0, .inr (.inr (some (11, j0)))), (1, .inl x1)] [] w bc bs := by
  refine am_aload_n dX5_finish_0 (List.Mem.head _) ?_
  refine am_iconst dX5_finish_1 (by unfold am_rg; omega) ?_
  refine am_putf (f := 7) dX5_finish_2 hc_7 (by decide) wd_409 rfl (Or.inr (Or.inl ⟨rfl, (Or.inr rfl)⟩)) (Or.inl (by decide)) rfl ?_
  refine am_aload_n dX5_finish_5 (List.Mem.head _) ?_
  refine am_iload_n dX5_finish_6 (List.Mem.tail _ (List.Mem.head _)) ?_
  refine am_putf (f := 8) dX5_finish_7 hc_7 (by decide) wd_411 rfl (Or.inl rfl) (Or.inl (by decide)) rfl ?_
  exact am_ret (r := none) dX5_finish_10 rfl rfl h
-- MourningHouse$Reader.hasRoom()Z
theorem dX8_hasRoom_0 : decode mX8_hasRoom.2.1 0 = .ok (.aload_n 0, 1) := by decide +kernel
theorem dX8_hasRoom_1 : decode mX8_hasRoom.2.1 1 = .ok (.getfield 20, 3) := by decide +kernel
theorem dX8_hasRoom_4 : decode mX8_hasRoom.2.1 4 = .ok (.sipush 2980, 3) := by decide +kernel
theorem dX8_hasRoom_7 : decode mX8_hasRoom.2.1 7 = .ok (.if_icmp .gt 7, 3) := by decide +kernel
theorem dX8_hasRoom_10 : decode mX8_hasRoom.2.1 10 = .ok (.iconst 1, 1) := by decide +kernel
theorem dX8_hasRoom_11 : decode mX8_hasRoom.2.1 11 = .ok (.goto 4, 3) := by decide +kernel
theorem dX8_hasRoom_14 : decode mX8_hasRoom.2.1 14 = .ok (.iconst 0, 1) := by decide +kernel
theorem dX8_hasRoom_15 : decode mX8_hasRoom.2.1 15 = .ok (.ireturn, 1) := by decide +kernel
theorem bX8_hasRoom_0 {SC : Nat → Nat} {X : mh_X} {d : Nat} {Q : Option am_V → am_W → Prop} {bc bs : Nat} {w : am_W} 
    (h : ((2980 < (w.1 2 0 3) → Q (some (.inl 0)) w) ∧ (¬ 2980 < (w.1 2 0 3) → Q (some (.inl 1)) w))) :
    am_A (mh_G X) SC (d + 1) mX8_hasRoom Q 0 [(0, .inr (.inr (some (2, 0))))] [] w bc bs := by
  refine am_aload_n dX8_hasRoom_0 (List.Mem.head _) ?_
  refine am_getf (f := 3) (v := .inl (w.1 2 0 3)) dX8_hasRoom_1 hc_1 (by decide) wd_153 (by decide) rfl rfl ?_
  refine am_sipush dX8_hasRoom_4 (by decide) (by unfold am_rg; omega) ?_
  refine am_icmpgt (tgt := 14) dX8_hasRoom_7 (by decide) (fun c1 => ?_) (fun c1 => ?_)
  · replace h := h.1 c1
    refine am_iconst dX8_hasRoom_14 (by unfold am_rg; omega) ?_
    exact am_ret (r := some (.inl 0)) dX8_hasRoom_15 (Or.inr (Or.inl ⟨rfl, (Or.inl rfl)⟩)) rfl h
  · replace h := h.2 c1
    refine am_iconst dX8_hasRoom_10 (by unfold am_rg; omega) ?_
    refine am_goto (tgt := 15) dX8_hasRoom_11 (by decide) ?_
    exact am_ret (r := some (.inl 1)) dX8_hasRoom_15 (Or.inr (Or.inl ⟨rfl, (Or.inr rfl)⟩)) rfl h
-- MourningHouse$Reader.append(I)V
theorem dX8_append_0 : decode mX8_append.2.1 0 = .ok (.bipush 24, 2) := by decide +kernel
theorem dX8_append_2 : decode mX8_append.2.1 2 = .ok (.istore_n 2, 1) := by decide +kernel
theorem dX8_append_3 : decode mX8_append.2.1 3 = .ok (.iload_n 2, 1) := by decide +kernel
theorem dX8_append_4 : decode mX8_append.2.1 4 = .ok (.ifCond .lt 46, 3) := by decide +kernel
theorem dX8_append_7 : decode mX8_append.2.1 7 = .ok (.aload_n 0, 1) := by decide +kernel
theorem dX8_append_8 : decode mX8_append.2.1 8 = .ok (.getfield 20, 3) := by decide +kernel
theorem dX8_append_11 : decode mX8_append.2.1 11 = .ok (.sipush 3000, 3) := by decide +kernel
theorem dX8_append_14 : decode mX8_append.2.1 14 = .ok (.if_icmp .ge 30, 3) := by decide +kernel
theorem dX8_append_17 : decode mX8_append.2.1 17 = .ok (.aload_n 0, 1) := by decide +kernel
theorem dX8_append_18 : decode mX8_append.2.1 18 = .ok (.getfield 9, 3) := by decide +kernel
theorem dX8_append_21 : decode mX8_append.2.1 21 = .ok (.aload_n 0, 1) := by decide +kernel
theorem dX8_append_22 : decode mX8_append.2.1 22 = .ok (.getfield 20, 3) := by decide +kernel
theorem dX8_append_25 : decode mX8_append.2.1 25 = .ok (.iload_n 1, 1) := by decide +kernel
theorem dX8_append_26 : decode mX8_append.2.1 26 = .ok (.iload_n 2, 1) := by decide +kernel
theorem dX8_append_27 : decode mX8_append.2.1 27 = .ok (.ishr, 1) := by decide +kernel
theorem dX8_append_28 : decode mX8_append.2.1 28 = .ok (.sipush 255, 3) := by decide +kernel
theorem dX8_append_31 : decode mX8_append.2.1 31 = .ok (.iand, 1) := by decide +kernel
theorem dX8_append_32 : decode mX8_append.2.1 32 = .ok (.i2c, 1) := by decide +kernel
theorem dX8_append_33 : decode mX8_append.2.1 33 = .ok (.castore, 1) := by decide +kernel
theorem dX8_append_34 : decode mX8_append.2.1 34 = .ok (.aload_n 0, 1) := by decide +kernel
theorem dX8_append_35 : decode mX8_append.2.1 35 = .ok (.dup, 1) := by decide +kernel
theorem dX8_append_36 : decode mX8_append.2.1 36 = .ok (.getfield 20, 3) := by decide +kernel
theorem dX8_append_39 : decode mX8_append.2.1 39 = .ok (.iconst 1, 1) := by decide +kernel
theorem dX8_append_40 : decode mX8_append.2.1 40 = .ok (.iadd, 1) := by decide +kernel
theorem dX8_append_41 : decode mX8_append.2.1 41 = .ok (.putfield 20, 3) := by decide +kernel
theorem dX8_append_44 : decode mX8_append.2.1 44 = .ok (.iinc 2 (-8), 3) := by decide +kernel
theorem dX8_append_47 : decode mX8_append.2.1 47 = .ok (.goto (-44), 3) := by decide +kernel
theorem dX8_append_50 : decode mX8_append.2.1 50 = .ok (.return_, 1) := by decide +kernel
theorem bX8_append_0 {SC : Nat → Nat} {X : mh_X} {d : Nat} {Q : Option am_V → am_W → Prop} {bc bs : Nat} {w : am_W} {x1 : Int}
    (h : am_A (mh_G X) SC (d + 1) mX8_append Q 3 [(0, .inr (.inr (some (2, 0)))), (1, .inl x1), (2, .inl 24)] [] w bc bs) :
    am_A (mh_G X) SC (d + 1) mX8_append Q 0 [(0, .inr (.inr (some (2, 0)))), (1, .inl x1)] [] w bc bs := by
  refine am_bipush dX8_append_0 (by decide) (by unfold am_rg; omega) ?_
  refine am_istore_n (ls' := [(2, .inl 24), (0, .inr (.inr (some (2, 0)))), (1, .inl x1)]) dX8_append_2 (by decide) rfl ?_
  exact am_sub [1, 2, 0] rfl h
theorem bX8_append_3 {SC : Nat → Nat} {X : mh_X} {d : Nat} {Q : Option am_V → am_W → Prop} {bc bs : Nat} {w : am_W} {x1 : Int} {x2 : Int}
    (h : ((x2 < 0 → Q none w) ∧ (¬ x2 < 0 → ((3000 ≤ (w.1 2 0 3) → am_A (mh_G X) SC (d + 1) mX8_append Q 44 [(0, .inr (.inr (some (2, 0)))), (1, .inl x1), (2, .inl x2)] [] w bc bs) ∧ (¬ 3000 ≤ (w.1 2 0 3) → (0 ≤ (w.1 2 0 3) ∧ ((w.1 2 0 3) < 3000 ∧ ((0 ≤ ((am_i2c (am_and (am_shr x1 x2) 255)) : Int) ∧ ((am_i2c (am_and (am_shr x1 x2) 255)) : Int) < 65536) ∧ am_A (mh_G X) SC (d + 1) mX8_append Q 44 [(0, .inr (.inr (some (2, 0)))), (1, .inl x1), (2, .inl x2)] [] ((am_up (am_up w.1 24 0 (w.1 2 0 3).toNat (am_i2c (am_and (am_shr x1 x2) 255))) 2 0 3 (am_w ((w.1 2 0 3) + 1))), w.2) bc bs)))))))) :
    am_A (mh_G X) SC (d + 1) mX8_append Q 3 [(0, .inr (.inr (some (2, 0)))), (1, .inl x1), (2, .inl x2)] [] w bc bs := by
  refine am_iload_n dX8_append_3 (List.Mem.tail _ (List.Mem.tail _ (List.Mem.head _))) ?_
  refine am_iflt (tgt := 50) dX8_append_4 (by decide) (fun c1 => ?_) (fun c1 => ?_)
  · replace h := h.1 c1
    exact am_ret (r := none) dX8_append_50 rfl rfl h
  · replace h := h.2 c1
    refine am_aload_n dX8_append_7 (List.Mem.head _) ?_
    refine am_getf (f := 3) (v := .inl (w.1 2 0 3)) dX8_append_8 hc_1 (by decide) wd_153 (by decide) rfl rfl ?_
    refine am_sipush dX8_append_11 (by decide) (by unfold am_rg; omega) ?_
    refine am_icmpge (tgt := 44) dX8_append_14 (by decide) (fun c2 => ?_) (fun c2 => ?_)
    · replace h := h.1 c2
      exact h
    · replace h := h.2 c2
      refine am_aload_n dX8_append_17 (List.Mem.head _) ?_
      refine am_getf (f := 0) (v := .inr (.inr (some (24, 0)))) dX8_append_18 hc_1 (by decide) wd_150 (by decide) rfl rfl ?_
      refine am_aload_n dX8_append_21 (List.Mem.head _) ?_
      refine am_getf (f := 3) (v := .inl (w.1 2 0 3)) dX8_append_22 hc_1 (by decide) wd_153 (by decide) rfl rfl ?_
      refine am_iload_n dX8_append_25 (List.Mem.tail _ (List.Mem.head _)) ?_
      refine am_iload_n dX8_append_26 (List.Mem.tail _ (List.Mem.tail _ (List.Mem.head _))) ?_
      refine am_ishr dX8_append_27 ?_
      refine am_sipush dX8_append_28 (by decide) (by unfold am_rg; omega) ?_
      refine am_iand dX8_append_31 ?_
      refine am_i2cR dX8_append_32 ?_
      have o3 := h.1
      replace h := h.2
      have o4 := h.1
      replace h := h.2
      have o5 := h.1
      replace h := h.2
      refine am_castore o5 dX8_append_33 (Or.inl (by decide)) rfl o3 o4 ?_
      refine am_aload_n dX8_append_34 (List.Mem.head _) ?_
      refine am_dup dX8_append_35 rfl ?_
      refine am_getf (f := 3) (v := .inl (w.1 2 0 3)) dX8_append_36 hc_1 (by decide) wd_153 (by decide) rfl rfl ?_
      refine am_iconst dX8_append_39 (by unfold am_rg; omega) ?_
      refine am_iadd dX8_append_40 ?_
      refine am_putf (f := 3) dX8_append_41 hc_1 (by decide) wd_153 rfl (Or.inl rfl) (Or.inl (by decide)) rfl ?_
      exact h
theorem bX8_append_44 {SC : Nat → Nat} {X : mh_X} {d : Nat} {Q : Option am_V → am_W → Prop} {bc bs : Nat} {w : am_W} {x1 : Int} {x2 : Int}
    (h : am_A (mh_G X) SC (d + 1) mX8_append Q 3 [(0, .inr (.inr (some (2, 0)))), (1, .inl x1), (2, .inl (am_w (x2 + (-8))))] [] w bc bs) :
    am_A (mh_G X) SC (d + 1) mX8_append Q 44 [(0, .inr (.inr (some (2, 0)))), (1, .inl x1), (2, .inl x2)] [] w bc bs := by
  refine am_iinc (ls' := [(2, .inl (am_w (x2 + (-8)))), (0, .inr (.inr (some (2, 0)))), (1, .inl x1)]) dX8_append_44 (List.Mem.tail _ (List.Mem.tail _ (List.Mem.head _))) (by decide) rfl ?_
  refine am_goto (tgt := 3) dX8_append_47 (by decide) ?_
  exact am_sub [1, 2, 0] rfl h
-- MourningHouse$Reader.readInto(LMourningHouse$Law;)Z
theorem dX8_readInto_0 : decode mX8_readInto.2.1 0 = .ok (.aload_n 0, 1) := by decide +kernel
theorem dX8_readInto_1 : decode mX8_readInto.2.1 1 = .ok (.iconst 0, 1) := by decide +kernel
theorem dX8_readInto_2 : decode mX8_readInto.2.1 2 = .ok (.putfield 24, 3) := by decide +kernel
theorem dX8_readInto_5 : decode mX8_readInto.2.1 5 = .ok (.aload_n 0, 1) := by decide +kernel
theorem dX8_readInto_6 : decode mX8_readInto.2.1 6 = .ok (.iconst 0, 1) := by decide +kernel
theorem dX8_readInto_7 : decode mX8_readInto.2.1 7 = .ok (.putfield 27, 3) := by decide +kernel
theorem dX8_readInto_10 : decode mX8_readInto.2.1 10 = .ok (.aload_n 0, 1) := by decide +kernel
theorem dX8_readInto_11 : decode mX8_readInto.2.1 11 = .ok (.iconst 0, 1) := by decide +kernel
theorem dX8_readInto_12 : decode mX8_readInto.2.1 12 = .ok (.putfield 30, 3) := by decide +kernel
theorem dX8_readInto_15 : decode mX8_readInto.2.1 15 = .ok (.aload_n 1, 1) := by decide +kernel
theorem dX8_readInto_16 : decode mX8_readInto.2.1 16 = .ok (.invokevirtual 42, 3) := by decide +kernel
theorem dX8_readInto_19 : decode mX8_readInto.2.1 19 = .ok (.aload_n 0, 1) := by decide +kernel
theorem dX8_readInto_20 : decode mX8_readInto.2.1 20 = .ok (.iconst 0, 1) := by decide +kernel
theorem dX8_readInto_21 : decode mX8_readInto.2.1 21 = .ok (.putfield 33, 3) := by decide +kernel
theorem dX8_readInto_24 : decode mX8_readInto.2.1 24 = .ok (.iconst 0, 1) := by decide +kernel
theorem dX8_readInto_25 : decode mX8_readInto.2.1 25 = .ok (.istore_n 2, 1) := by decide +kernel
theorem dX8_readInto_26 : decode mX8_readInto.2.1 26 = .ok (.iconst 0, 1) := by decide +kernel
theorem dX8_readInto_27 : decode mX8_readInto.2.1 27 = .ok (.istore_n 3, 1) := by decide +kernel
theorem dX8_readInto_28 : decode mX8_readInto.2.1 28 = .ok (.iload_n 3, 1) := by decide +kernel
theorem dX8_readInto_29 : decode mX8_readInto.2.1 29 = .ok (.aload_n 0, 1) := by decide +kernel
theorem dX8_readInto_30 : decode mX8_readInto.2.1 30 = .ok (.getfield 20, 3) := by decide +kernel
theorem dX8_readInto_33 : decode mX8_readInto.2.1 33 = .ok (.if_icmp .gt 54, 3) := by decide +kernel
theorem dX8_readInto_36 : decode mX8_readInto.2.1 36 = .ok (.iload_n 3, 1) := by decide +kernel
theorem dX8_readInto_37 : decode mX8_readInto.2.1 37 = .ok (.aload_n 0, 1) := by decide +kernel
theorem dX8_readInto_38 : decode mX8_readInto.2.1 38 = .ok (.getfield 20, 3) := by decide +kernel
theorem dX8_readInto_41 : decode mX8_readInto.2.1 41 = .ok (.if_icmp .eq 14, 3) := by decide +kernel
theorem dX8_readInto_44 : decode mX8_readInto.2.1 44 = .ok (.aload_n 0, 1) := by decide +kernel
theorem dX8_readInto_45 : decode mX8_readInto.2.1 45 = .ok (.getfield 9, 3) := by decide +kernel
theorem dX8_readInto_48 : decode mX8_readInto.2.1 48 = .ok (.iload_n 3, 1) := by decide +kernel
theorem dX8_readInto_49 : decode mX8_readInto.2.1 49 = .ok (.caload, 1) := by decide +kernel
theorem dX8_readInto_50 : decode mX8_readInto.2.1 50 = .ok (.bipush 10, 2) := by decide +kernel
theorem dX8_readInto_52 : decode mX8_readInto.2.1 52 = .ok (.if_icmp .ne 29, 3) := by decide +kernel
theorem dX8_readInto_55 : decode mX8_readInto.2.1 55 = .ok (.aload_n 0, 1) := by decide +kernel
theorem dX8_readInto_56 : decode mX8_readInto.2.1 56 = .ok (.dup, 1) := by decide +kernel
theorem dX8_readInto_57 : decode mX8_readInto.2.1 57 = .ok (.getfield 33, 3) := by decide +kernel
theorem dX8_readInto_60 : decode mX8_readInto.2.1 60 = .ok (.iconst 1, 1) := by decide +kernel
theorem dX8_readInto_61 : decode mX8_readInto.2.1 61 = .ok (.iadd, 1) := by decide +kernel
theorem dX8_readInto_62 : decode mX8_readInto.2.1 62 = .ok (.putfield 33, 3) := by decide +kernel
theorem dX8_readInto_65 : decode mX8_readInto.2.1 65 = .ok (.aload_n 0, 1) := by decide +kernel
theorem dX8_readInto_66 : decode mX8_readInto.2.1 66 = .ok (.aload_n 1, 1) := by decide +kernel
theorem dX8_readInto_67 : decode mX8_readInto.2.1 67 = .ok (.iload_n 2, 1) := by decide +kernel
theorem dX8_readInto_68 : decode mX8_readInto.2.1 68 = .ok (.iload_n 3, 1) := by decide +kernel
theorem dX8_readInto_69 : decode mX8_readInto.2.1 69 = .ok (.invokevirtual 47, 3) := by decide +kernel
theorem dX8_readInto_72 : decode mX8_readInto.2.1 72 = .ok (.ifCond .ne 5, 3) := by decide +kernel
theorem dX8_readInto_75 : decode mX8_readInto.2.1 75 = .ok (.iconst 0, 1) := by decide +kernel
theorem dX8_readInto_76 : decode mX8_readInto.2.1 76 = .ok (.ireturn, 1) := by decide +kernel
theorem dX8_readInto_77 : decode mX8_readInto.2.1 77 = .ok (.iload_n 3, 1) := by decide +kernel
theorem dX8_readInto_78 : decode mX8_readInto.2.1 78 = .ok (.iconst 1, 1) := by decide +kernel
theorem dX8_readInto_79 : decode mX8_readInto.2.1 79 = .ok (.iadd, 1) := by decide +kernel
theorem dX8_readInto_80 : decode mX8_readInto.2.1 80 = .ok (.istore_n 2, 1) := by decide +kernel
theorem dX8_readInto_81 : decode mX8_readInto.2.1 81 = .ok (.iinc 3 1, 3) := by decide +kernel
theorem dX8_readInto_84 : decode mX8_readInto.2.1 84 = .ok (.goto (-56), 3) := by decide +kernel
theorem dX8_readInto_87 : decode mX8_readInto.2.1 87 = .ok (.iconst 1, 1) := by decide +kernel
theorem dX8_readInto_88 : decode mX8_readInto.2.1 88 = .ok (.ireturn, 1) := by decide +kernel
theorem bX8_readInto_0 {SC : Nat → Nat} {X : mh_X} {d : Nat} {Q : Option am_V → am_W → Prop} {bc bs : Nat} {w : am_W} {j1 : Nat}
    (h : am_M (mh_G X) SC d 0 0 mX3_clear [.inr (.inr (some (10, j1)))] ((am_up (am_up (am_up w.1 2 0 4 0) 2 0 5 0) 2 0 6 0), w.2) (fun r w1 => am_A (mh_G X) SC (d + 1) mX8_readInto Q 19 [(0, .inr (.inr (some (2, 0)))), (1, .inr (.inr (some (10, j1))))] (r.toList ++ []) w1 bc bs)) :
    am_A (mh_G X) SC (d + 1) mX8_readInto Q 0 [(0, .inr (.inr (some (2, 0)))), (1, .inr (.inr (some (10, j1))))] [] w bc bs := by
  refine am_aload_n dX8_readInto_0 (List.Mem.head _) ?_
  refine am_iconst dX8_readInto_1 (by unfold am_rg; omega) ?_
  refine am_putf (f := 4) dX8_readInto_2 hc_1 (by decide) wd_155 rfl (Or.inl rfl) (Or.inl (by decide)) rfl ?_
  refine am_aload_n dX8_readInto_5 (List.Mem.head _) ?_
  refine am_iconst dX8_readInto_6 (by unfold am_rg; omega) ?_
  refine am_putf (f := 5) dX8_readInto_7 hc_1 (by decide) wd_157 rfl (Or.inl rfl) (Or.inl (by decide)) rfl ?_
  refine am_aload_n dX8_readInto_10 (List.Mem.head _) ?_
  refine am_iconst dX8_readInto_11 (by unfold am_rg; omega) ?_
  refine am_putf (f := 6) dX8_readInto_12 hc_1 (by decide) wd_159 rfl (Or.inl rfl) (Or.inl (by decide)) rfl ?_
  refine am_aload_n dX8_readInto_15 (List.Mem.tail _ (List.Mem.head _)) ?_
  exact am_callv (d' := d) (kc := 0) (ks := 0) (as := []) dX8_readInto_16 wc_X3_clear wd_637 wd_638 wd_639 wd_116 ds_X3_clear (by decide) (Nat.le_refl _) (Nat.le_of_ble_eq_true rfl) (Nat.zero_le _) (Nat.zero_le _) hc_4 (by decide) rfl rfl h
theorem bX8_readInto_19 {SC : Nat → Nat} {X : mh_X} {d : Nat} {Q : Option am_V → am_W → Prop} {bc bs : Nat} {w : am_W} {j1 : Nat}
    (h : am_A (mh_G X) SC (d + 1) mX8_readInto Q 28 [(0, .inr (.inr (some (2, 0)))), (1, .inr (.inr (some (10, j1)))), (2, .inl 0), (3, .inl 0)] [] ((am_up w.1 2 0 7 0), w.2) bc bs) :
    am_A (mh_G X) SC (d + 1) mX8_readInto Q 19 [(0, .inr (.inr (some (2, 0)))), (1, .inr (.inr (some (10, j1))))] [] w bc bs := by
  refine am_aload_n dX8_readInto_19 (List.Mem.head _) ?_
  refine am_iconst dX8_readInto_20 (by unfold am_rg; omega) ?_
  refine am_putf (f := 7) dX8_readInto_21 hc_1 (by decide) wd_161 rfl (Or.inl rfl) (Or.inl (by decide)) rfl ?_
  refine am_iconst dX8_readInto_24 (by unfold am_rg; omega) ?_
  refine am_istore_n (ls' := [(2, .inl 0), (0, .inr (.inr (some (2, 0)))), (1, .inr (.inr (some (10, j1))))]) dX8_readInto_25 (by decide) rfl ?_
  refine am_iconst dX8_readInto_26 (by unfold am_rg; omega) ?_
  refine am_istore_n (ls' := [(3, .inl 0), (2, .inl 0), (0, .inr (.inr (some (2, 0)))), (1, .inr (.inr (some (10, j1))))]) dX8_readInto_27 (by decide) rfl ?_
  exact am_sub [2, 3, 1, 0] rfl h
theorem bX8_readInto_28 {SC : Nat → Nat} {X : mh_X} {d : Nat} {Q : Option am_V → am_W → Prop} {bc bs : Nat} {w : am_W} {j1 : Nat} {x2 : Int} {x3 : Int}
    (h : (((w.1 2 0 3) < x3 → Q (some (.inl 1)) w) ∧ (¬ (w.1 2 0 3) < x3 → ((x3 = (w.1 2 0 3) → am_A (mh_G X) SC (d + 1) mX8_readInto Q 55 [(0, .inr (.inr (some (2, 0)))), (1, .inr (.inr (some (10, j1)))), (2, .inl x2), (3, .inl x3)] [] w bc bs) ∧ (¬ x3 = (w.1 2 0 3) → (0 ≤ x3 ∧ (x3 < 3000 ∧ ((¬ (w.1 24 0 x3.toNat) = 10 → am_A (mh_G X) SC (d + 1) mX8_readInto Q 81 [(0, .inr (.inr (some (2, 0)))), (1, .inr (.inr (some (10, j1)))), (2, .inl x2), (3, .inl x3)] [] w bc bs) ∧ ((w.1 24 0 x3.toNat) = 10 → am_A (mh_G X) SC (d + 1) mX8_readInto Q 55 [(0, .inr (.inr (some (2, 0)))), (1, .inr (.inr (some (10, j1)))), (2, .inl x2), (3, .inl x3)] [] w bc bs))))))))) :
    am_A (mh_G X) SC (d + 1) mX8_readInto Q 28 [(0, .inr (.inr (some (2, 0)))), (1, .inr (.inr (some (10, j1)))), (2, .inl x2), (3, .inl x3)] [] w bc bs := by
  refine am_iload_n dX8_readInto_28 (List.Mem.tail _ (List.Mem.tail _ (List.Mem.tail _ (List.Mem.head _)))) ?_
  refine am_aload_n dX8_readInto_29 (List.Mem.head _) ?_
  refine am_getf (f := 3) (v := .inl (w.1 2 0 3)) dX8_readInto_30 hc_1 (by decide) wd_153 (by decide) rfl rfl ?_
  refine am_icmpgt (tgt := 87) dX8_readInto_33 (by decide) (fun c1 => ?_) (fun c1 => ?_)
  · replace h := h.1 c1
    refine am_iconst dX8_readInto_87 (by unfold am_rg; omega) ?_
    exact am_ret (r := some (.inl 1)) dX8_readInto_88 (Or.inr (Or.inl ⟨rfl, (Or.inr rfl)⟩)) rfl h
  · replace h := h.2 c1
    refine am_iload_n dX8_readInto_36 (List.Mem.tail _ (List.Mem.tail _ (List.Mem.tail _ (List.Mem.head _)))) ?_
    refine am_aload_n dX8_readInto_37 (List.Mem.head _) ?_
    refine am_getf (f := 3) (v := .inl (w.1 2 0 3)) dX8_readInto_38 hc_1 (by decide) wd_153 (by decide) rfl rfl ?_
    refine am_icmpeq (tgt := 55) dX8_readInto_41 (by decide) (fun c2 => ?_) (fun c2 => ?_)
    · replace h := h.1 c2
      exact h
    · replace h := h.2 c2
      refine am_aload_n dX8_readInto_44 (List.Mem.head _) ?_
      refine am_getf (f := 0) (v := .inr (.inr (some (24, 0)))) dX8_readInto_45 hc_1 (by decide) wd_150 (by decide) rfl rfl ?_
      refine am_iload_n dX8_readInto_48 (List.Mem.tail _ (List.Mem.tail _ (List.Mem.tail _ (List.Mem.head _)))) ?_
      have o3 := h.1
      replace h := h.2
      have o4 := h.1
      replace h := h.2
      refine am_caload (v := (w.1 24 0 x3.toNat)) dX8_readInto_49 (by decide) rfl o3 o4 rfl ?_
      refine am_bipush dX8_readInto_50 (by decide) (by unfold am_rg; omega) ?_
      refine am_icmpne (tgt := 81) dX8_readInto_52 (by decide) (fun c5 => ?_) (fun c5 => ?_)
      · replace h := h.1 c5
        exact h
      · replace h := h.2 c5
        exact h
theorem bX8_readInto_55 {SC : Nat → Nat} {X : mh_X} {d : Nat} {Q : Option am_V → am_W → Prop} {bc bs : Nat} {w : am_W} {j1 : Nat} {x2 : Int} {x3 : Int}
    (h : am_M (mh_G X) SC d 0 0 mX8_readLine [.inr (.inr (some (2, 0))), .inr (.inr (some (10, j1))), .inl x2, .inl x3] ((am_up w.1 2 0 7 (am_w ((w.1 2 0 7) + 1))), w.2) (fun r w1 => am_A (mh_G X) SC (d + 1) mX8_readInto Q 72 [(0, .inr (.inr (some (2, 0)))), (1, .inr (.inr (some (10, j1)))), (2, .inl x2), (3, .inl x3)] (r.toList ++ []) w1 bc bs)) :
    am_A (mh_G X) SC (d + 1) mX8_readInto Q 55 [(0, .inr (.inr (some (2, 0)))), (1, .inr (.inr (some (10, j1)))), (2, .inl x2), (3, .inl x3)] [] w bc bs := by
  refine am_aload_n dX8_readInto_55 (List.Mem.head _) ?_
  refine am_dup dX8_readInto_56 rfl ?_
  refine am_getf (f := 7) (v := .inl (w.1 2 0 7)) dX8_readInto_57 hc_1 (by decide) wd_161 (by decide) rfl rfl ?_
  refine am_iconst dX8_readInto_60 (by unfold am_rg; omega) ?_
  refine am_iadd dX8_readInto_61 ?_
  refine am_putf (f := 7) dX8_readInto_62 hc_1 (by decide) wd_161 rfl (Or.inl rfl) (Or.inl (by decide)) rfl ?_
  refine am_aload_n dX8_readInto_65 (List.Mem.head _) ?_
  refine am_aload_n dX8_readInto_66 (List.Mem.tail _ (List.Mem.head _)) ?_
  refine am_iload_n dX8_readInto_67 (List.Mem.tail _ (List.Mem.tail _ (List.Mem.head _))) ?_
  refine am_iload_n dX8_readInto_68 (List.Mem.tail _ (List.Mem.tail _ (List.Mem.tail _ (List.Mem.head _)))) ?_
  exact am_callv (d' := d) (kc := 0) (ks := 0) (as := [.inr (.inr (some (10, j1))), .inl x2, .inl x3]) dX8_readInto_69 wc_X8_readLine wd_641 wd_643 wd_0 wd_113 ds_X8_readLine (by decide) (Nat.le_refl _) (Nat.le_of_ble_eq_true rfl) (Nat.zero_le _) (Nat.zero_le _) hc_1 (by decide) rfl rfl h
theorem bX8_readInto_81 {SC : Nat → Nat} {X : mh_X} {d : Nat} {Q : Option am_V → am_W → Prop} {bc bs : Nat} {w : am_W} {j1 : Nat} {x2 : Int} {x3 : Int}
    (h : am_A (mh_G X) SC (d + 1) mX8_readInto Q 28 [(0, .inr (.inr (some (2, 0)))), (1, .inr (.inr (some (10, j1)))), (2, .inl x2), (3, .inl (am_w (x3 + 1)))] [] w bc bs) :
    am_A (mh_G X) SC (d + 1) mX8_readInto Q 81 [(0, .inr (.inr (some (2, 0)))), (1, .inr (.inr (some (10, j1)))), (2, .inl x2), (3, .inl x3)] [] w bc bs := by
  refine am_iinc (ls' := [(3, .inl (am_w (x3 + 1))), (0, .inr (.inr (some (2, 0)))), (1, .inr (.inr (some (10, j1)))), (2, .inl x2)]) dX8_readInto_81 (List.Mem.tail _ (List.Mem.tail _ (List.Mem.tail _ (List.Mem.head _)))) (by decide) rfl ?_
  refine am_goto (tgt := 28) dX8_readInto_84 (by decide) ?_
  exact am_sub [1, 2, 3, 0] rfl h
theorem bX8_readInto_72 {SC : Nat → Nat} {X : mh_X} {d : Nat} {Q : Option am_V → am_W → Prop} {bc bs : Nat} {w : am_W} {j1 : Nat} {x2 : Int} {x3 : Int} {xs0 : Int}
    (h : ((¬ xs0 = 0 → am_A (mh_G X) SC (d + 1) mX8_readInto Q 81 [(0, .inr (.inr (some (2, 0)))), (1, .inr (.inr (some (10, j1)))), (2, .inl (am_w (x3 + 1))), (3, .inl x3)] [] w bc bs) ∧ (xs0 = 0 → Q (some (.inl 0)) w))) :
    am_A (mh_G X) SC (d + 1) mX8_readInto Q 72 [(0, .inr (.inr (some (2, 0)))), (1, .inr (.inr (some (10, j1)))), (2, .inl x2), (3, .inl x3)] [.inl xs0] w bc bs := by
  refine am_ifne (tgt := 77) dX8_readInto_72 (by decide) (fun c1 => ?_) (fun c1 => ?_)
  · replace h := h.1 c1
    refine am_iload_n dX8_readInto_77 (List.Mem.tail _ (List.Mem.tail _ (List.Mem.tail _ (List.Mem.head _)))) ?_
    refine am_iconst dX8_readInto_78 (by unfold am_rg; omega) ?_
    refine am_iadd dX8_readInto_79 ?_
    refine am_istore_n (ls' := [(2, .inl (am_w (x3 + 1))), (0, .inr (.inr (some (2, 0)))), (1, .inr (.inr (some (10, j1)))), (3, .inl x3)]) dX8_readInto_80 (by decide) rfl ?_
    exact am_sub [1, 2, 0, 3] rfl h
  · replace h := h.2 c1
    refine am_iconst dX8_readInto_75 (by unfold am_rg; omega) ?_
    exact am_ret (r := some (.inl 0)) dX8_readInto_76 (Or.inr (Or.inl ⟨rfl, (Or.inl rfl)⟩)) rfl h
-- MourningHouse$Reader.readLine(LMourningHouse$Law;II)Z
theorem dX8_readLine_0 : decode mX8_readLine.2.1 0 = .ok (.aload_n 0, 1) := by decide +kernel
theorem dX8_readLine_1 : decode mX8_readLine.2.1 1 = .ok (.iconst 0, 1) := by decide +kernel
theorem dX8_readLine_2 : decode mX8_readLine.2.1 2 = .ok (.putfield 39, 3) := by decide +kernel
theorem dX8_readLine_5 : decode mX8_readLine.2.1 5 = .ok (.aload_n 0, 1) := by decide +kernel
theorem dX8_readLine_6 : decode mX8_readLine.2.1 6 = .ok (.iload_n 2, 1) := by decide +kernel
theorem dX8_readLine_7 : decode mX8_readLine.2.1 7 = .ok (.iload_n 3, 1) := by decide +kernel
theorem dX8_readLine_8 : decode mX8_readLine.2.1 8 = .ok (.invokevirtual 51, 3) := by decide +kernel
theorem dX8_readLine_11 : decode mX8_readLine.2.1 11 = .ok (.ifCond .ne 17, 3) := by decide +kernel
theorem dX8_readLine_14 : decode mX8_readLine.2.1 14 = .ok (.aload_n 0, 1) := by decide +kernel
theorem dX8_readLine_15 : decode mX8_readLine.2.1 15 = .ok (.aload_n 0, 1) := by decide +kernel
theorem dX8_readLine_16 : decode mX8_readLine.2.1 16 = .ok (.getfield 36, 3) := by decide +kernel
theorem dX8_readLine_19 : decode mX8_readLine.2.1 19 = .ok (.putfield 39, 3) := by decide +kernel
theorem dX8_readLine_22 : decode mX8_readLine.2.1 22 = .ok (.aload_n 0, 1) := by decide +kernel
theorem dX8_readLine_23 : decode mX8_readLine.2.1 23 = .ok (.iconst 1, 1) := by decide +kernel
theorem dX8_readLine_24 : decode mX8_readLine.2.1 24 = .ok (.invokevirtual 55, 3) := by decide +kernel
theorem dX8_readLine_27 : decode mX8_readLine.2.1 27 = .ok (.ireturn, 1) := by decide +kernel
theorem dX8_readLine_28 : decode mX8_readLine.2.1 28 = .ok (.aload_n 0, 1) := by decide +kernel
theorem dX8_readLine_29 : decode mX8_readLine.2.1 29 = .ok (.iconst 0, 1) := by decide +kernel
theorem dX8_readLine_30 : decode mX8_readLine.2.1 30 = .ok (.invokevirtual 59, 3) := by decide +kernel
theorem dX8_readLine_33 : decode mX8_readLine.2.1 33 = .ok (.tableswitch 121 30 46 #[85, 121, 91, 121, 97, 121, 103, 109, 115, 121, 121, 121, 121, 121, 121, 121, 83], 83) := by decide +kernel
theorem dX8_readLine_116 : decode mX8_readLine.2.1 116 = .ok (.iconst 1, 1) := by decide +kernel
theorem dX8_readLine_117 : decode mX8_readLine.2.1 117 = .ok (.ireturn, 1) := by decide +kernel
theorem dX8_readLine_118 : decode mX8_readLine.2.1 118 = .ok (.aload_n 0, 1) := by decide +kernel
theorem dX8_readLine_119 : decode mX8_readLine.2.1 119 = .ok (.aload_n 1, 1) := by decide +kernel
theorem dX8_readLine_120 : decode mX8_readLine.2.1 120 = .ok (.invokevirtual 63, 3) := by decide +kernel
theorem dX8_readLine_123 : decode mX8_readLine.2.1 123 = .ok (.ireturn, 1) := by decide +kernel
theorem dX8_readLine_124 : decode mX8_readLine.2.1 124 = .ok (.aload_n 0, 1) := by decide +kernel
theorem dX8_readLine_125 : decode mX8_readLine.2.1 125 = .ok (.aload_n 1, 1) := by decide +kernel
theorem dX8_readLine_126 : decode mX8_readLine.2.1 126 = .ok (.invokevirtual 67, 3) := by decide +kernel
theorem dX8_readLine_129 : decode mX8_readLine.2.1 129 = .ok (.ireturn, 1) := by decide +kernel
theorem dX8_readLine_130 : decode mX8_readLine.2.1 130 = .ok (.aload_n 0, 1) := by decide +kernel
theorem dX8_readLine_131 : decode mX8_readLine.2.1 131 = .ok (.aload_n 1, 1) := by decide +kernel
theorem dX8_readLine_132 : decode mX8_readLine.2.1 132 = .ok (.invokevirtual 70, 3) := by decide +kernel
theorem dX8_readLine_135 : decode mX8_readLine.2.1 135 = .ok (.ireturn, 1) := by decide +kernel
theorem dX8_readLine_136 : decode mX8_readLine.2.1 136 = .ok (.aload_n 0, 1) := by decide +kernel
theorem dX8_readLine_137 : decode mX8_readLine.2.1 137 = .ok (.aload_n 1, 1) := by decide +kernel
theorem dX8_readLine_138 : decode mX8_readLine.2.1 138 = .ok (.invokevirtual 73, 3) := by decide +kernel
theorem dX8_readLine_141 : decode mX8_readLine.2.1 141 = .ok (.ireturn, 1) := by decide +kernel
theorem dX8_readLine_142 : decode mX8_readLine.2.1 142 = .ok (.aload_n 0, 1) := by decide +kernel
theorem dX8_readLine_143 : decode mX8_readLine.2.1 143 = .ok (.aload_n 1, 1) := by decide +kernel
theorem dX8_readLine_144 : decode mX8_readLine.2.1 144 = .ok (.invokevirtual 76, 3) := by decide +kernel
theorem dX8_readLine_147 : decode mX8_readLine.2.1 147 = .ok (.ireturn, 1) := by decide +kernel
theorem dX8_readLine_148 : decode mX8_readLine.2.1 148 = .ok (.aload_n 0, 1) := by decide +kernel
theorem dX8_readLine_149 : decode mX8_readLine.2.1 149 = .ok (.aload_n 1, 1) := by decide +kernel
theorem dX8_readLine_150 : decode mX8_readLine.2.1 150 = .ok (.invokevirtual 79, 3) := by decide +kernel
theorem dX8_readLine_153 : decode mX8_readLine.2.1 153 = .ok (.ireturn, 1) := by decide +kernel
theorem dX8_readLine_154 : decode mX8_readLine.2.1 154 = .ok (.aload_n 0, 1) := by decide +kernel
theorem dX8_readLine_155 : decode mX8_readLine.2.1 155 = .ok (.iconst 2, 1) := by decide +kernel
theorem dX8_readLine_156 : decode mX8_readLine.2.1 156 = .ok (.invokevirtual 55, 3) := by decide +kernel
theorem dX8_readLine_159 : decode mX8_readLine.2.1 159 = .ok (.ireturn, 1) := by decide +kernel
theorem bX8_readLine_0 {SC : Nat → Nat} {X : mh_X} {d : Nat} {Q : Option am_V → am_W → Prop} {bc bs : Nat} {w : am_W} {j1 : Nat} {x2 : Int} {x3 : Int}
    (h : am_M (mh_G X) SC d 0 0 mX8_findTokens [.inr (.inr (some (2, 0))), .inl x2, .inl x3] ((am_up w.1 2 0 9 0), w.2) (fun r w1 => am_A (mh_G X) SC (d + 1) mX8_readLine Q 11 [(0, .inr (.inr (some (2, 0)))), (1, .inr (.inr (some (10, j1)))), (2, .inl x2), (3, .inl x3)] (r.toList ++ []) w1 bc bs)) :
    am_A (mh_G X) SC (d + 1) mX8_readLine Q 0 [(0, .inr (.inr (some (2, 0)))), (1, .inr (.inr (some (10, j1)))), (2, .inl x2), (3, .inl x3)] [] w bc bs := by
  refine am_aload_n dX8_readLine_0 (List.Mem.head _) ?_
  refine am_iconst dX8_readLine_1 (by unfold am_rg; omega) ?_
  refine am_putf (f := 9) dX8_readLine_2 hc_1 (by decide) wd_163 rfl (Or.inl rfl) (Or.inl (by decide)) rfl ?_
  refine am_aload_n dX8_readLine_5 (List.Mem.head _) ?_
  refine am_iload_n dX8_readLine_6 (List.Mem.tail _ (List.Mem.tail _ (List.Mem.head _))) ?_
  refine am_iload_n dX8_readLine_7 (List.Mem.tail _ (List.Mem.tail _ (List.Mem.tail _ (List.Mem.head _)))) ?_
  exact am_callv (d' := d) (kc := 0) (ks := 0) (as := [.inl x2, .inl x3]) dX8_readLine_8 wc_X8_findTokens wd_645 wd_647 wd_1 wd_113 ds_X8_findTokens (by decide) (Nat.le_refl _) (Nat.le_of_ble_eq_true rfl) (Nat.zero_le _) (Nat.zero_le _) hc_1 (by decide) rfl rfl h
theorem bX8_readLine_11 {SC : Nat → Nat} {X : mh_X} {d : Nat} {Q : Option am_V → am_W → Prop} {bc bs : Nat} {w : am_W} {j1 : Nat} {x2 : Int} {x3 : Int} {xs0 : Int}
    (h : ((¬ xs0 = 0 → am_M (mh_G X) SC d 0 0 mX8_codeAt [.inr (.inr (some (2, 0))), .inl 0] w (fun r w1 => am_A (mh_G X) SC (d + 1) mX8_readLine Q 33 [(0, .inr (.inr (some (2, 0)))), (1, .inr (.inr (some (10, j1)))), (2, .inl x2), (3, .inl x3)] (r.toList ++ []) w1 bc bs)) ∧ (xs0 = 0 → am_M (mh_G X) SC d 0 0 mX8_fail [.inr (.inr (some (2, 0))), .inl 1] ((am_up w.1 2 0 9 (w.1 2 0 8)), w.2) (fun r w1 => am_A (mh_G X) SC (d + 1) mX8_readLine Q 27 [(0, .inr (.inr (some (2, 0)))), (1, .inr (.inr (some (10, j1)))), (2, .inl x2), (3, .inl x3)] (r.toList ++ []) w1 bc bs)))) :
    am_A (mh_G X) SC (d + 1) mX8_readLine Q 11 [(0, .inr (.inr (some (2, 0)))), (1, .inr (.inr (some (10, j1)))), (2, .inl x2), (3, .inl x3)] [.inl xs0] w bc bs := by
  refine am_ifne (tgt := 28) dX8_readLine_11 (by decide) (fun c1 => ?_) (fun c1 => ?_)
  · replace h := h.1 c1
    refine am_aload_n dX8_readLine_28 (List.Mem.head _) ?_
    refine am_iconst dX8_readLine_29 (by unfold am_rg; omega) ?_
    exact am_callv (d' := d) (kc := 0) (ks := 0) (as := [.inl 0]) dX8_readLine_30 wc_X8_codeAt wd_791 wd_793 wd_7 wd_113 ds_X8_codeAt (by decide) (Nat.le_refl _) (Nat.le_of_ble_eq_true rfl) (Nat.zero_le _) (Nat.zero_le _) hc_1 (by decide) rfl rfl h
  · replace h := h.2 c1
    refine am_aload_n dX8_readLine_14 (List.Mem.head _) ?_
    refine am_aload_n dX8_readLine_15 (List.Mem.head _) ?_
    refine am_getf (f := 8) (v := .inl (w.1 2 0 8)) dX8_readLine_16 hc_1 (by decide) wd_162 (by decide) rfl rfl ?_
    refine am_putf (f := 9) dX8_readLine_19 hc_1 (by decide) wd_163 rfl (Or.inl rfl) (Or.inl (by decide)) rfl ?_
    refine am_aload_n dX8_readLine_22 (List.Mem.head _) ?_
    refine am_iconst dX8_readLine_23 (by unfold am_rg; omega) ?_
    exact am_callv (d' := d) (kc := 0) (ks := 0) (as := [.inl 1]) dX8_readLine_24 wc_X8_fail wd_787 wd_789 wd_6 wd_113 ds_X8_fail (by decide) (Nat.le_refl _) (Nat.le_of_ble_eq_true rfl) (Nat.zero_le _) (Nat.zero_le _) hc_1 (by decide) rfl rfl h
theorem bX8_readLine_33 {SC : Nat → Nat} {X : mh_X} {d : Nat} {Q : Option am_V → am_W → Prop} {bc bs : Nat} {w : am_W} {j1 : Nat} {x2 : Int} {x3 : Int} {xs0 : Int}
    (h : (((xs0 < 30 ∨ 46 < xs0) → am_M (mh_G X) SC d 0 0 mX8_fail [.inr (.inr (some (2, 0))), .inl 2] w (fun r w1 => am_A (mh_G X) SC (d + 1) mX8_readLine Q 159 [(0, .inr (.inr (some (2, 0)))), (1, .inr (.inr (some (10, j1)))), (2, .inl x2), (3, .inl x3)] (r.toList ++ []) w1 bc bs)) ∧ (xs0 = 30 → am_M (mh_G X) SC d 0 0 mX8_readRule [.inr (.inr (some (2, 0))), .inr (.inr (some (10, j1)))] w (fun r w1 => am_A (mh_G X) SC (d + 1) mX8_readLine Q 123 [(0, .inr (.inr (some (2, 0)))), (1, .inr (.inr (some (10, j1)))), (2, .inl x2), (3, .inl x3)] (r.toList ++ []) w1 bc bs)) ∧ (xs0 = 31 → am_M (mh_G X) SC d 0 0 mX8_fail [.inr (.inr (some (2, 0))), .inl 2] w (fun r w1 => am_A (mh_G X) SC (d + 1) mX8_readLine Q 159 [(0, .inr (.inr (some (2, 0)))), (1, .inr (.inr (some (10, j1)))), (2, .inl x2), (3, .inl x3)] (r.toList ++ []) w1 bc bs)) ∧ (xs0 = 32 → am_M (mh_G X) SC d 0 0 mX8_readMay [.inr (.inr (some (2, 0))), .inr (.inr (some (10, j1)))] w (fun r w1 => am_A (mh_G X) SC (d + 1) mX8_readLine Q 129 [(0, .inr (.inr (some (2, 0)))), (1, .inr (.inr (some (10, j1)))), (2, .inl x2), (3, .inl x3)] (r.toList ++ []) w1 bc bs)) ∧ (xs0 = 33 → am_M (mh_G X) SC d 0 0 mX8_fail [.inr (.inr (some (2, 0))), .inl 2] w (fun r w1 => am_A (mh_G X) SC (d + 1) mX8_readLine Q 159 [(0, .inr (.inr (some (2, 0)))), (1, .inr (.inr (some (10, j1)))), (2, .inl x2), (3, .inl x3)] (r.toList ++ []) w1 bc bs)) ∧ (xs0 = 34 → am_M (mh_G X) SC d 0 0 mX8_readFeast [.inr (.inr (some (2, 0))), .inr (.inr (some (10, j1)))] w (fun r w1 => am_A (mh_G X) SC (d + 1) mX8_readLine Q 135 [(0, .inr (.inr (some (2, 0)))), (1, .inr (.inr (some (10, j1)))), (2, .inl x2), (3, .inl x3)] (r.toList ++ []) w1 bc bs)) ∧ (xs0 = 35 → am_M (mh_G X) SC d 0 0 mX8_fail [.inr (.inr (some (2, 0))), .inl 2] w (fun r w1 => am_A (mh_G X) SC (d + 1) mX8_readLine Q 159 [(0, .inr (.inr (some (2, 0)))), (1, .inr (.inr (some (10, j1)))), (2, .inl x2), (3, .inl x3)] (r.toList ++ []) w1 bc bs)) ∧ (xs0 = 36 → am_M (mh_G X) SC d 0 0 mX8_readHeir [.inr (.inr (some (2, 0))), .inr (.inr (some (10, j1)))] w (fun r w1 => am_A (mh_G X) SC (d + 1) mX8_readLine Q 141 [(0, .inr (.inr (some (2, 0)))), (1, .inr (.inr (some (10, j1)))), (2, .inl x2), (3, .inl x3)] (r.toList ++ []) w1 bc bs)) ∧ (xs0 = 37 → am_M (mh_G X) SC d 0 0 mX8_readUnder [.inr (.inr (some (2, 0))), .inr (.inr (some (10, j1)))] w (fun r w1 => am_A (mh_G X) SC (d + 1) mX8_readLine Q 147 [(0, .inr (.inr (some (2, 0)))), (1, .inr (.inr (some (10, j1)))), (2, .inl x2), (3, .inl x3)] (r.toList ++ []) w1 bc bs)) ∧ (xs0 = 38 → am_M (mh_G X) SC d 0 0 mX8_readWedding [.inr (.inr (some (2, 0))), .inr (.inr (some (10, j1)))] w (fun r w1 => am_A (mh_G X) SC (d + 1) mX8_readLine Q 153 [(0, .inr (.inr (some (2, 0)))), (1, .inr (.inr (some (10, j1)))), (2, .inl x2), (3, .inl x3)] (r.toList ++ []) w1 bc bs)) ∧ (xs0 = 39 → am_M (mh_G X) SC d 0 0 mX8_fail [.inr (.inr (some (2, 0))), .inl 2] w (fun r w1 => am_A (mh_G X) SC (d + 1) mX8_readLine Q 159 [(0, .inr (.inr (some (2, 0)))), (1, .inr (.inr (some (10, j1)))), (2, .inl x2), (3, .inl x3)] (r.toList ++ []) w1 bc bs)) ∧ (xs0 = 40 → am_M (mh_G X) SC d 0 0 mX8_fail [.inr (.inr (some (2, 0))), .inl 2] w (fun r w1 => am_A (mh_G X) SC (d + 1) mX8_readLine Q 159 [(0, .inr (.inr (some (2, 0)))), (1, .inr (.inr (some (10, j1)))), (2, .inl x2), (3, .inl x3)] (r.toList ++ []) w1 bc bs)) ∧ (xs0 = 41 → am_M (mh_G X) SC d 0 0 mX8_fail [.inr (.inr (some (2, 0))), .inl 2] w (fun r w1 => am_A (mh_G X) SC (d + 1) mX8_readLine Q 159 [(0, .inr (.inr (some (2, 0)))), (1, .inr (.inr (some (10, j1)))), (2, .inl x2), (3, .inl x3)] (r.toList ++ []) w1 bc bs)) ∧ (xs0 = 42 → am_M (mh_G X) SC d 0 0 mX8_fail [.inr (.inr (some (2, 0))), .inl 2] w (fun r w1 => am_A (mh_G X) SC (d + 1) mX8_readLine Q 159 [(0, .inr (.inr (some (2, 0)))), (1, .inr (.inr (some (10, j1)))), (2, .inl x2), (3, .inl x3)] (r.toList ++ []) w1 bc bs)) ∧ (xs0 = 43 → am_M (mh_G X) SC d 0 0 mX8_fail [.inr (.inr (some (2, 0))), .inl 2] w (fun r w1 => am_A (mh_G X) SC (d + 1) mX8_readLine Q 159 [(0, .inr (.inr (some (2, 0)))), (1, .inr (.inr (some (10, j1)))), (2, .inl x2), (3, .inl x3)] (r.toList ++ []) w1 bc bs)) ∧ (xs0 = 44 → am_M (mh_G X) SC d 0 0 mX8_fail [.inr (.inr (some (2, 0))), .inl 2] w (fun r w1 => am_A (mh_G X) SC (d + 1) mX8_readLine Q 159 [(0, .inr (.inr (some (2, 0)))), (1, .inr (.inr (some (10, j1)))), (2, .inl x2), (3, .inl x3)] (r.toList ++ []) w1 bc bs)) ∧ (xs0 = 45 → am_M (mh_G X) SC d 0 0 mX8_fail [.inr (.inr (some (2, 0))), .inl 2] w (fun r w1 => am_A (mh_G X) SC (d + 1) mX8_readLine Q 159 [(0, .inr (.inr (some (2, 0)))), (1, .inr (.inr (some (10, j1)))), (2, .inl x2), (3, .inl x3)] (r.toList ++ []) w1 bc bs)) ∧ (xs0 = 46 → Q (some (.inl 1)) w))) :
    am_A (mh_G X) SC (d + 1) mX8_readLine Q 33 [(0, .inr (.inr (some (2, 0)))), (1, .inr (.inr (some (10, j1)))), (2, .inl x2), (3, .inl x3)] [.inl xs0] w bc bs := by
  by_cases c1 : xs0 < 30 ∨ 46 < xs0
  · replace h := h.1 c1
    refine am_tswOut (tgt := 154) dX8_readLine_33 c1 (by decide) ?_
    refine am_aload_n dX8_readLine_154 (List.Mem.head _) ?_
    refine am_iconst dX8_readLine_155 (by unfold am_rg; omega) ?_
    exact am_callv (d' := d) (kc := 0) (ks := 0) (as := [.inl 2]) dX8_readLine_156 wc_X8_fail wd_787 wd_789 wd_6 wd_113 ds_X8_fail (by decide) (Nat.le_refl _) (Nat.le_of_ble_eq_true rfl) (Nat.zero_le _) (Nat.zero_le _) hc_1 (by decide) rfl rfl h
  · replace h := h.2
    rcases (show xs0 = 30 ∨ xs0 = 31 ∨ xs0 = 32 ∨ xs0 = 33 ∨ xs0 = 34 ∨ xs0 = 35 ∨ xs0 = 36 ∨ xs0 = 37 ∨ xs0 = 38 ∨ xs0 = 39 ∨ xs0 = 40 ∨ xs0 = 41 ∨ xs0 = 42 ∨ xs0 = 43 ∨ xs0 = 44 ∨ xs0 = 45 ∨ xs0 = 46 by omega) with c1 | c1 | c1 | c1 | c1 | c1 | c1 | c1 | c1 | c1 | c1 | c1 | c1 | c1 | c1 | c1 | c1
    · replace h := h.1 c1
      refine am_tswIn (off := 85) (tgt := 118) dX8_readLine_33 (by omega) (by omega) (by rw [c1]; decide) (by decide) ?_
      refine am_aload_n dX8_readLine_118 (List.Mem.head _) ?_
      refine am_aload_n dX8_readLine_119 (List.Mem.tail _ (List.Mem.head _)) ?_
      exact am_callv (d' := d) (kc := 0) (ks := 0) (as := [.inr (.inr (some (10, j1)))]) dX8_readLine_120 wc_X8_readRule wd_795 wd_797 wd_8 wd_113 ds_X8_readRule (by decide) (Nat.le_refl _) (Nat.le_of_ble_eq_true rfl) (Nat.zero_le _) (Nat.zero_le _) hc_1 (by decide) rfl rfl h
    · replace h := h.2.1 c1
      refine am_tswIn (off := 121) (tgt := 154) dX8_readLine_33 (by omega) (by omega) (by rw [c1]; decide) (by decide) ?_
      refine am_aload_n dX8_readLine_154 (List.Mem.head _) ?_
      refine am_iconst dX8_readLine_155 (by unfold am_rg; omega) ?_
      exact am_callv (d' := d) (kc := 0) (ks := 0) (as := [.inl 2]) dX8_readLine_156 wc_X8_fail wd_787 wd_789 wd_6 wd_113 ds_X8_fail (by decide) (Nat.le_refl _) (Nat.le_of_ble_eq_true rfl) (Nat.zero_le _) (Nat.zero_le _) hc_1 (by decide) rfl rfl h
    · replace h := h.2.2.1 c1
      refine am_tswIn (off := 91) (tgt := 124) dX8_readLine_33 (by omega) (by omega) (by rw [c1]; decide) (by decide) ?_
      refine am_aload_n dX8_readLine_124 (List.Mem.head _) ?_
      refine am_aload_n dX8_readLine_125 (List.Mem.tail _ (List.Mem.head _)) ?_
      exact am_callv (d' := d) (kc := 0) (ks := 0) (as := [.inr (.inr (some (10, j1)))]) dX8_readLine_126 wc_X8_readMay wd_871 wd_873 wd_17 wd_113 ds_X8_readMay (by decide) (Nat.le_refl _) (Nat.le_of_ble_eq_true rfl) (Nat.zero_le _) (Nat.zero_le _) hc_1 (by decide) rfl rfl h
    · replace h := h.2.2.2.1 c1
      refine am_tswIn (off := 121) (tgt := 154) dX8_readLine_33 (by omega) (by omega) (by rw [c1]; decide) (by decide) ?_
      refine am_aload_n dX8_readLine_154 (List.Mem.head _) ?_
      refine am_iconst dX8_readLine_155 (by unfold am_rg; omega) ?_
      exact am_callv (d' := d) (kc := 0) (ks := 0) (as := [.inl 2]) dX8_readLine_156 wc_X8_fail wd_787 wd_789 wd_6 wd_113 ds_X8_fail (by decide) (Nat.le_refl _) (Nat.le_of_ble_eq_true rfl) (Nat.zero_le _) (Nat.zero_le _) hc_1 (by decide) rfl rfl h
    · replace h := h.2.2.2.2.1 c1
      refine am_tswIn (off := 97) (tgt := 130) dX8_readLine_33 (by omega) (by omega) (by rw [c1]; decide) (by decide) ?_
      refine am_aload_n dX8_readLine_130 (List.Mem.head _) ?_
      refine am_aload_n dX8_readLine_131 (List.Mem.tail _ (List.Mem.head _)) ?_
      exact am_callv (d' := d) (kc := 0) (ks := 0) (as := [.inr (.inr (some (10, j1)))]) dX8_readLine_132 wc_X8_readFeast wd_885 wd_887 wd_19 wd_113 ds_X8_readFeast (by decide) (Nat.le_refl _) (Nat.le_of_ble_eq_true rfl) (Nat.zero_le _) (Nat.zero_le _) hc_1 (by decide) rfl rfl h
    · replace h := h.2.2.2.2.2.1 c1
      refine am_tswIn (off := 121) (tgt := 154) dX8_readLine_33 (by omega) (by omega) (by rw [c1]; decide) (by decide) ?_
      refine am_aload_n dX8_readLine_154 (List.Mem.head _) ?_
      refine am_iconst dX8_readLine_155 (by unfold am_rg; omega) ?_
      exact am_callv (d' := d) (kc := 0) (ks := 0) (as := [.inl 2]) dX8_readLine_156 wc_X8_fail wd_787 wd_789 wd_6 wd_113 ds_X8_fail (by decide) (Nat.le_refl _) (Nat.le_of_ble_eq_true rfl) (Nat.zero_le _) (Nat.zero_le _) hc_1 (by decide) rfl rfl h
    · replace h := h.2.2.2.2.2.2.1 c1
      refine am_tswIn (off := 103) (tgt := 136) dX8_readLine_33 (by omega) (by omega) (by rw [c1]; decide) (by decide) ?_
      refine am_aload_n dX8_readLine_136 (List.Mem.head _) ?_
      refine am_aload_n dX8_readLine_137 (List.Mem.tail _ (List.Mem.head _)) ?_
      exact am_callv (d' := d) (kc := 0) (ks := 0) (as := [.inr (.inr (some (10, j1)))]) dX8_readLine_138 wc_X8_readHeir wd_900 wd_902 wd_20 wd_113 ds_X8_readHeir (by decide) (Nat.le_refl _) (Nat.le_of_ble_eq_true rfl) (Nat.zero_le _) (Nat.zero_le _) hc_1 (by decide) rfl rfl h
    · replace h := h.2.2.2.2.2.2.2.1 c1
      refine am_tswIn (off := 109) (tgt := 142) dX8_readLine_33 (by omega) (by omega) (by rw [c1]; decide) (by decide) ?_
      refine am_aload_n dX8_readLine_142 (List.Mem.head _) ?_
      refine am_aload_n dX8_readLine_143 (List.Mem.tail _ (List.Mem.head _)) ?_
      exact am_callv (d' := d) (kc := 0) (ks := 0) (as := [.inr (.inr (some (10, j1)))]) dX8_readLine_144 wc_X8_readUnder wd_904 wd_906 wd_21 wd_113 ds_X8_readUnder (by decide) (Nat.le_refl _) (Nat.le_of_ble_eq_true rfl) (Nat.zero_le _) (Nat.zero_le _) hc_1 (by decide) rfl rfl h
    · replace h := h.2.2.2.2.2.2.2.2.1 c1
      refine am_tswIn (off := 115) (tgt := 148) dX8_readLine_33 (by omega) (by omega) (by rw [c1]; decide) (by decide) ?_
      refine am_aload_n dX8_readLine_148 (List.Mem.head _) ?_
      refine am_aload_n dX8_readLine_149 (List.Mem.tail _ (List.Mem.head _)) ?_
      exact am_callv (d' := d) (kc := 0) (ks := 0) (as := [.inr (.inr (some (10, j1)))]) dX8_readLine_150 wc_X8_readWedding wd_908 wd_910 wd_22 wd_113 ds_X8_readWedding (by decide) (Nat.le_refl _) (Nat.le_of_ble_eq_true rfl) (Nat.zero_le _) (Nat.zero_le _) hc_1 (by decide) rfl rfl h
    · replace h := h.2.2.2.2.2.2.2.2.2.1 c1
      refine am_tswIn (off := 121) (tgt := 154) dX8_readLine_33 (by omega) (by omega) (by rw [c1]; decide) (by decide) ?_
      refine am_aload_n dX8_readLine_154 (List.Mem.head _) ?_
      refine am_iconst dX8_readLine_155 (by unfold am_rg; omega) ?_
      exact am_callv (d' := d) (kc := 0) (ks := 0) (as := [.inl 2]) dX8_readLine_156 wc_X8_fail wd_787 wd_789 wd_6 wd_113 ds_X8_fail (by decide) (Nat.le_refl _) (Nat.le_of_ble_eq_true rfl) (Nat.zero_le _) (Nat.zero_le _) hc_1 (by decide) rfl rfl h
    · replace h := h.2.2.2.2.2.2.2.2.2.2.1 c1
      refine am_tswIn (off := 121) (tgt := 154) dX8_readLine_33 (by omega) (by omega) (by rw [c1]; decide) (by decide) ?_
      refine am_aload_n dX8_readLine_154 (List.Mem.head _) ?_
      refine am_iconst dX8_readLine_155 (by unfold am_rg; omega) ?_
      exact am_callv (d' := d) (kc := 0) (ks := 0) (as := [.inl 2]) dX8_readLine_156 wc_X8_fail wd_787 wd_789 wd_6 wd_113 ds_X8_fail (by decide) (Nat.le_refl _) (Nat.le_of_ble_eq_true rfl) (Nat.zero_le _) (Nat.zero_le _) hc_1 (by decide) rfl rfl h
    · replace h := h.2.2.2.2.2.2.2.2.2.2.2.1 c1
      refine am_tswIn (off := 121) (tgt := 154) dX8_readLine_33 (by omega) (by omega) (by rw [c1]; decide) (by decide) ?_
      refine am_aload_n dX8_readLine_154 (List.Mem.head _) ?_
      refine am_iconst dX8_readLine_155 (by unfold am_rg; omega) ?_
      exact am_callv (d' := d) (kc := 0) (ks := 0) (as := [.inl 2]) dX8_readLine_156 wc_X8_fail wd_787 wd_789 wd_6 wd_113 ds_X8_fail (by decide) (Nat.le_refl _) (Nat.le_of_ble_eq_true rfl) (Nat.zero_le _) (Nat.zero_le _) hc_1 (by decide) rfl rfl h
    · replace h := h.2.2.2.2.2.2.2.2.2.2.2.2.1 c1
      refine am_tswIn (off := 121) (tgt := 154) dX8_readLine_33 (by omega) (by omega) (by rw [c1]; decide) (by decide) ?_
      refine am_aload_n dX8_readLine_154 (List.Mem.head _) ?_
      refine am_iconst dX8_readLine_155 (by unfold am_rg; omega) ?_
      exact am_callv (d' := d) (kc := 0) (ks := 0) (as := [.inl 2]) dX8_readLine_156 wc_X8_fail wd_787 wd_789 wd_6 wd_113 ds_X8_fail (by decide) (Nat.le_refl _) (Nat.le_of_ble_eq_true rfl) (Nat.zero_le _) (Nat.zero_le _) hc_1 (by decide) rfl rfl h
    · replace h := h.2.2.2.2.2.2.2.2.2.2.2.2.2.1 c1
      refine am_tswIn (off := 121) (tgt := 154) dX8_readLine_33 (by omega) (by omega) (by rw [c1]; decide) (by decide) ?_
      refine am_aload_n dX8_readLine_154 (List.Mem.head _) ?_
      refine am_iconst dX8_readLine_155 (by unfold am_rg; omega) ?_
      exact am_callv (d' := d) (kc := 0) (ks := 0) (as := [.inl 2]) dX8_readLine_156 wc_X8_fail wd_787 wd_789 wd_6 wd_113 ds_X8_fail (by decide) (Nat.le_refl _) (Nat.le_of_ble_eq_true rfl) (Nat.zero_le _) (Nat.zero_le _) hc_1 (by decide) rfl rfl h
    · replace h := h.2.2.2.2.2.2.2.2.2.2.2.2.2.2.1 c1
      refine am_tswIn (off := 121) (tgt := 154) dX8_readLine_33 (by omega) (by omega) (by rw [c1]; decide) (by decide) ?_
      refine am_aload_n dX8_readLine_154 (List.Mem.head _) ?_
      refine am_iconst dX8_readLine_155 (by unfold am_rg; omega) ?_
      exact am_callv (d' := d) (kc := 0) (ks := 0) (as := [.inl 2]) dX8_readLine_156 wc_X8_fail wd_787 wd_789 wd_6 wd_113 ds_X8_fail (by decide) (Nat.le_refl _) (Nat.le_of_ble_eq_true rfl) (Nat.zero_le _) (Nat.zero_le _) hc_1 (by decide) rfl rfl h
    · replace h := h.2.2.2.2.2.2.2.2.2.2.2.2.2.2.2.1 c1
      refine am_tswIn (off := 121) (tgt := 154) dX8_readLine_33 (by omega) (by omega) (by rw [c1]; decide) (by decide) ?_
      refine am_aload_n dX8_readLine_154 (List.Mem.head _) ?_
      refine am_iconst dX8_readLine_155 (by unfold am_rg; omega) ?_
      exact am_callv (d' := d) (kc := 0) (ks := 0) (as := [.inl 2]) dX8_readLine_156 wc_X8_fail wd_787 wd_789 wd_6 wd_113 ds_X8_fail (by decide) (Nat.le_refl _) (Nat.le_of_ble_eq_true rfl) (Nat.zero_le _) (Nat.zero_le _) hc_1 (by decide) rfl rfl h
    · replace h := h.2.2.2.2.2.2.2.2.2.2.2.2.2.2.2.2 c1
      refine am_tswIn (off := 83) (tgt := 116) dX8_readLine_33 (by omega) (by omega) (by rw [c1]; decide) (by decide) ?_
      refine am_iconst dX8_readLine_116 (by unfold am_rg; omega) ?_
      exact am_ret (r := some (.inl 1)) dX8_readLine_117 (Or.inr (Or.inl ⟨rfl, (Or.inr rfl)⟩)) rfl h
theorem bX8_readLine_27 {SC : Nat → Nat} {X : mh_X} {d : Nat} {Q : Option am_V → am_W → Prop} {bc bs : Nat} {w : am_W} {j1 : Nat} {x2 : Int} {x3 : Int} {xs0 : Int}
    (h : ((xs0 = 0 ∨ xs0 = 1) ∧ Q (some (.inl xs0)) w)) :
    am_A (mh_G X) SC (d + 1) mX8_readLine Q 27 [(0, .inr (.inr (some (2, 0)))), (1, .inr (.inr (some (10, j1)))), (2, .inl x2), (3, .inl x3)] [.inl xs0] w bc bs := by
  have o1 := h.1
  replace h := h.2
  exact am_ret (r := some (.inl xs0)) dX8_readLine_27 (Or.inr (Or.inl ⟨rfl, o1⟩)) rfl h
theorem bX8_readLine_159 {SC : Nat → Nat} {X : mh_X} {d : Nat} {Q : Option am_V → am_W → Prop} {bc bs : Nat} {w : am_W} {j1 : Nat} {x2 : Int} {x3 : Int} {xs0 : Int}
    (h : ((xs0 = 0 ∨ xs0 = 1) ∧ Q (some (.inl xs0)) w)) :
    am_A (mh_G X) SC (d + 1) mX8_readLine Q 159 [(0, .inr (.inr (some (2, 0)))), (1, .inr (.inr (some (10, j1)))), (2, .inl x2), (3, .inl x3)] [.inl xs0] w bc bs := by
  have o1 := h.1
  replace h := h.2
  exact am_ret (r := some (.inl xs0)) dX8_readLine_159 (Or.inr (Or.inl ⟨rfl, o1⟩)) rfl h
theorem bX8_readLine_123 {SC : Nat → Nat} {X : mh_X} {d : Nat} {Q : Option am_V → am_W → Prop} {bc bs : Nat} {w : am_W} {j1 : Nat} {x2 : Int} {x3 : Int} {xs0 : Int}
    (h : ((xs0 = 0 ∨ xs0 = 1) ∧ Q (some (.inl xs0)) w)) :
    am_A (mh_G X) SC (d + 1) mX8_readLine Q 123 [(0, .inr (.inr (some (2, 0)))), (1, .inr (.inr (some (10, j1)))), (2, .inl x2), (3, .inl x3)] [.inl xs0] w bc bs := by
  have o1 := h.1
  replace h := h.2
  exact am_ret (r := some (.inl xs0)) dX8_readLine_123 (Or.inr (Or.inl ⟨rfl, o1⟩)) rfl h
theorem bX8_readLine_129 {SC : Nat → Nat} {X : mh_X} {d : Nat} {Q : Option am_V → am_W → Prop} {bc bs : Nat} {w : am_W} {j1 : Nat} {x2 : Int} {x3 : Int} {xs0 : Int}
    (h : ((xs0 = 0 ∨ xs0 = 1) ∧ Q (some (.inl xs0)) w)) :
    am_A (mh_G X) SC (d + 1) mX8_readLine Q 129 [(0, .inr (.inr (some (2, 0)))), (1, .inr (.inr (some (10, j1)))), (2, .inl x2), (3, .inl x3)] [.inl xs0] w bc bs := by
  have o1 := h.1
  replace h := h.2
  exact am_ret (r := some (.inl xs0)) dX8_readLine_129 (Or.inr (Or.inl ⟨rfl, o1⟩)) rfl h
theorem bX8_readLine_135 {SC : Nat → Nat} {X : mh_X} {d : Nat} {Q : Option am_V → am_W → Prop} {bc bs : Nat} {w : am_W} {j1 : Nat} {x2 : Int} {x3 : Int} {xs0 : Int}
    (h : ((xs0 = 0 ∨ xs0 = 1) ∧ Q (some (.inl xs0)) w)) :
    am_A (mh_G X) SC (d + 1) mX8_readLine Q 135 [(0, .inr (.inr (some (2, 0)))), (1, .inr (.inr (some (10, j1)))), (2, .inl x2), (3, .inl x3)] [.inl xs0] w bc bs := by
  have o1 := h.1
  replace h := h.2
  exact am_ret (r := some (.inl xs0)) dX8_readLine_135 (Or.inr (Or.inl ⟨rfl, o1⟩)) rfl h
theorem bX8_readLine_141 {SC : Nat → Nat} {X : mh_X} {d : Nat} {Q : Option am_V → am_W → Prop} {bc bs : Nat} {w : am_W} {j1 : Nat} {x2 : Int} {x3 : Int} {xs0 : Int}
    (h : ((xs0 = 0 ∨ xs0 = 1) ∧ Q (some (.inl xs0)) w)) :
    am_A (mh_G X) SC (d + 1) mX8_readLine Q 141 [(0, .inr (.inr (some (2, 0)))), (1, .inr (.inr (some (10, j1)))), (2, .inl x2), (3, .inl x3)] [.inl xs0] w bc bs := by
  have o1 := h.1
  replace h := h.2
  exact am_ret (r := some (.inl xs0)) dX8_readLine_141 (Or.inr (Or.inl ⟨rfl, o1⟩)) rfl h
theorem bX8_readLine_147 {SC : Nat → Nat} {X : mh_X} {d : Nat} {Q : Option am_V → am_W → Prop} {bc bs : Nat} {w : am_W} {j1 : Nat} {x2 : Int} {x3 : Int} {xs0 : Int}
    (h : ((xs0 = 0 ∨ xs0 = 1) ∧ Q (some (.inl xs0)) w)) :
    am_A (mh_G X) SC (d + 1) mX8_readLine Q 147 [(0, .inr (.inr (some (2, 0)))), (1, .inr (.inr (some (10, j1)))), (2, .inl x2), (3, .inl x3)] [.inl xs0] w bc bs := by
  have o1 := h.1
  replace h := h.2
  exact am_ret (r := some (.inl xs0)) dX8_readLine_147 (Or.inr (Or.inl ⟨rfl, o1⟩)) rfl h
theorem bX8_readLine_153 {SC : Nat → Nat} {X : mh_X} {d : Nat} {Q : Option am_V → am_W → Prop} {bc bs : Nat} {w : am_W} {j1 : Nat} {x2 : Int} {x3 : Int} {xs0 : Int}
    (h : ((xs0 = 0 ∨ xs0 = 1) ∧ Q (some (.inl xs0)) w)) :
    am_A (mh_G X) SC (d + 1) mX8_readLine Q 153 [(0, .inr (.inr (some (2, 0)))), (1, .inr (.inr (some (10, j1)))), (2, .inl x2), (3, .inl x3)] [.inl xs0] w bc bs := by
  have o1 := h.1
  replace h := h.2
  exact am_ret (r := some (.inl xs0)) dX8_readLine_153 (Or.inr (Or.inl ⟨rfl, o1⟩)) rfl h
-- MourningHouse$Reader.fail(I)Z
theorem dX8_fail_0 : decode mX8_fail.2.1 0 = .ok (.aload_n 0, 1) := by decide +kernel
theorem dX8_fail_1 : decode mX8_fail.2.1 1 = .ok (.aload_n 0, 1) := by decide +kernel
theorem dX8_fail_2 : decode mX8_fail.2.1 2 = .ok (.getfield 33, 3) := by decide +kernel
theorem dX8_fail_5 : decode mX8_fail.2.1 5 = .ok (.putfield 24, 3) := by decide +kernel
theorem dX8_fail_8 : decode mX8_fail.2.1 8 = .ok (.aload_n 0, 1) := by decide +kernel
theorem dX8_fail_9 : decode mX8_fail.2.1 9 = .ok (.aload_n 0, 1) := by decide +kernel
theorem dX8_fail_10 : decode mX8_fail.2.1 10 = .ok (.getfield 39, 3) := by decide +kernel
theorem dX8_fail_13 : decode mX8_fail.2.1 13 = .ok (.iconst 1, 1) := by decide +kernel
theorem dX8_fail_14 : decode mX8_fail.2.1 14 = .ok (.iadd, 1) := by decide +kernel
theorem dX8_fail_15 : decode mX8_fail.2.1 15 = .ok (.putfield 27, 3) := by decide +kernel
theorem dX8_fail_18 : decode mX8_fail.2.1 18 = .ok (.aload_n 0, 1) := by decide +kernel
theorem dX8_fail_19 : decode mX8_fail.2.1 19 = .ok (.iload_n 1, 1) := by decide +kernel
theorem dX8_fail_20 : decode mX8_fail.2.1 20 = .ok (.putfield 30, 3) := by decide +kernel
theorem dX8_fail_23 : decode mX8_fail.2.1 23 = .ok (.iconst 0, 1) := by decide +kernel
theorem dX8_fail_24 : decode mX8_fail.2.1 24 = .ok (.ireturn, 1) := by decide +kernel
theorem bX8_fail_0 {SC : Nat → Nat} {X : mh_X} {d : Nat} {Q : Option am_V → am_W → Prop} {bc bs : Nat} {w : am_W} {x1 : Int}
    (h : Q (some (.inl 0)) ((am_up (am_up (am_up w.1 2 0 4 (w.1 2 0 7)) 2 0 5 (am_w (((am_up w.1 2 0 4 (w.1 2 0 7)) 2 0 9) + 1))) 2 0 6 x1), w.2)) :
    am_A (mh_G X) SC (d + 1) mX8_fail Q 0 [(0, .inr (.inr (some (2, 0)))), (1, .inl x1)] [] w bc bs := by
  refine am_aload_n dX8_fail_0 (List.Mem.head _) ?_
  refine am_aload_n dX8_fail_1 (List.Mem.head _) ?_
  refine am_getf (f := 7) (v := .inl (w.1 2 0 7)) dX8_fail_2 hc_1 (by decide) wd_161 (by decide) rfl rfl ?_
  refine am_putf (f := 4) dX8_fail_5 hc_1 (by decide) wd_155 rfl (Or.inl rfl) (Or.inl (by decide)) rfl ?_
  refine am_aload_n dX8_fail_8 (List.Mem.head _) ?_
  refine am_aload_n dX8_fail_9 (List.Mem.head _) ?_
  refine am_getf (f := 9) (v := .inl ((am_up w.1 2 0 4 (w.1 2 0 7)) 2 0 9)) dX8_fail_10 hc_1 (by decide) wd_163 (by decide) rfl rfl ?_
  refine am_iconst dX8_fail_13 (by unfold am_rg; omega) ?_
  refine am_iadd dX8_fail_14 ?_
  refine am_putf (f := 5) dX8_fail_15 hc_1 (by decide) wd_157 rfl (Or.inl rfl) (Or.inl (by decide)) rfl ?_
  refine am_aload_n dX8_fail_18 (List.Mem.head _) ?_
  refine am_iload_n dX8_fail_19 (List.Mem.tail _ (List.Mem.head _)) ?_
  refine am_putf (f := 6) dX8_fail_20 hc_1 (by decide) wd_159 rfl (Or.inl rfl) (Or.inl (by decide)) rfl ?_
  refine am_iconst dX8_fail_23 (by unfold am_rg; omega) ?_
  exact am_ret (r := some (.inl 0)) dX8_fail_24 (Or.inr (Or.inl ⟨rfl, (Or.inl rfl)⟩)) rfl h
-- MourningHouse$Reader.findTokens(II)Z
theorem dX8_findTokens_0 : decode mX8_findTokens.2.1 0 = .ok (.aload_n 0, 1) := by decide +kernel
theorem dX8_findTokens_1 : decode mX8_findTokens.2.1 1 = .ok (.iconst 0, 1) := by decide +kernel
theorem dX8_findTokens_2 : decode mX8_findTokens.2.1 2 = .ok (.putfield 36, 3) := by decide +kernel
theorem dX8_findTokens_5 : decode mX8_findTokens.2.1 5 = .ok (.iload_n 1, 1) := by decide +kernel
theorem dX8_findTokens_6 : decode mX8_findTokens.2.1 6 = .ok (.istore_n 3, 1) := by decide +kernel
theorem dX8_findTokens_7 : decode mX8_findTokens.2.1 7 = .ok (.iload_n 1, 1) := by decide +kernel
theorem dX8_findTokens_8 : decode mX8_findTokens.2.1 8 = .ok (.istore 4, 2) := by decide +kernel
theorem dX8_findTokens_10 : decode mX8_findTokens.2.1 10 = .ok (.iload 4, 2) := by decide +kernel
theorem dX8_findTokens_12 : decode mX8_findTokens.2.1 12 = .ok (.iload_n 2, 1) := by decide +kernel
theorem dX8_findTokens_13 : decode mX8_findTokens.2.1 13 = .ok (.if_icmp .ge 78, 3) := by decide +kernel
theorem dX8_findTokens_16 : decode mX8_findTokens.2.1 16 = .ok (.aload_n 0, 1) := by decide +kernel
theorem dX8_findTokens_17 : decode mX8_findTokens.2.1 17 = .ok (.getfield 9, 3) := by decide +kernel
theorem dX8_findTokens_20 : decode mX8_findTokens.2.1 20 = .ok (.iload 4, 2) := by decide +kernel
theorem dX8_findTokens_22 : decode mX8_findTokens.2.1 22 = .ok (.caload, 1) := by decide +kernel
theorem dX8_findTokens_23 : decode mX8_findTokens.2.1 23 = .ok (.bipush 35, 2) := by decide +kernel
theorem dX8_findTokens_25 : decode mX8_findTokens.2.1 25 = .ok (.if_icmp .eq 66, 3) := by decide +kernel
theorem dX8_findTokens_28 : decode mX8_findTokens.2.1 28 = .ok (.aload_n 0, 1) := by decide +kernel
theorem dX8_findTokens_29 : decode mX8_findTokens.2.1 29 = .ok (.getfield 9, 3) := by decide +kernel
theorem dX8_findTokens_32 : decode mX8_findTokens.2.1 32 = .ok (.iload 4, 2) := by decide +kernel
theorem dX8_findTokens_34 : decode mX8_findTokens.2.1 34 = .ok (.caload, 1) := by decide +kernel
theorem dX8_findTokens_35 : decode mX8_findTokens.2.1 35 = .ok (.bipush 32, 2) := by decide +kernel
theorem dX8_findTokens_37 : decode mX8_findTokens.2.1 37 = .ok (.if_icmp .ne 6, 3) := by decide +kernel
theorem dX8_findTokens_40 : decode mX8_findTokens.2.1 40 = .ok (.goto 38, 3) := by decide +kernel
theorem dX8_findTokens_43 : decode mX8_findTokens.2.1 43 = .ok (.aload_n 0, 1) := by decide +kernel
theorem dX8_findTokens_44 : decode mX8_findTokens.2.1 44 = .ok (.iload 4, 2) := by decide +kernel
theorem dX8_findTokens_46 : decode mX8_findTokens.2.1 46 = .ok (.iload_n 2, 1) := by decide +kernel
theorem dX8_findTokens_47 : decode mX8_findTokens.2.1 47 = .ok (.invokevirtual 82, 3) := by decide +kernel
theorem dX8_findTokens_50 : decode mX8_findTokens.2.1 50 = .ok (.istore_n 3, 1) := by decide +kernel
theorem dX8_findTokens_51 : decode mX8_findTokens.2.1 51 = .ok (.aload_n 0, 1) := by decide +kernel
theorem dX8_findTokens_52 : decode mX8_findTokens.2.1 52 = .ok (.iload 4, 2) := by decide +kernel
theorem dX8_findTokens_54 : decode mX8_findTokens.2.1 54 = .ok (.iload_n 3, 1) := by decide +kernel
theorem dX8_findTokens_55 : decode mX8_findTokens.2.1 55 = .ok (.invokevirtual 86, 3) := by decide +kernel
theorem dX8_findTokens_58 : decode mX8_findTokens.2.1 58 = .ok (.istore 5, 2) := by decide +kernel
theorem dX8_findTokens_60 : decode mX8_findTokens.2.1 60 = .ok (.iload 5, 2) := by decide +kernel
theorem dX8_findTokens_62 : decode mX8_findTokens.2.1 62 = .ok (.bipush 47, 2) := by decide +kernel
theorem dX8_findTokens_64 : decode mX8_findTokens.2.1 64 = .ok (.if_icmp .ne 5, 3) := by decide +kernel
theorem dX8_findTokens_67 : decode mX8_findTokens.2.1 67 = .ok (.iconst 0, 1) := by decide +kernel
theorem dX8_findTokens_68 : decode mX8_findTokens.2.1 68 = .ok (.ireturn, 1) := by decide +kernel
theorem dX8_findTokens_69 : decode mX8_findTokens.2.1 69 = .ok (.aload_n 0, 1) := by decide +kernel
theorem dX8_findTokens_70 : decode mX8_findTokens.2.1 70 = .ok (.iload 5, 2) := by decide +kernel
theorem dX8_findTokens_72 : decode mX8_findTokens.2.1 72 = .ok (.iload 4, 2) := by decide +kernel
theorem dX8_findTokens_74 : decode mX8_findTokens.2.1 74 = .ok (.iload_n 3, 1) := by decide +kernel
theorem dX8_findTokens_75 : decode mX8_findTokens.2.1 75 = .ok (.invokevirtual 91, 3) := by decide +kernel
theorem dX8_findTokens_78 : decode mX8_findTokens.2.1 78 = .ok (.iload_n 3, 1) := by decide +kernel
theorem dX8_findTokens_79 : decode mX8_findTokens.2.1 79 = .ok (.iload 4, 2) := by decide +kernel
theorem dX8_findTokens_81 : decode mX8_findTokens.2.1 81 = .ok (.iconst 1, 1) := by decide +kernel
theorem dX8_findTokens_82 : decode mX8_findTokens.2.1 82 = .ok (.iadd, 1) := by decide +kernel
theorem dX8_findTokens_83 : decode mX8_findTokens.2.1 83 = .ok (.invokestatic 95, 3) := by decide +kernel
theorem dX8_findTokens_86 : decode mX8_findTokens.2.1 86 = .ok (.istore 4, 2) := by decide +kernel
theorem dX8_findTokens_88 : decode mX8_findTokens.2.1 88 = .ok (.goto (-78), 3) := by decide +kernel
theorem dX8_findTokens_91 : decode mX8_findTokens.2.1 91 = .ok (.iconst 1, 1) := by decide +kernel
theorem dX8_findTokens_92 : decode mX8_findTokens.2.1 92 = .ok (.ireturn, 1) := by decide +kernel
theorem bX8_findTokens_0 {SC : Nat → Nat} {X : mh_X} {d : Nat} {Q : Option am_V → am_W → Prop} {bc bs : Nat} {w : am_W} {x1 : Int} {x2 : Int}
    (h : am_A (mh_G X) SC (d + 1) mX8_findTokens Q 10 [(0, .inr (.inr (some (2, 0)))), (2, .inl x2), (3, .inl x1), (4, .inl x1)] [] ((am_up w.1 2 0 8 0), w.2) bc bs) :
    am_A (mh_G X) SC (d + 1) mX8_findTokens Q 0 [(0, .inr (.inr (some (2, 0)))), (1, .inl x1), (2, .inl x2)] [] w bc bs := by
  refine am_aload_n dX8_findTokens_0 (List.Mem.head _) ?_
  refine am_iconst dX8_findTokens_1 (by unfold am_rg; omega) ?_
  refine am_putf (f := 8) dX8_findTokens_2 hc_1 (by decide) wd_162 rfl (Or.inl rfl) (Or.inl (by decide)) rfl ?_
  refine am_iload_n dX8_findTokens_5 (List.Mem.tail _ (List.Mem.head _)) ?_
  refine am_istore_n (ls' := [(3, .inl x1), (0, .inr (.inr (some (2, 0)))), (1, .inl x1), (2, .inl x2)]) dX8_findTokens_6 (by decide) rfl ?_
  refine am_iload_n dX8_findTokens_7 (List.Mem.tail _ (List.Mem.tail _ (List.Mem.head _))) ?_
  refine am_istore (ls' := [(4, .inl x1), (3, .inl x1), (0, .inr (.inr (some (2, 0)))), (1, .inl x1), (2, .inl x2)]) dX8_findTokens_8 (by decide) rfl ?_
  exact am_sub [2, 4, 1, 0] rfl h
theorem bX8_findTokens_10 {SC : Nat → Nat} {X : mh_X} {d : Nat} {Q : Option am_V → am_W → Prop} {bc bs : Nat} {w : am_W} {x2 : Int} {x3 : Int} {x4 : Int}
    (h : ((x2 ≤ x4 → Q (some (.inl 1)) w) ∧ (¬ x2 ≤ x4 → (0 ≤ x4 ∧ (x4 < 3000 ∧ (((w.1 24 0 x4.toNat) = 35 → Q (some (.inl 1)) w) ∧ (¬ (w.1 24 0 x4.toNat) = 35 → ((¬ (w.1 24 0 x4.toNat) = 32 → am_M (mh_G X) SC d 0 0 mX8_endOfToken [.inr (.inr (some (2, 0))), .inl x4, .inl x2] w (fun r w1 => am_A (mh_G X) SC (d + 1) mX8_findTokens Q 50 [(0, .inr (.inr (some (2, 0)))), (2, .inl x2), (3, .inl x3), (4, .inl x4)] (r.toList ++ []) w1 bc bs)) ∧ ((w.1 24 0 x4.toNat) = 32 → am_A (mh_G X) SC (d + 1) mX8_findTokens Q 78 [(0, .inr (.inr (some (2, 0)))), (2, .inl x2), (3, .inl x3), (4, .inl x4)] [] w bc bs))))))))) :
    am_A (mh_G X) SC (d + 1) mX8_findTokens Q 10 [(0, .inr (.inr (some (2, 0)))), (2, .inl x2), (3, .inl x3), (4, .inl x4)] [] w bc bs := by
  refine am_iload dX8_findTokens_10 (List.Mem.tail _ (List.Mem.tail _ (List.Mem.tail _ (List.Mem.head _)))) ?_
  refine am_iload_n dX8_findTokens_12 (List.Mem.tail _ (List.Mem.head _)) ?_
  refine am_icmpge (tgt := 91) dX8_findTokens_13 (by decide) (fun c1 => ?_) (fun c1 => ?_)
  · replace h := h.1 c1
    refine am_iconst dX8_findTokens_91 (by unfold am_rg; omega) ?_
    exact am_ret (r := some (.inl 1)) dX8_findTokens_92 (Or.inr (Or.inl ⟨rfl, (Or.inr rfl)⟩)) rfl h
  · replace h := h.2 c1
    refine am_aload_n dX8_findTokens_16 (List.Mem.head _) ?_
    refine am_getf (f := 0) (v := .inr (.inr (some (24, 0)))) dX8_findTokens_17 hc_1 (by decide) wd_150 (by decide) rfl rfl ?_
    refine am_iload dX8_findTokens_20 (List.Mem.tail _ (List.Mem.tail _ (List.Mem.tail _ (List.Mem.head _)))) ?_
    have o2 := h.1
    replace h := h.2
    have o3 := h.1
    replace h := h.2
    refine am_caload (v := (w.1 24 0 x4.toNat)) dX8_findTokens_22 (by decide) rfl o2 o3 rfl ?_
    refine am_bipush dX8_findTokens_23 (by decide) (by unfold am_rg; omega) ?_
    refine am_icmpeq (tgt := 91) dX8_findTokens_25 (by decide) (fun c4 => ?_) (fun c4 => ?_)
    · replace h := h.1 c4
      refine am_iconst dX8_findTokens_91 (by unfold am_rg; omega) ?_
      exact am_ret (r := some (.inl 1)) dX8_findTokens_92 (Or.inr (Or.inl ⟨rfl, (Or.inr rfl)⟩)) rfl h
    · replace h := h.2 c4
      refine am_aload_n dX8_findTokens_28 (List.Mem.head _) ?_
      refine am_getf (f := 0) (v := .inr (.inr (some (24, 0)))) dX8_findTokens_29 hc_1 (by decide) wd_150 (by decide) rfl rfl ?_
      refine am_iload dX8_findTokens_32 (List.Mem.tail _ (List.Mem.tail _ (List.Mem.tail _ (List.Mem.head _)))) ?_
      refine am_caload (v := (w.1 24 0 x4.toNat)) dX8_findTokens_34 (by decide) rfl o2 o3 rfl ?_
      refine am_bipush dX8_findTokens_35 (by decide) (by unfold am_rg; omega) ?_
      refine am_icmpne (tgt := 43) dX8_findTokens_37 (by decide) (fun c5 => ?_) (fun c5 => ?_)
      · replace h := h.1 c5
        refine am_aload_n dX8_findTokens_43 (List.Mem.head _) ?_
        refine am_iload dX8_findTokens_44 (List.Mem.tail _ (List.Mem.tail _ (List.Mem.tail _ (List.Mem.head _)))) ?_
        refine am_iload_n dX8_findTokens_46 (List.Mem.tail _ (List.Mem.head _)) ?_
        exact am_callv (d' := d) (kc := 0) (ks := 0) (as := [.inl x4, .inl x2]) dX8_findTokens_47 wc_X8_endOfToken wd_649 wd_651 wd_2 wd_113 ds_X8_endOfToken (by decide) (Nat.le_refl _) (Nat.le_of_ble_eq_true rfl) (Nat.zero_le _) (Nat.zero_le _) hc_1 (by decide) rfl rfl h
      · replace h := h.2 c5
        refine am_goto (tgt := 78) dX8_findTokens_40 (by decide) ?_
        exact h
theorem bX8_findTokens_50 {SC : Nat → Nat} {X : mh_X} {d : Nat} {Q : Option am_V → am_W → Prop} {bc bs : Nat} {w : am_W} {x2 : Int} {x3 : Int} {x4 : Int} {xs0 : Int}
    (h : am_M (mh_G X) SC d 0 0 mX8_kindOf [.inr (.inr (some (2, 0))), .inl x4, .inl xs0] w (fun r w1 => am_A (mh_G X) SC (d + 1) mX8_findTokens Q 58 [(3, .inl xs0), (0, .inr (.inr (some (2, 0)))), (2, .inl x2), (4, .inl x4)] (r.toList ++ []) w1 bc bs)) :
    am_A (mh_G X) SC (d + 1) mX8_findTokens Q 50 [(0, .inr (.inr (some (2, 0)))), (2, .inl x2), (3, .inl x3), (4, .inl x4)] [.inl xs0] w bc bs := by
  refine am_istore_n (ls' := [(3, .inl xs0), (0, .inr (.inr (some (2, 0)))), (2, .inl x2), (4, .inl x4)]) dX8_findTokens_50 (by decide) rfl ?_
  refine am_aload_n dX8_findTokens_51 (List.Mem.tail _ (List.Mem.head _)) ?_
  refine am_iload dX8_findTokens_52 (List.Mem.tail _ (List.Mem.tail _ (List.Mem.tail _ (List.Mem.head _)))) ?_
  refine am_iload_n dX8_findTokens_54 (List.Mem.head _) ?_
  exact am_callv (d' := d) (kc := 0) (ks := 0) (as := [.inl x4, .inl xs0]) dX8_findTokens_55 wc_X8_kindOf wd_659 wd_661 wd_3 wd_113 ds_X8_kindOf (by decide) (Nat.le_refl _) (Nat.le_of_ble_eq_true rfl) (Nat.zero_le _) (Nat.zero_le _) hc_1 (by decide) rfl rfl h
theorem bX8_findTokens_78 {SC : Nat → Nat} {X : mh_X} {d : Nat} {Q : Option am_V → am_W → Prop} {bc bs : Nat} {w : am_W} {x2 : Int} {x3 : Int} {x4 : Int}
    (h : am_M (mh_G X) SC d 0 0 mJ9_max_7cf53 [.inl x3, .inl (am_w (x4 + 1))] w (fun r w1 => am_A (mh_G X) SC (d + 1) mX8_findTokens Q 86 [(0, .inr (.inr (some (2, 0)))), (2, .inl x2), (3, .inl x3), (4, .inl x4)] (r.toList ++ []) w1 bc bs)) :
    am_A (mh_G X) SC (d + 1) mX8_findTokens Q 78 [(0, .inr (.inr (some (2, 0)))), (2, .inl x2), (3, .inl x3), (4, .inl x4)] [] w bc bs := by
  refine am_iload_n dX8_findTokens_78 (List.Mem.tail _ (List.Mem.tail _ (List.Mem.head _))) ?_
  refine am_iload dX8_findTokens_79 (List.Mem.tail _ (List.Mem.tail _ (List.Mem.tail _ (List.Mem.head _)))) ?_
  refine am_iconst dX8_findTokens_81 (by unfold am_rg; omega) ?_
  refine am_iadd dX8_findTokens_82 ?_
  exact am_calls (d' := d) (kc := 0) (ks := 0) (as := [.inl x3, .inl (am_w (x4 + 1))]) dX8_findTokens_83 wc_J9_max_7cf53 wd_784 wd_785 wd_128 ds_J9_max_7cf53 (by decide) (Nat.le_refl _) (Nat.le_of_ble_eq_true rfl) (Nat.zero_le _) (Nat.zero_le _) rfl h
theorem bX8_findTokens_58 {SC : Nat → Nat} {X : mh_X} {d : Nat} {Q : Option am_V → am_W → Prop} {bc bs : Nat} {w : am_W} {x3 : Int} {x2 : Int} {x4 : Int} {xs0 : Int}
    (h : ((¬ xs0 = 47 → am_M (mh_G X) SC d 0 0 mX8_keepToken [.inr (.inr (some (2, 0))), .inl xs0, .inl x4, .inl x3] w (fun r w1 => am_A (mh_G X) SC (d + 1) mX8_findTokens Q 78 [(5, .inl xs0), (3, .inl x3), (0, .inr (.inr (some (2, 0)))), (2, .inl x2), (4, .inl x4)] (r.toList ++ []) w1 bc bs)) ∧ (xs0 = 47 → Q (some (.inl 0)) w))) :
    am_A (mh_G X) SC (d + 1) mX8_findTokens Q 58 [(3, .inl x3), (0, .inr (.inr (some (2, 0)))), (2, .inl x2), (4, .inl x4)] [.inl xs0] w bc bs := by
  refine am_istore (ls' := [(5, .inl xs0), (3, .inl x3), (0, .inr (.inr (some (2, 0)))), (2, .inl x2), (4, .inl x4)]) dX8_findTokens_58 (by decide) rfl ?_
  refine am_iload dX8_findTokens_60 (List.Mem.head _) ?_
  refine am_bipush dX8_findTokens_62 (by decide) (by unfold am_rg; omega) ?_
  refine am_icmpne (tgt := 69) dX8_findTokens_64 (by decide) (fun c1 => ?_) (fun c1 => ?_)
  · replace h := h.1 c1
    refine am_aload_n dX8_findTokens_69 (List.Mem.tail _ (List.Mem.tail _ (List.Mem.head _))) ?_
    refine am_iload dX8_findTokens_70 (List.Mem.head _) ?_
    refine am_iload dX8_findTokens_72 (List.Mem.tail _ (List.Mem.tail _ (List.Mem.tail _ (List.Mem.tail _ (List.Mem.head _))))) ?_
    refine am_iload_n dX8_findTokens_74 (List.Mem.tail _ (List.Mem.head _)) ?_
    exact am_callv (d' := d) (kc := 0) (ks := 0) (as := [.inl xs0, .inl x4, .inl x3]) dX8_findTokens_75 wc_X8_keepToken wd_772 wd_774 wd_4 wd_113 ds_X8_keepToken (by decide) (Nat.le_refl _) (Nat.le_of_ble_eq_true rfl) (Nat.zero_le _) (Nat.zero_le _) hc_1 (by decide) rfl rfl h
  · replace h := h.2 c1
    refine am_iconst dX8_findTokens_67 (by unfold am_rg; omega) ?_
    exact am_ret (r := some (.inl 0)) dX8_findTokens_68 (Or.inr (Or.inl ⟨rfl, (Or.inl rfl)⟩)) rfl h
theorem bX8_findTokens_86 {SC : Nat → Nat} {X : mh_X} {d : Nat} {Q : Option am_V → am_W → Prop} {bc bs : Nat} {w : am_W} {x2 : Int} {x3 : Int} {x4 : Int} {xs0 : Int}
    (h : am_A (mh_G X) SC (d + 1) mX8_findTokens Q 10 [(0, .inr (.inr (some (2, 0)))), (2, .inl x2), (3, .inl x3), (4, .inl xs0)] [] w bc bs) :
    am_A (mh_G X) SC (d + 1) mX8_findTokens Q 86 [(0, .inr (.inr (some (2, 0)))), (2, .inl x2), (3, .inl x3), (4, .inl x4)] [.inl xs0] w bc bs := by
  refine am_istore (ls' := [(4, .inl xs0), (0, .inr (.inr (some (2, 0)))), (2, .inl x2), (3, .inl x3)]) dX8_findTokens_86 (by decide) rfl ?_
  refine am_goto (tgt := 10) dX8_findTokens_88 (by decide) ?_
  exact am_sub [1, 2, 3, 0] rfl h
theorem bX8_findTokens_78a {SC : Nat → Nat} {X : mh_X} {d : Nat} {Q : Option am_V → am_W → Prop} {bc bs : Nat} {w : am_W} {x5 : Int} {x3 : Int} {x2 : Int} {x4 : Int}
    (h : am_M (mh_G X) SC d 0 0 mJ9_max_7cf53 [.inl x3, .inl (am_w (x4 + 1))] w (fun r w1 => am_A (mh_G X) SC (d + 1) mX8_findTokens Q 86 [(5, .inl x5), (3, .inl x3), (0, .inr (.inr (some (2, 0)))), (2, .inl x2), (4, .inl x4)] (r.toList ++ []) w1 bc bs)) :
    am_A (mh_G X) SC (d + 1) mX8_findTokens Q 78 [(5, .inl x5), (3, .inl x3), (0, .inr (.inr (some (2, 0)))), (2, .inl x2), (4, .inl x4)] [] w bc bs := by
  refine am_iload_n dX8_findTokens_78 (List.Mem.tail _ (List.Mem.head _)) ?_
  refine am_iload dX8_findTokens_79 (List.Mem.tail _ (List.Mem.tail _ (List.Mem.tail _ (List.Mem.tail _ (List.Mem.head _))))) ?_
  refine am_iconst dX8_findTokens_81 (by unfold am_rg; omega) ?_
  refine am_iadd dX8_findTokens_82 ?_
  exact am_calls (d' := d) (kc := 0) (ks := 0) (as := [.inl x3, .inl (am_w (x4 + 1))]) dX8_findTokens_83 wc_J9_max_7cf53 wd_784 wd_785 wd_128 ds_J9_max_7cf53 (by decide) (Nat.le_refl _) (Nat.le_of_ble_eq_true rfl) (Nat.zero_le _) (Nat.zero_le _) rfl h
theorem bX8_findTokens_86a {SC : Nat → Nat} {X : mh_X} {d : Nat} {Q : Option am_V → am_W → Prop} {bc bs : Nat} {w : am_W} {x5 : Int} {x3 : Int} {x2 : Int} {x4 : Int} {xs0 : Int}
    (h : am_A (mh_G X) SC (d + 1) mX8_findTokens Q 10 [(0, .inr (.inr (some (2, 0)))), (2, .inl x2), (3, .inl x3), (4, .inl xs0)] [] w bc bs) :
    am_A (mh_G X) SC (d + 1) mX8_findTokens Q 86 [(5, .inl x5), (3, .inl x3), (0, .inr (.inr (some (2, 0)))), (2, .inl x2), (4, .inl x4)] [.inl xs0] w bc bs := by
  refine am_istore (ls' := [(4, .inl xs0), (5, .inl x5), (3, .inl x3), (0, .inr (.inr (some (2, 0)))), (2, .inl x2)]) dX8_findTokens_86 (by decide) rfl ?_
  refine am_goto (tgt := 10) dX8_findTokens_88 (by decide) ?_
  exact am_sub [3, 4, 2, 0] rfl h
-- MourningHouse$Reader.endOfToken(II)I
theorem dX8_endOfToken_0 : decode mX8_endOfToken.2.1 0 = .ok (.iload_n 1, 1) := by decide +kernel
theorem dX8_endOfToken_1 : decode mX8_endOfToken.2.1 1 = .ok (.iconst 1, 1) := by decide +kernel
theorem dX8_endOfToken_2 : decode mX8_endOfToken.2.1 2 = .ok (.iadd, 1) := by decide +kernel
theorem dX8_endOfToken_3 : decode mX8_endOfToken.2.1 3 = .ok (.istore_n 3, 1) := by decide +kernel
theorem dX8_endOfToken_4 : decode mX8_endOfToken.2.1 4 = .ok (.aload_n 0, 1) := by decide +kernel
theorem dX8_endOfToken_5 : decode mX8_endOfToken.2.1 5 = .ok (.getfield 9, 3) := by decide +kernel
theorem dX8_endOfToken_8 : decode mX8_endOfToken.2.1 8 = .ok (.iload_n 1, 1) := by decide +kernel
theorem dX8_endOfToken_9 : decode mX8_endOfToken.2.1 9 = .ok (.caload, 1) := by decide +kernel
theorem dX8_endOfToken_10 : decode mX8_endOfToken.2.1 10 = .ok (.invokestatic 100, 3) := by decide +kernel
theorem dX8_endOfToken_13 : decode mX8_endOfToken.2.1 13 = .ok (.ifCond .eq 26, 3) := by decide +kernel
theorem dX8_endOfToken_16 : decode mX8_endOfToken.2.1 16 = .ok (.iload_n 3, 1) := by decide +kernel
theorem dX8_endOfToken_17 : decode mX8_endOfToken.2.1 17 = .ok (.iload_n 2, 1) := by decide +kernel
theorem dX8_endOfToken_18 : decode mX8_endOfToken.2.1 18 = .ok (.if_icmp .ge 56, 3) := by decide +kernel
theorem dX8_endOfToken_21 : decode mX8_endOfToken.2.1 21 = .ok (.aload_n 0, 1) := by decide +kernel
theorem dX8_endOfToken_22 : decode mX8_endOfToken.2.1 22 = .ok (.getfield 9, 3) := by decide +kernel
theorem dX8_endOfToken_25 : decode mX8_endOfToken.2.1 25 = .ok (.iload_n 3, 1) := by decide +kernel
theorem dX8_endOfToken_26 : decode mX8_endOfToken.2.1 26 = .ok (.caload, 1) := by decide +kernel
theorem dX8_endOfToken_27 : decode mX8_endOfToken.2.1 27 = .ok (.invokestatic 100, 3) := by decide +kernel
theorem dX8_endOfToken_30 : decode mX8_endOfToken.2.1 30 = .ok (.ifCond .eq 44, 3) := by decide +kernel
theorem dX8_endOfToken_33 : decode mX8_endOfToken.2.1 33 = .ok (.iinc 3 1, 3) := by decide +kernel
theorem dX8_endOfToken_36 : decode mX8_endOfToken.2.1 36 = .ok (.goto (-20), 3) := by decide +kernel
theorem dX8_endOfToken_39 : decode mX8_endOfToken.2.1 39 = .ok (.aload_n 0, 1) := by decide +kernel
theorem dX8_endOfToken_40 : decode mX8_endOfToken.2.1 40 = .ok (.getfield 9, 3) := by decide +kernel
theorem dX8_endOfToken_43 : decode mX8_endOfToken.2.1 43 = .ok (.iload_n 1, 1) := by decide +kernel
theorem dX8_endOfToken_44 : decode mX8_endOfToken.2.1 44 = .ok (.caload, 1) := by decide +kernel
theorem dX8_endOfToken_45 : decode mX8_endOfToken.2.1 45 = .ok (.invokestatic 104, 3) := by decide +kernel
theorem dX8_endOfToken_48 : decode mX8_endOfToken.2.1 48 = .ok (.ifCond .eq 26, 3) := by decide +kernel
theorem dX8_endOfToken_51 : decode mX8_endOfToken.2.1 51 = .ok (.iload_n 3, 1) := by decide +kernel
theorem dX8_endOfToken_52 : decode mX8_endOfToken.2.1 52 = .ok (.iload_n 2, 1) := by decide +kernel
theorem dX8_endOfToken_53 : decode mX8_endOfToken.2.1 53 = .ok (.if_icmp .ge 21, 3) := by decide +kernel
theorem dX8_endOfToken_56 : decode mX8_endOfToken.2.1 56 = .ok (.aload_n 0, 1) := by decide +kernel
theorem dX8_endOfToken_57 : decode mX8_endOfToken.2.1 57 = .ok (.getfield 9, 3) := by decide +kernel
theorem dX8_endOfToken_60 : decode mX8_endOfToken.2.1 60 = .ok (.iload_n 3, 1) := by decide +kernel
theorem dX8_endOfToken_61 : decode mX8_endOfToken.2.1 61 = .ok (.caload, 1) := by decide +kernel
theorem dX8_endOfToken_62 : decode mX8_endOfToken.2.1 62 = .ok (.invokestatic 104, 3) := by decide +kernel
theorem dX8_endOfToken_65 : decode mX8_endOfToken.2.1 65 = .ok (.ifCond .eq 9, 3) := by decide +kernel
theorem dX8_endOfToken_68 : decode mX8_endOfToken.2.1 68 = .ok (.iinc 3 1, 3) := by decide +kernel
theorem dX8_endOfToken_71 : decode mX8_endOfToken.2.1 71 = .ok (.goto (-20), 3) := by decide +kernel
theorem dX8_endOfToken_74 : decode mX8_endOfToken.2.1 74 = .ok (.iload_n 3, 1) := by decide +kernel
theorem dX8_endOfToken_75 : decode mX8_endOfToken.2.1 75 = .ok (.ireturn, 1) := by decide +kernel
theorem bX8_endOfToken_0 {SC : Nat → Nat} {X : mh_X} {d : Nat} {Q : Option am_V → am_W → Prop} {bc bs : Nat} {w : am_W} {x1 : Int} {x2 : Int}
    (h : (0 ≤ x1 ∧ (x1 < 3000 ∧ am_M (mh_G X) SC d 0 0 mX8_isLetter [.inl (w.1 24 0 x1.toNat)] w (fun r w1 => am_A (mh_G X) SC (d + 1) mX8_endOfToken Q 13 [(3, .inl (am_w (x1 + 1))), (0, .inr (.inr (some (2, 0)))), (1, .inl x1), (2, .inl x2)] (r.toList ++ []) w1 bc bs)))) :
    am_A (mh_G X) SC (d + 1) mX8_endOfToken Q 0 [(0, .inr (.inr (some (2, 0)))), (1, .inl x1), (2, .inl x2)] [] w bc bs := by
  refine am_iload_n dX8_endOfToken_0 (List.Mem.tail _ (List.Mem.head _)) ?_
  refine am_iconst dX8_endOfToken_1 (by unfold am_rg; omega) ?_
  refine am_iadd dX8_endOfToken_2 ?_
  refine am_istore_n (ls' := [(3, .inl (am_w (x1 + 1))), (0, .inr (.inr (some (2, 0)))), (1, .inl x1), (2, .inl x2)]) dX8_endOfToken_3 (by decide) rfl ?_
  refine am_aload_n dX8_endOfToken_4 (List.Mem.tail _ (List.Mem.head _)) ?_
  refine am_getf (f := 0) (v := .inr (.inr (some (24, 0)))) dX8_endOfToken_5 hc_1 (by decide) wd_150 (by decide) rfl rfl ?_
  refine am_iload_n dX8_endOfToken_8 (List.Mem.tail _ (List.Mem.tail _ (List.Mem.head _))) ?_
  have o1 := h.1
  replace h := h.2
  have o2 := h.1
  replace h := h.2
  refine am_caload (v := (w.1 24 0 x1.toNat)) dX8_endOfToken_9 (by decide) rfl o1 o2 rfl ?_
  exact am_calls (d' := d) (kc := 0) (ks := 0) (as := [.inl (w.1 24 0 x1.toNat)]) dX8_endOfToken_10 wc_X8_isLetter wd_653 wd_654 wd_113 ds_X8_isLetter (by decide) (Nat.le_refl _) (Nat.le_of_ble_eq_true rfl) (Nat.zero_le _) (Nat.zero_le _) rfl h
theorem bX8_endOfToken_13 {SC : Nat → Nat} {X : mh_X} {d : Nat} {Q : Option am_V → am_W → Prop} {bc bs : Nat} {w : am_W} {x3 : Int} {x1 : Int} {x2 : Int} {xs0 : Int}
    (h : ((xs0 = 0 → (0 ≤ x1 ∧ (x1 < 3000 ∧ am_M (mh_G X) SC d 0 0 mX8_isDigit [.inl (w.1 24 0 x1.toNat)] w (fun r w1 => am_A (mh_G X) SC (d + 1) mX8_endOfToken Q 48 [(3, .inl x3), (0, .inr (.inr (some (2, 0)))), (1, .inl x1), (2, .inl x2)] (r.toList ++ []) w1 bc bs)))) ∧ (¬ xs0 = 0 → am_A (mh_G X) SC (d + 1) mX8_endOfToken Q 16 [(0, .inr (.inr (some (2, 0)))), (2, .inl x2), (3, .inl x3)] [] w bc bs))) :
    am_A (mh_G X) SC (d + 1) mX8_endOfToken Q 13 [(3, .inl x3), (0, .inr (.inr (some (2, 0)))), (1, .inl x1), (2, .inl x2)] [.inl xs0] w bc bs := by
  refine am_ifeq (tgt := 39) dX8_endOfToken_13 (by decide) (fun c1 => ?_) (fun c1 => ?_)
  · replace h := h.1 c1
    refine am_aload_n dX8_endOfToken_39 (List.Mem.tail _ (List.Mem.head _)) ?_
    refine am_getf (f := 0) (v := .inr (.inr (some (24, 0)))) dX8_endOfToken_40 hc_1 (by decide) wd_150 (by decide) rfl rfl ?_
    refine am_iload_n dX8_endOfToken_43 (List.Mem.tail _ (List.Mem.tail _ (List.Mem.head _))) ?_
    have o2 := h.1
    replace h := h.2
    have o3 := h.1
    replace h := h.2
    refine am_caload (v := (w.1 24 0 x1.toNat)) dX8_endOfToken_44 (by decide) rfl o2 o3 rfl ?_
    exact am_calls (d' := d) (kc := 0) (ks := 0) (as := [.inl (w.1 24 0 x1.toNat)]) dX8_endOfToken_45 wc_X8_isDigit wd_656 wd_657 wd_113 ds_X8_isDigit (by decide) (Nat.le_refl _) (Nat.le_of_ble_eq_true rfl) (Nat.zero_le _) (Nat.zero_le _) rfl h
  · replace h := h.2 c1
    exact am_sub [1, 3, 0] rfl h
theorem bX8_endOfToken_48 {SC : Nat → Nat} {X : mh_X} {d : Nat} {Q : Option am_V → am_W → Prop} {bc bs : Nat} {w : am_W} {x3 : Int} {x1 : Int} {x2 : Int} {xs0 : Int}
    (h : ((xs0 = 0 → Q (some (.inl x3)) w) ∧ (¬ xs0 = 0 → am_A (mh_G X) SC (d + 1) mX8_endOfToken Q 51 [(0, .inr (.inr (some (2, 0)))), (2, .inl x2), (3, .inl x3)] [] w bc bs))) :
    am_A (mh_G X) SC (d + 1) mX8_endOfToken Q 48 [(3, .inl x3), (0, .inr (.inr (some (2, 0)))), (1, .inl x1), (2, .inl x2)] [.inl xs0] w bc bs := by
  refine am_ifeq (tgt := 74) dX8_endOfToken_48 (by decide) (fun c1 => ?_) (fun c1 => ?_)
  · replace h := h.1 c1
    refine am_iload_n dX8_endOfToken_74 (List.Mem.head _) ?_
    exact am_ret (r := some (.inl x3)) dX8_endOfToken_75 (Or.inl rfl) rfl h
  · replace h := h.2 c1
    exact am_sub [1, 3, 0] rfl h
theorem bX8_endOfToken_16 {SC : Nat → Nat} {X : mh_X} {d : Nat} {Q : Option am_V → am_W → Prop} {bc bs : Nat} {w : am_W} {x2 : Int} {x3 : Int}
    (h : ((x2 ≤ x3 → Q (some (.inl x3)) w) ∧ (¬ x2 ≤ x3 → (0 ≤ x3 ∧ (x3 < 3000 ∧ am_M (mh_G X) SC d 0 0 mX8_isLetter [.inl (w.1 24 0 x3.toNat)] w (fun r w1 => am_A (mh_G X) SC (d + 1) mX8_endOfToken Q 30 [(0, .inr (.inr (some (2, 0)))), (2, .inl x2), (3, .inl x3)] (r.toList ++ []) w1 bc bs)))))) :
    am_A (mh_G X) SC (d + 1) mX8_endOfToken Q 16 [(0, .inr (.inr (some (2, 0)))), (2, .inl x2), (3, .inl x3)] [] w bc bs := by
  refine am_iload_n dX8_endOfToken_16 (List.Mem.tail _ (List.Mem.tail _ (List.Mem.head _))) ?_
  refine am_iload_n dX8_endOfToken_17 (List.Mem.tail _ (List.Mem.head _)) ?_
  refine am_icmpge (tgt := 74) dX8_endOfToken_18 (by decide) (fun c1 => ?_) (fun c1 => ?_)
  · replace h := h.1 c1
    refine am_iload_n dX8_endOfToken_74 (List.Mem.tail _ (List.Mem.tail _ (List.Mem.head _))) ?_
    exact am_ret (r := some (.inl x3)) dX8_endOfToken_75 (Or.inl rfl) rfl h
  · replace h := h.2 c1
    refine am_aload_n dX8_endOfToken_21 (List.Mem.head _) ?_
    refine am_getf (f := 0) (v := .inr (.inr (some (24, 0)))) dX8_endOfToken_22 hc_1 (by decide) wd_150 (by decide) rfl rfl ?_
    refine am_iload_n dX8_endOfToken_25 (List.Mem.tail _ (List.Mem.tail _ (List.Mem.head _))) ?_
    have o2 := h.1
    replace h := h.2
    have o3 := h.1
    replace h := h.2
    refine am_caload (v := (w.1 24 0 x3.toNat)) dX8_endOfToken_26 (by decide) rfl o2 o3 rfl ?_
    exact am_calls (d' := d) (kc := 0) (ks := 0) (as := [.inl (w.1 24 0 x3.toNat)]) dX8_endOfToken_27 wc_X8_isLetter wd_653 wd_654 wd_113 ds_X8_isLetter (by decide) (Nat.le_refl _) (Nat.le_of_ble_eq_true rfl) (Nat.zero_le _) (Nat.zero_le _) rfl h
theorem bX8_endOfToken_51 {SC : Nat → Nat} {X : mh_X} {d : Nat} {Q : Option am_V → am_W → Prop} {bc bs : Nat} {w : am_W} {x2 : Int} {x3 : Int}
    (h : ((x2 ≤ x3 → Q (some (.inl x3)) w) ∧ (¬ x2 ≤ x3 → (0 ≤ x3 ∧ (x3 < 3000 ∧ am_M (mh_G X) SC d 0 0 mX8_isDigit [.inl (w.1 24 0 x3.toNat)] w (fun r w1 => am_A (mh_G X) SC (d + 1) mX8_endOfToken Q 65 [(0, .inr (.inr (some (2, 0)))), (2, .inl x2), (3, .inl x3)] (r.toList ++ []) w1 bc bs)))))) :
    am_A (mh_G X) SC (d + 1) mX8_endOfToken Q 51 [(0, .inr (.inr (some (2, 0)))), (2, .inl x2), (3, .inl x3)] [] w bc bs := by
  refine am_iload_n dX8_endOfToken_51 (List.Mem.tail _ (List.Mem.tail _ (List.Mem.head _))) ?_
  refine am_iload_n dX8_endOfToken_52 (List.Mem.tail _ (List.Mem.head _)) ?_
  refine am_icmpge (tgt := 74) dX8_endOfToken_53 (by decide) (fun c1 => ?_) (fun c1 => ?_)
  · replace h := h.1 c1
    refine am_iload_n dX8_endOfToken_74 (List.Mem.tail _ (List.Mem.tail _ (List.Mem.head _))) ?_
    exact am_ret (r := some (.inl x3)) dX8_endOfToken_75 (Or.inl rfl) rfl h
  · replace h := h.2 c1
    refine am_aload_n dX8_endOfToken_56 (List.Mem.head _) ?_
    refine am_getf (f := 0) (v := .inr (.inr (some (24, 0)))) dX8_endOfToken_57 hc_1 (by decide) wd_150 (by decide) rfl rfl ?_
    refine am_iload_n dX8_endOfToken_60 (List.Mem.tail _ (List.Mem.tail _ (List.Mem.head _))) ?_
    have o2 := h.1
    replace h := h.2
    have o3 := h.1
    replace h := h.2
    refine am_caload (v := (w.1 24 0 x3.toNat)) dX8_endOfToken_61 (by decide) rfl o2 o3 rfl ?_
    exact am_calls (d' := d) (kc := 0) (ks := 0) (as := [.inl (w.1 24 0 x3.toNat)]) dX8_endOfToken_62 wc_X8_isDigit wd_656 wd_657 wd_113 ds_X8_isDigit (by decide) (Nat.le_refl _) (Nat.le_of_ble_eq_true rfl) (Nat.zero_le _) (Nat.zero_le _) rfl h
theorem bX8_endOfToken_30 {SC : Nat → Nat} {X : mh_X} {d : Nat} {Q : Option am_V → am_W → Prop} {bc bs : Nat} {w : am_W} {x2 : Int} {x3 : Int} {xs0 : Int}
    (h : ((xs0 = 0 → Q (some (.inl x3)) w) ∧ (¬ xs0 = 0 → am_A (mh_G X) SC (d + 1) mX8_endOfToken Q 16 [(0, .inr (.inr (some (2, 0)))), (2, .inl x2), (3, .inl (am_w (x3 + 1)))] [] w bc bs))) :
    am_A (mh_G X) SC (d + 1) mX8_endOfToken Q 30 [(0, .inr (.inr (some (2, 0)))), (2, .inl x2), (3, .inl x3)] [.inl xs0] w bc bs := by
  refine am_ifeq (tgt := 74) dX8_endOfToken_30 (by decide) (fun c1 => ?_) (fun c1 => ?_)
  · replace h := h.1 c1
    refine am_iload_n dX8_endOfToken_74 (List.Mem.tail _ (List.Mem.tail _ (List.Mem.head _))) ?_
    exact am_ret (r := some (.inl x3)) dX8_endOfToken_75 (Or.inl rfl) rfl h
  · replace h := h.2 c1
    refine am_iinc (ls' := [(3, .inl (am_w (x3 + 1))), (0, .inr (.inr (some (2, 0)))), (2, .inl x2)]) dX8_endOfToken_33 (List.Mem.tail _ (List.Mem.tail _ (List.Mem.head _))) (by decide) rfl ?_
    refine am_goto (tgt := 16) dX8_endOfToken_36 (by decide) ?_
    exact am_sub [1, 2, 0] rfl h
theorem bX8_endOfToken_65 {SC : Nat → Nat} {X : mh_X} {d : Nat} {Q : Option am_V → am_W → Prop} {bc bs : Nat} {w : am_W} {x2 : Int} {x3 : Int} {xs0 : Int}
    (h : ((xs0 = 0 → Q (some (.inl x3)) w) ∧ (¬ xs0 = 0 → am_A (mh_G X) SC (d + 1) mX8_endOfToken Q 51 [(0, .inr (.inr (some (2, 0)))), (2, .inl x2), (3, .inl (am_w (x3 + 1)))] [] w bc bs))) :
    am_A (mh_G X) SC (d + 1) mX8_endOfToken Q 65 [(0, .inr (.inr (some (2, 0)))), (2, .inl x2), (3, .inl x3)] [.inl xs0] w bc bs := by
  refine am_ifeq (tgt := 74) dX8_endOfToken_65 (by decide) (fun c1 => ?_) (fun c1 => ?_)
  · replace h := h.1 c1
    refine am_iload_n dX8_endOfToken_74 (List.Mem.tail _ (List.Mem.tail _ (List.Mem.head _))) ?_
    exact am_ret (r := some (.inl x3)) dX8_endOfToken_75 (Or.inl rfl) rfl h
  · replace h := h.2 c1
    refine am_iinc (ls' := [(3, .inl (am_w (x3 + 1))), (0, .inr (.inr (some (2, 0)))), (2, .inl x2)]) dX8_endOfToken_68 (List.Mem.tail _ (List.Mem.tail _ (List.Mem.head _))) (by decide) rfl ?_
    refine am_goto (tgt := 51) dX8_endOfToken_71 (by decide) ?_
    exact am_sub [1, 2, 0] rfl h
-- MourningHouse$Reader.kindOf(II)I
theorem dX8_kindOf_0 : decode mX8_kindOf.2.1 0 = .ok (.aload_n 0, 1) := by decide +kernel
theorem dX8_kindOf_1 : decode mX8_kindOf.2.1 1 = .ok (.getfield 9, 3) := by decide +kernel
theorem dX8_kindOf_4 : decode mX8_kindOf.2.1 4 = .ok (.iload_n 1, 1) := by decide +kernel
theorem dX8_kindOf_5 : decode mX8_kindOf.2.1 5 = .ok (.caload, 1) := by decide +kernel
theorem dX8_kindOf_6 : decode mX8_kindOf.2.1 6 = .ok (.istore_n 3, 1) := by decide +kernel
theorem dX8_kindOf_7 : decode mX8_kindOf.2.1 7 = .ok (.iload_n 3, 1) := by decide +kernel
theorem dX8_kindOf_8 : decode mX8_kindOf.2.1 8 = .ok (.invokestatic 100, 3) := by decide +kernel
theorem dX8_kindOf_11 : decode mX8_kindOf.2.1 11 = .ok (.ifCond .eq 13, 3) := by decide +kernel
theorem dX8_kindOf_14 : decode mX8_kindOf.2.1 14 = .ok (.aload_n 0, 1) := by decide +kernel
theorem dX8_kindOf_15 : decode mX8_kindOf.2.1 15 = .ok (.getfield 9, 3) := by decide +kernel
theorem dX8_kindOf_18 : decode mX8_kindOf.2.1 18 = .ok (.iload_n 1, 1) := by decide +kernel
theorem dX8_kindOf_19 : decode mX8_kindOf.2.1 19 = .ok (.iload_n 2, 1) := by decide +kernel
theorem dX8_kindOf_20 : decode mX8_kindOf.2.1 20 = .ok (.invokestatic 107, 3) := by decide +kernel
theorem dX8_kindOf_23 : decode mX8_kindOf.2.1 23 = .ok (.ireturn, 1) := by decide +kernel
theorem dX8_kindOf_24 : decode mX8_kindOf.2.1 24 = .ok (.iload_n 3, 1) := by decide +kernel
theorem dX8_kindOf_25 : decode mX8_kindOf.2.1 25 = .ok (.invokestatic 104, 3) := by decide +kernel
theorem dX8_kindOf_28 : decode mX8_kindOf.2.1 28 = .ok (.ifCond .eq 8, 3) := by decide +kernel
theorem dX8_kindOf_31 : decode mX8_kindOf.2.1 31 = .ok (.bipush 41, 2) := by decide +kernel
theorem dX8_kindOf_33 : decode mX8_kindOf.2.1 33 = .ok (.goto 7, 3) := by decide +kernel
theorem dX8_kindOf_36 : decode mX8_kindOf.2.1 36 = .ok (.iload_n 3, 1) := by decide +kernel
theorem dX8_kindOf_37 : decode mX8_kindOf.2.1 37 = .ok (.invokestatic 111, 3) := by decide +kernel
theorem dX8_kindOf_40 : decode mX8_kindOf.2.1 40 = .ok (.ireturn, 1) := by decide +kernel
theorem bX8_kindOf_0 {SC : Nat → Nat} {X : mh_X} {d : Nat} {Q : Option am_V → am_W → Prop} {bc bs : Nat} {w : am_W} {x1 : Int} {x2 : Int}
    (h : (0 ≤ x1 ∧ (x1 < 3000 ∧ am_M (mh_G X) SC d 0 0 mX8_isLetter [.inl (w.1 24 0 x1.toNat)] w (fun r w1 => am_A (mh_G X) SC (d + 1) mX8_kindOf Q 11 [(3, .inl (w.1 24 0 x1.toNat)), (0, .inr (.inr (some (2, 0)))), (1, .inl x1), (2, .inl x2)] (r.toList ++ []) w1 bc bs)))) :
    am_A (mh_G X) SC (d + 1) mX8_kindOf Q 0 [(0, .inr (.inr (some (2, 0)))), (1, .inl x1), (2, .inl x2)] [] w bc bs := by
  refine am_aload_n dX8_kindOf_0 (List.Mem.head _) ?_
  refine am_getf (f := 0) (v := .inr (.inr (some (24, 0)))) dX8_kindOf_1 hc_1 (by decide) wd_150 (by decide) rfl rfl ?_
  refine am_iload_n dX8_kindOf_4 (List.Mem.tail _ (List.Mem.head _)) ?_
  have o1 := h.1
  replace h := h.2
  have o2 := h.1
  replace h := h.2
  refine am_caload (v := (w.1 24 0 x1.toNat)) dX8_kindOf_5 (by decide) rfl o1 o2 rfl ?_
  refine am_istore_n (ls' := [(3, .inl (w.1 24 0 x1.toNat)), (0, .inr (.inr (some (2, 0)))), (1, .inl x1), (2, .inl x2)]) dX8_kindOf_6 (by decide) rfl ?_
  refine am_iload_n dX8_kindOf_7 (List.Mem.head _) ?_
  exact am_calls (d' := d) (kc := 0) (ks := 0) (as := [.inl (w.1 24 0 x1.toNat)]) dX8_kindOf_8 wc_X8_isLetter wd_653 wd_654 wd_113 ds_X8_isLetter (by decide) (Nat.le_refl _) (Nat.le_of_ble_eq_true rfl) (Nat.zero_le _) (Nat.zero_le _) rfl h
theorem bX8_kindOf_11 {SC : Nat → Nat} {X : mh_X} {d : Nat} {Q : Option am_V → am_W → Prop} {bc bs : Nat} {w : am_W} {x3 : Int} {x1 : Int} {x2 : Int} {xs0 : Int}
    (h : ((xs0 = 0 → am_M (mh_G X) SC d 0 0 mX8_isDigit [.inl x3] w (fun r w1 => am_A (mh_G X) SC (d + 1) mX8_kindOf Q 28 [(3, .inl x3), (0, .inr (.inr (some (2, 0)))), (1, .inl x1), (2, .inl x2)] (r.toList ++ []) w1 bc bs)) ∧ (¬ xs0 = 0 → am_M (mh_G X) SC d 0 0 mX10_codeOf [.inr (.inr (some (24, 0))), .inl x1, .inl x2] w (fun r w1 => am_A (mh_G X) SC (d + 1) mX8_kindOf Q 23 [(3, .inl x3), (0, .inr (.inr (some (2, 0)))), (1, .inl x1), (2, .inl x2)] (r.toList ++ []) w1 bc bs)))) :
    am_A (mh_G X) SC (d + 1) mX8_kindOf Q 11 [(3, .inl x3), (0, .inr (.inr (some (2, 0)))), (1, .inl x1), (2, .inl x2)] [.inl xs0] w bc bs := by
  refine am_ifeq (tgt := 24) dX8_kindOf_11 (by decide) (fun c1 => ?_) (fun c1 => ?_)
  · replace h := h.1 c1
    refine am_iload_n dX8_kindOf_24 (List.Mem.head _) ?_
    exact am_calls (d' := d) (kc := 0) (ks := 0) (as := [.inl x3]) dX8_kindOf_25 wc_X8_isDigit wd_656 wd_657 wd_113 ds_X8_isDigit (by decide) (Nat.le_refl _) (Nat.le_of_ble_eq_true rfl) (Nat.zero_le _) (Nat.zero_le _) rfl h
  · replace h := h.2 c1
    refine am_aload_n dX8_kindOf_14 (List.Mem.tail _ (List.Mem.head _)) ?_
    refine am_getf (f := 0) (v := .inr (.inr (some (24, 0)))) dX8_kindOf_15 hc_1 (by decide) wd_150 (by decide) rfl rfl ?_
    refine am_iload_n dX8_kindOf_18 (List.Mem.tail _ (List.Mem.tail _ (List.Mem.head _))) ?_
    refine am_iload_n dX8_kindOf_19 (List.Mem.tail _ (List.Mem.tail _ (List.Mem.tail _ (List.Mem.head _)))) ?_
    exact am_calls (d' := d) (kc := 0) (ks := 0) (as := [.inr (.inr (some (24, 0))), .inl x1, .inl x2]) dX8_kindOf_20 wc_X10_codeOf wd_663 wd_664 wd_123 ds_X10_codeOf (by decide) (Nat.le_refl _) (Nat.le_of_ble_eq_true rfl) (Nat.zero_le _) (Nat.zero_le _) rfl h
theorem bX8_kindOf_28 {SC : Nat → Nat} {X : mh_X} {d : Nat} {Q : Option am_V → am_W → Prop} {bc bs : Nat} {w : am_W} {x3 : Int} {x1 : Int} {x2 : Int} {xs0 : Int}
    (h : ((xs0 = 0 → am_M (mh_G X) SC d 0 0 mX10_signOf [.inl x3] w (fun r w1 => am_A (mh_G X) SC (d + 1) mX8_kindOf Q 40 [(3, .inl x3), (0, .inr (.inr (some (2, 0)))), (1, .inl x1), (2, .inl x2)] (r.toList ++ []) w1 bc bs)) ∧ (¬ xs0 = 0 → Q (some (.inl 41)) w))) :
    am_A (mh_G X) SC (d + 1) mX8_kindOf Q 28 [(3, .inl x3), (0, .inr (.inr (some (2, 0)))), (1, .inl x1), (2, .inl x2)] [.inl xs0] w bc bs := by
  refine am_ifeq (tgt := 36) dX8_kindOf_28 (by decide) (fun c1 => ?_) (fun c1 => ?_)
  · replace h := h.1 c1
    refine am_iload_n dX8_kindOf_36 (List.Mem.head _) ?_
    exact am_calls (d' := d) (kc := 0) (ks := 0) (as := [.inl x3]) dX8_kindOf_37 wc_X10_signOf wd_769 wd_770 wd_123 ds_X10_signOf (by decide) (Nat.le_refl _) (Nat.le_of_ble_eq_true rfl) (Nat.zero_le _) (Nat.zero_le _) rfl h
  · replace h := h.2 c1
    refine am_bipush dX8_kindOf_31 (by decide) (by unfold am_rg; omega) ?_
    refine am_goto (tgt := 40) dX8_kindOf_33 (by decide) ?_
    exact am_ret (r := some (.inl 41)) dX8_kindOf_40 (Or.inl rfl) rfl h
theorem bX8_kindOf_23 {SC : Nat → Nat} {X : mh_X} {d : Nat} {Q : Option am_V → am_W → Prop} {bc bs : Nat} {w : am_W} {x3 : Int} {x1 : Int} {x2 : Int} {xs0 : Int}
    (h : Q (some (.inl xs0)) w) :
    am_A (mh_G X) SC (d + 1) mX8_kindOf Q 23 [(3, .inl x3), (0, .inr (.inr (some (2, 0)))), (1, .inl x1), (2, .inl x2)] [.inl xs0] w bc bs := by
  exact am_ret (r := some (.inl xs0)) dX8_kindOf_23 (Or.inl rfl) rfl h
theorem bX8_kindOf_40 {SC : Nat → Nat} {X : mh_X} {d : Nat} {Q : Option am_V → am_W → Prop} {bc bs : Nat} {w : am_W} {x3 : Int} {x1 : Int} {x2 : Int} {xs0 : Int}
    (h : Q (some (.inl xs0)) w) :
    am_A (mh_G X) SC (d + 1) mX8_kindOf Q 40 [(3, .inl x3), (0, .inr (.inr (some (2, 0)))), (1, .inl x1), (2, .inl x2)] [.inl xs0] w bc bs := by
  exact am_ret (r := some (.inl xs0)) dX8_kindOf_40 (Or.inl rfl) rfl h
-- MourningHouse$Reader.keepToken(III)V
theorem dX8_keepToken_0 : decode mX8_keepToken.2.1 0 = .ok (.aload_n 0, 1) := by decide +kernel
theorem dX8_keepToken_1 : decode mX8_keepToken.2.1 1 = .ok (.getfield 36, 3) := by decide +kernel
theorem dX8_keepToken_4 : decode mX8_keepToken.2.1 4 = .ok (.bipush 64, 2) := by decide +kernel
theorem dX8_keepToken_6 : decode mX8_keepToken.2.1 6 = .ok (.if_icmp .ge 38, 3) := by decide +kernel
theorem dX8_keepToken_9 : decode mX8_keepToken.2.1 9 = .ok (.aload_n 0, 1) := by decide +kernel
theorem dX8_keepToken_10 : decode mX8_keepToken.2.1 10 = .ok (.getfield 13, 3) := by decide +kernel
theorem dX8_keepToken_13 : decode mX8_keepToken.2.1 13 = .ok (.aload_n 0, 1) := by decide +kernel
theorem dX8_keepToken_14 : decode mX8_keepToken.2.1 14 = .ok (.getfield 36, 3) := by decide +kernel
theorem dX8_keepToken_17 : decode mX8_keepToken.2.1 17 = .ok (.iload_n 1, 1) := by decide +kernel
theorem dX8_keepToken_18 : decode mX8_keepToken.2.1 18 = .ok (.iastore, 1) := by decide +kernel
theorem dX8_keepToken_19 : decode mX8_keepToken.2.1 19 = .ok (.aload_n 0, 1) := by decide +kernel
theorem dX8_keepToken_20 : decode mX8_keepToken.2.1 20 = .ok (.getfield 17, 3) := by decide +kernel
theorem dX8_keepToken_23 : decode mX8_keepToken.2.1 23 = .ok (.aload_n 0, 1) := by decide +kernel
theorem dX8_keepToken_24 : decode mX8_keepToken.2.1 24 = .ok (.getfield 36, 3) := by decide +kernel
theorem dX8_keepToken_27 : decode mX8_keepToken.2.1 27 = .ok (.iload_n 1, 1) := by decide +kernel
theorem dX8_keepToken_28 : decode mX8_keepToken.2.1 28 = .ok (.bipush 41, 2) := by decide +kernel
theorem dX8_keepToken_30 : decode mX8_keepToken.2.1 30 = .ok (.if_icmp .ne 12, 3) := by decide +kernel
theorem dX8_keepToken_33 : decode mX8_keepToken.2.1 33 = .ok (.aload_n 0, 1) := by decide +kernel
theorem dX8_keepToken_34 : decode mX8_keepToken.2.1 34 = .ok (.iload_n 2, 1) := by decide +kernel
theorem dX8_keepToken_35 : decode mX8_keepToken.2.1 35 = .ok (.iload_n 3, 1) := by decide +kernel
theorem dX8_keepToken_36 : decode mX8_keepToken.2.1 36 = .ok (.invokevirtual 115, 3) := by decide +kernel
theorem dX8_keepToken_39 : decode mX8_keepToken.2.1 39 = .ok (.goto 4, 3) := by decide +kernel
theorem dX8_keepToken_42 : decode mX8_keepToken.2.1 42 = .ok (.iconst 0, 1) := by decide +kernel
theorem dX8_keepToken_43 : decode mX8_keepToken.2.1 43 = .ok (.iastore, 1) := by decide +kernel
theorem dX8_keepToken_44 : decode mX8_keepToken.2.1 44 = .ok (.aload_n 0, 1) := by decide +kernel
theorem dX8_keepToken_45 : decode mX8_keepToken.2.1 45 = .ok (.dup, 1) := by decide +kernel
theorem dX8_keepToken_46 : decode mX8_keepToken.2.1 46 = .ok (.getfield 36, 3) := by decide +kernel
theorem dX8_keepToken_49 : decode mX8_keepToken.2.1 49 = .ok (.iconst 1, 1) := by decide +kernel
theorem dX8_keepToken_50 : decode mX8_keepToken.2.1 50 = .ok (.iadd, 1) := by decide +kernel
theorem dX8_keepToken_51 : decode mX8_keepToken.2.1 51 = .ok (.putfield 36, 3) := by decide +kernel
theorem dX8_keepToken_54 : decode mX8_keepToken.2.1 54 = .ok (.return_, 1) := by decide +kernel
theorem bX8_keepToken_0 {SC : Nat → Nat} {X : mh_X} {d : Nat} {Q : Option am_V → am_W → Prop} {bc bs : Nat} {w : am_W} {x1 : Int} {x2 : Int} {x3 : Int}
    (h : ((64 ≤ (w.1 2 0 8) → Q none ((am_up w.1 2 0 8 (am_w ((w.1 2 0 8) + 1))), w.2)) ∧ (¬ 64 ≤ (w.1 2 0 8) → (0 ≤ (w.1 2 0 8) ∧ ((w.1 2 0 8) < 64 ∧ ((¬ x1 = 41 → am_A (mh_G X) SC (d + 1) mX8_keepToken Q 43 [(0, .inr (.inr (some (2, 0))))] [.inl 0, .inl (w.1 2 0 8), .inr (.inr (some (26, 0)))] ((am_up w.1 25 0 (w.1 2 0 8).toNat x1), w.2) bc bs) ∧ (x1 = 41 → am_M (mh_G X) SC d 0 0 mX8_valueOf [.inr (.inr (some (2, 0))), .inl x2, .inl x3] ((am_up w.1 25 0 (w.1 2 0 8).toNat x1), w.2) (fun r w1 => am_A (mh_G X) SC (d + 1) mX8_keepToken Q 39 [(0, .inr (.inr (some (2, 0)))), (1, .inl x1), (2, .inl x2), (3, .inl x3)] (r.toList ++ [.inl (w.1 2 0 8), .inr (.inr (some (26, 0)))]) w1 bc bs)))))))) :
    am_A (mh_G X) SC (d + 1) mX8_keepToken Q 0 [(0, .inr (.inr (some (2, 0)))), (1, .inl x1), (2, .inl x2), (3, .inl x3)] [] w bc bs := by
  refine am_aload_n dX8_keepToken_0 (List.Mem.head _) ?_
  refine am_getf (f := 8) (v := .inl (w.1 2 0 8)) dX8_keepToken_1 hc_1 (by decide) wd_162 (by decide) rfl rfl ?_
  refine am_bipush dX8_keepToken_4 (by decide) (by unfold am_rg; omega) ?_
  refine am_icmpge (tgt := 44) dX8_keepToken_6 (by decide) (fun c1 => ?_) (fun c1 => ?_)
  · replace h := h.1 c1
    refine am_aload_n dX8_keepToken_44 (List.Mem.head _) ?_
    refine am_dup dX8_keepToken_45 rfl ?_
    refine am_getf (f := 8) (v := .inl (w.1 2 0 8)) dX8_keepToken_46 hc_1 (by decide) wd_162 (by decide) rfl rfl ?_
    refine am_iconst dX8_keepToken_49 (by unfold am_rg; omega) ?_
    refine am_iadd dX8_keepToken_50 ?_
    refine am_putf (f := 8) dX8_keepToken_51 hc_1 (by decide) wd_162 rfl (Or.inl rfl) (Or.inl (by decide)) rfl ?_
    exact am_ret (r := none) dX8_keepToken_54 rfl rfl h
  · replace h := h.2 c1
    refine am_aload_n dX8_keepToken_9 (List.Mem.head _) ?_
    refine am_getf (f := 1) (v := .inr (.inr (some (25, 0)))) dX8_keepToken_10 hc_1 (by decide) wd_151 (by decide) rfl rfl ?_
    refine am_aload_n dX8_keepToken_13 (List.Mem.head _) ?_
    refine am_getf (f := 8) (v := .inl (w.1 2 0 8)) dX8_keepToken_14 hc_1 (by decide) wd_162 (by decide) rfl rfl ?_
    refine am_iload_n dX8_keepToken_17 (List.Mem.tail _ (List.Mem.head _)) ?_
    have o2 := h.1
    replace h := h.2
    have o3 := h.1
    replace h := h.2
    refine am_iastore dX8_keepToken_18 (Or.inl (by decide)) rfl o2 o3 ?_
    refine am_aload_n dX8_keepToken_19 (List.Mem.head _) ?_
    refine am_getf (f := 2) (v := .inr (.inr (some (26, 0)))) dX8_keepToken_20 hc_1 (by decide) wd_152 (by decide) rfl rfl ?_
    refine am_aload_n dX8_keepToken_23 (List.Mem.head _) ?_
    refine am_getf (f := 8) (v := .inl (w.1 2 0 8)) dX8_keepToken_24 hc_1 (by decide) wd_162 (by decide) rfl rfl ?_
    refine am_iload_n dX8_keepToken_27 (List.Mem.tail _ (List.Mem.head _)) ?_
    refine am_bipush dX8_keepToken_28 (by decide) (by unfold am_rg; omega) ?_
    refine am_icmpne (tgt := 42) dX8_keepToken_30 (by decide) (fun c4 => ?_) (fun c4 => ?_)
    · replace h := h.1 c4
      refine am_iconst dX8_keepToken_42 (by unfold am_rg; omega) ?_
      exact am_sub [0] rfl h
    · replace h := h.2 c4
      refine am_aload_n dX8_keepToken_33 (List.Mem.head _) ?_
      refine am_iload_n dX8_keepToken_34 (List.Mem.tail _ (List.Mem.tail _ (List.Mem.head _))) ?_
      refine am_iload_n dX8_keepToken_35 (List.Mem.tail _ (List.Mem.tail _ (List.Mem.tail _ (List.Mem.head _)))) ?_
      exact am_callv (d' := d) (kc := 0) (ks := 0) (as := [.inl x2, .inl x3]) dX8_keepToken_36 wc_X8_valueOf wd_776 wd_778 wd_5 wd_113 ds_X8_valueOf (by decide) (Nat.le_refl _) (Nat.le_of_ble_eq_true rfl) (Nat.zero_le _) (Nat.zero_le _) hc_1 (by decide) rfl rfl h
theorem bX8_keepToken_43 {SC : Nat → Nat} {X : mh_X} {d : Nat} {Q : Option am_V → am_W → Prop} {bc bs : Nat} {w : am_W} {xs0 : Int} {xs1 : Int}
    (h : (0 ≤ xs1 ∧ (xs1 < 64 ∧ Q none ((am_up (am_up w.1 26 0 xs1.toNat xs0) 2 0 8 (am_w ((w.1 2 0 8) + 1))), w.2)))) :
    am_A (mh_G X) SC (d + 1) mX8_keepToken Q 43 [(0, .inr (.inr (some (2, 0))))] [.inl xs0, .inl xs1, .inr (.inr (some (26, 0)))] w bc bs := by
  have o1 := h.1
  replace h := h.2
  have o2 := h.1
  replace h := h.2
  refine am_iastore dX8_keepToken_43 (Or.inl (by decide)) rfl o1 o2 ?_
  refine am_aload_n dX8_keepToken_44 (List.Mem.head _) ?_
  refine am_dup dX8_keepToken_45 rfl ?_
  refine am_getf (f := 8) (v := .inl (w.1 2 0 8)) dX8_keepToken_46 hc_1 (by decide) wd_162 (by decide) rfl rfl ?_
  refine am_iconst dX8_keepToken_49 (by unfold am_rg; omega) ?_
  refine am_iadd dX8_keepToken_50 ?_
  refine am_putf (f := 8) dX8_keepToken_51 hc_1 (by decide) wd_162 rfl (Or.inl rfl) (Or.inl (by decide)) rfl ?_
  exact am_ret (r := none) dX8_keepToken_54 rfl rfl h
theorem bX8_keepToken_39 {SC : Nat → Nat} {X : mh_X} {d : Nat} {Q : Option am_V → am_W → Prop} {bc bs : Nat} {w : am_W} {x1 : Int} {x2 : Int} {x3 : Int} {xs0 : Int} {xs1 : Int}
    (h : am_A (mh_G X) SC (d + 1) mX8_keepToken Q 43 [(0, .inr (.inr (some (2, 0))))] [.inl xs0, .inl xs1, .inr (.inr (some (26, 0)))] w bc bs) :
    am_A (mh_G X) SC (d + 1) mX8_keepToken Q 39 [(0, .inr (.inr (some (2, 0)))), (1, .inl x1), (2, .inl x2), (3, .inl x3)] [.inl xs0, .inl xs1, .inr (.inr (some (26, 0)))] w bc bs := by
  refine am_goto (tgt := 43) dX8_keepToken_39 (by decide) ?_
  exact am_sub [0] rfl h
-- MourningHouse$Reader.valueOf(II)I
theorem dX8_valueOf_0 : decode mX8_valueOf.2.1 0 = .ok (.iconst 0, 1) := by decide +kernel
theorem dX8_valueOf_1 : decode mX8_valueOf.2.1 1 = .ok (.istore_n 3, 1) := by decide +kernel
theorem dX8_valueOf_2 : decode mX8_valueOf.2.1 2 = .ok (.iload_n 1, 1) := by decide +kernel
theorem dX8_valueOf_3 : decode mX8_valueOf.2.1 3 = .ok (.istore 4, 2) := by decide +kernel
theorem dX8_valueOf_5 : decode mX8_valueOf.2.1 5 = .ok (.iload 4, 2) := by decide +kernel
theorem dX8_valueOf_7 : decode mX8_valueOf.2.1 7 = .ok (.iload_n 2, 1) := by decide +kernel
theorem dX8_valueOf_8 : decode mX8_valueOf.2.1 8 = .ok (.if_icmp .ge 30, 3) := by decide +kernel
theorem dX8_valueOf_11 : decode mX8_valueOf.2.1 11 = .ok (.iload_n 3, 1) := by decide +kernel
theorem dX8_valueOf_12 : decode mX8_valueOf.2.1 12 = .ok (.bipush 10, 2) := by decide +kernel
theorem dX8_valueOf_14 : decode mX8_valueOf.2.1 14 = .ok (.imul, 1) := by decide +kernel
theorem dX8_valueOf_15 : decode mX8_valueOf.2.1 15 = .ok (.aload_n 0, 1) := by decide +kernel
theorem dX8_valueOf_16 : decode mX8_valueOf.2.1 16 = .ok (.getfield 9, 3) := by decide +kernel
theorem dX8_valueOf_19 : decode mX8_valueOf.2.1 19 = .ok (.iload 4, 2) := by decide +kernel
theorem dX8_valueOf_21 : decode mX8_valueOf.2.1 21 = .ok (.caload, 1) := by decide +kernel
theorem dX8_valueOf_22 : decode mX8_valueOf.2.1 22 = .ok (.iadd, 1) := by decide +kernel
theorem dX8_valueOf_23 : decode mX8_valueOf.2.1 23 = .ok (.bipush 48, 2) := by decide +kernel
theorem dX8_valueOf_25 : decode mX8_valueOf.2.1 25 = .ok (.isub, 1) := by decide +kernel
theorem dX8_valueOf_26 : decode mX8_valueOf.2.1 26 = .ok (.ldc 118, 2) := by decide +kernel
theorem dX8_valueOf_28 : decode mX8_valueOf.2.1 28 = .ok (.invokestatic 119, 3) := by decide +kernel
theorem dX8_valueOf_31 : decode mX8_valueOf.2.1 31 = .ok (.istore_n 3, 1) := by decide +kernel
theorem dX8_valueOf_32 : decode mX8_valueOf.2.1 32 = .ok (.iinc 4 1, 3) := by decide +kernel
theorem dX8_valueOf_35 : decode mX8_valueOf.2.1 35 = .ok (.goto (-30), 3) := by decide +kernel
theorem dX8_valueOf_38 : decode mX8_valueOf.2.1 38 = .ok (.iload_n 3, 1) := by decide +kernel
theorem dX8_valueOf_39 : decode mX8_valueOf.2.1 39 = .ok (.ireturn, 1) := by decide +kernel
theorem bX8_valueOf_0 {SC : Nat → Nat} {X : mh_X} {d : Nat} {Q : Option am_V → am_W → Prop} {bc bs : Nat} {w : am_W} {x1 : Int} {x2 : Int}
    (h : am_A (mh_G X) SC (d + 1) mX8_valueOf Q 5 [(0, .inr (.inr (some (2, 0)))), (2, .inl x2), (3, .inl 0), (4, .inl x1)] [] w bc bs) :
    am_A (mh_G X) SC (d + 1) mX8_valueOf Q 0 [(0, .inr (.inr (some (2, 0)))), (1, .inl x1), (2, .inl x2)] [] w bc bs := by
  refine am_iconst dX8_valueOf_0 (by unfold am_rg; omega) ?_
  refine am_istore_n (ls' := [(3, .inl 0), (0, .inr (.inr (some (2, 0)))), (1, .inl x1), (2, .inl x2)]) dX8_valueOf_1 (by decide) rfl ?_
  refine am_iload_n dX8_valueOf_2 (List.Mem.tail _ (List.Mem.tail _ (List.Mem.head _))) ?_
  refine am_istore (ls' := [(4, .inl x1), (3, .inl 0), (0, .inr (.inr (some (2, 0)))), (1, .inl x1), (2, .inl x2)]) dX8_valueOf_3 (by decide) rfl ?_
  exact am_sub [2, 4, 1, 0] rfl h
theorem bX8_valueOf_5 {SC : Nat → Nat} {X : mh_X} {d : Nat} {Q : Option am_V → am_W → Prop} {bc bs : Nat} {w : am_W} {x2 : Int} {x3 : Int} {x4 : Int}
    (h : ((x2 ≤ x4 → Q (some (.inl x3)) w) ∧ (¬ x2 ≤ x4 → (0 ≤ x4 ∧ (x4 < 3000 ∧ am_M (mh_G X) SC d 0 0 mJ9_min_7cf53 [.inl (am_w ((am_w ((am_w (x3 * 10)) + (w.1 24 0 x4.toNat))) - 48)), .inl 100000] w (fun r w1 => am_A (mh_G X) SC (d + 1) mX8_valueOf Q 31 [(0, .inr (.inr (some (2, 0)))), (2, .inl x2), (3, .inl x3), (4, .inl x4)] (r.toList ++ []) w1 bc bs)))))) :
    am_A (mh_G X) SC (d + 1) mX8_valueOf Q 5 [(0, .inr (.inr (some (2, 0)))), (2, .inl x2), (3, .inl x3), (4, .inl x4)] [] w bc bs := by
  refine am_iload dX8_valueOf_5 (List.Mem.tail _ (List.Mem.tail _ (List.Mem.tail _ (List.Mem.head _)))) ?_
  refine am_iload_n dX8_valueOf_7 (List.Mem.tail _ (List.Mem.head _)) ?_
  refine am_icmpge (tgt := 38) dX8_valueOf_8 (by decide) (fun c1 => ?_) (fun c1 => ?_)
  · replace h := h.1 c1
    refine am_iload_n dX8_valueOf_38 (List.Mem.tail _ (List.Mem.tail _ (List.Mem.head _))) ?_
    exact am_ret (r := some (.inl x3)) dX8_valueOf_39 (Or.inl rfl) rfl h
  · replace h := h.2 c1
    refine am_iload_n dX8_valueOf_11 (List.Mem.tail _ (List.Mem.tail _ (List.Mem.head _))) ?_
    refine am_bipush dX8_valueOf_12 (by decide) (by unfold am_rg; omega) ?_
    refine am_imul dX8_valueOf_14 ?_
    refine am_aload_n dX8_valueOf_15 (List.Mem.head _) ?_
    refine am_getf (f := 0) (v := .inr (.inr (some (24, 0)))) dX8_valueOf_16 hc_1 (by decide) wd_150 (by decide) rfl rfl ?_
    refine am_iload dX8_valueOf_19 (List.Mem.tail _ (List.Mem.tail _ (List.Mem.tail _ (List.Mem.head _)))) ?_
    have o2 := h.1
    replace h := h.2
    have o3 := h.1
    replace h := h.2
    refine am_caload (v := (w.1 24 0 x4.toNat)) dX8_valueOf_21 (by decide) rfl o2 o3 rfl ?_
    refine am_iadd dX8_valueOf_22 ?_
    refine am_bipush dX8_valueOf_23 (by decide) (by unfold am_rg; omega) ?_
    refine am_isub dX8_valueOf_25 ?_
    refine am_ldcV (n := 100000) dX8_valueOf_26 (by decide) wd_780 (by unfold am_rg; omega) ?_
    exact am_calls (d' := d) (kc := 0) (ks := 0) (as := [.inl (am_w ((am_w ((am_w (x3 * 10)) + (w.1 24 0 x4.toNat))) - 48)), .inl 100000]) dX8_valueOf_28 wc_J9_min_7cf53 wd_781 wd_782 wd_128 ds_J9_min_7cf53 (by decide) (Nat.le_refl _) (Nat.le_of_ble_eq_true rfl) (Nat.zero_le _) (Nat.zero_le _) rfl h
theorem bX8_valueOf_31 {SC : Nat → Nat} {X : mh_X} {d : Nat} {Q : Option am_V → am_W → Prop} {bc bs : Nat} {w : am_W} {x2 : Int} {x3 : Int} {x4 : Int} {xs0 : Int}
    (h : am_A (mh_G X) SC (d + 1) mX8_valueOf Q 5 [(0, .inr (.inr (some (2, 0)))), (2, .inl x2), (3, .inl xs0), (4, .inl (am_w (x4 + 1)))] [] w bc bs) :
    am_A (mh_G X) SC (d + 1) mX8_valueOf Q 31 [(0, .inr (.inr (some (2, 0)))), (2, .inl x2), (3, .inl x3), (4, .inl x4)] [.inl xs0] w bc bs := by
  refine am_istore_n (ls' := [(3, .inl xs0), (0, .inr (.inr (some (2, 0)))), (2, .inl x2), (4, .inl x4)]) dX8_valueOf_31 (by decide) rfl ?_
  refine am_iinc (ls' := [(4, .inl (am_w (x4 + 1))), (3, .inl xs0), (0, .inr (.inr (some (2, 0)))), (2, .inl x2)]) dX8_valueOf_32 (List.Mem.tail _ (List.Mem.tail _ (List.Mem.tail _ (List.Mem.head _)))) (by decide) rfl ?_
  refine am_goto (tgt := 5) dX8_valueOf_35 (by decide) ?_
  exact am_sub [2, 3, 1, 0] rfl h
-- MourningHouse$Reader.isLetter(C)Z
theorem dX8_isLetter_0 : decode mX8_isLetter.2.1 0 = .ok (.iload_n 0, 1) := by decide +kernel
theorem dX8_isLetter_1 : decode mX8_isLetter.2.1 1 = .ok (.bipush 97, 2) := by decide +kernel
theorem dX8_isLetter_3 : decode mX8_isLetter.2.1 3 = .ok (.if_icmp .lt 13, 3) := by decide +kernel
theorem dX8_isLetter_6 : decode mX8_isLetter.2.1 6 = .ok (.iload_n 0, 1) := by decide +kernel
theorem dX8_isLetter_7 : decode mX8_isLetter.2.1 7 = .ok (.bipush 122, 2) := by decide +kernel
theorem dX8_isLetter_9 : decode mX8_isLetter.2.1 9 = .ok (.if_icmp .gt 7, 3) := by decide +kernel
theorem dX8_isLetter_12 : decode mX8_isLetter.2.1 12 = .ok (.iconst 1, 1) := by decide +kernel
theorem dX8_isLetter_13 : decode mX8_isLetter.2.1 13 = .ok (.goto 4, 3) := by decide +kernel
theorem dX8_isLetter_16 : decode mX8_isLetter.2.1 16 = .ok (.iconst 0, 1) := by decide +kernel
theorem dX8_isLetter_17 : decode mX8_isLetter.2.1 17 = .ok (.ireturn, 1) := by decide +kernel
theorem bX8_isLetter_0 {SC : Nat → Nat} {X : mh_X} {d : Nat} {Q : Option am_V → am_W → Prop} {bc bs : Nat} {w : am_W} {x0 : Int}
    (h : ((x0 < 97 → Q (some (.inl 0)) w) ∧ (¬ x0 < 97 → ((122 < x0 → Q (some (.inl 0)) w) ∧ (¬ 122 < x0 → Q (some (.inl 1)) w))))) :
    am_A (mh_G X) SC (d + 1) mX8_isLetter Q 0 [(0, .inl x0)] [] w bc bs := by
  refine am_iload_n dX8_isLetter_0 (List.Mem.head _) ?_
  refine am_bipush dX8_isLetter_1 (by decide) (by unfold am_rg; omega) ?_
  refine am_icmplt (tgt := 16) dX8_isLetter_3 (by decide) (fun c1 => ?_) (fun c1 => ?_)
  · replace h := h.1 c1
    refine am_iconst dX8_isLetter_16 (by unfold am_rg; omega) ?_
    exact am_ret (r := some (.inl 0)) dX8_isLetter_17 (Or.inr (Or.inl ⟨rfl, (Or.inl rfl)⟩)) rfl h
  · replace h := h.2 c1
    refine am_iload_n dX8_isLetter_6 (List.Mem.head _) ?_
    refine am_bipush dX8_isLetter_7 (by decide) (by unfold am_rg; omega) ?_
    refine am_icmpgt (tgt := 16) dX8_isLetter_9 (by decide) (fun c2 => ?_) (fun c2 => ?_)
    · replace h := h.1 c2
      refine am_iconst dX8_isLetter_16 (by unfold am_rg; omega) ?_
      exact am_ret (r := some (.inl 0)) dX8_isLetter_17 (Or.inr (Or.inl ⟨rfl, (Or.inl rfl)⟩)) rfl h
    · replace h := h.2 c2
      refine am_iconst dX8_isLetter_12 (by unfold am_rg; omega) ?_
      refine am_goto (tgt := 17) dX8_isLetter_13 (by decide) ?_
      exact am_ret (r := some (.inl 1)) dX8_isLetter_17 (Or.inr (Or.inl ⟨rfl, (Or.inr rfl)⟩)) rfl h
-- MourningHouse$Reader.isDigit(C)Z
theorem dX8_isDigit_0 : decode mX8_isDigit.2.1 0 = .ok (.iload_n 0, 1) := by decide +kernel
theorem dX8_isDigit_1 : decode mX8_isDigit.2.1 1 = .ok (.bipush 48, 2) := by decide +kernel
theorem dX8_isDigit_3 : decode mX8_isDigit.2.1 3 = .ok (.if_icmp .lt 13, 3) := by decide +kernel
theorem dX8_isDigit_6 : decode mX8_isDigit.2.1 6 = .ok (.iload_n 0, 1) := by decide +kernel
theorem dX8_isDigit_7 : decode mX8_isDigit.2.1 7 = .ok (.bipush 57, 2) := by decide +kernel
theorem dX8_isDigit_9 : decode mX8_isDigit.2.1 9 = .ok (.if_icmp .gt 7, 3) := by decide +kernel
theorem dX8_isDigit_12 : decode mX8_isDigit.2.1 12 = .ok (.iconst 1, 1) := by decide +kernel
theorem dX8_isDigit_13 : decode mX8_isDigit.2.1 13 = .ok (.goto 4, 3) := by decide +kernel
theorem dX8_isDigit_16 : decode mX8_isDigit.2.1 16 = .ok (.iconst 0, 1) := by decide +kernel
theorem dX8_isDigit_17 : decode mX8_isDigit.2.1 17 = .ok (.ireturn, 1) := by decide +kernel
theorem bX8_isDigit_0 {SC : Nat → Nat} {X : mh_X} {d : Nat} {Q : Option am_V → am_W → Prop} {bc bs : Nat} {w : am_W} {x0 : Int}
    (h : ((x0 < 48 → Q (some (.inl 0)) w) ∧ (¬ x0 < 48 → ((57 < x0 → Q (some (.inl 0)) w) ∧ (¬ 57 < x0 → Q (some (.inl 1)) w))))) :
    am_A (mh_G X) SC (d + 1) mX8_isDigit Q 0 [(0, .inl x0)] [] w bc bs := by
  refine am_iload_n dX8_isDigit_0 (List.Mem.head _) ?_
  refine am_bipush dX8_isDigit_1 (by decide) (by unfold am_rg; omega) ?_
  refine am_icmplt (tgt := 16) dX8_isDigit_3 (by decide) (fun c1 => ?_) (fun c1 => ?_)
  · replace h := h.1 c1
    refine am_iconst dX8_isDigit_16 (by unfold am_rg; omega) ?_
    exact am_ret (r := some (.inl 0)) dX8_isDigit_17 (Or.inr (Or.inl ⟨rfl, (Or.inl rfl)⟩)) rfl h
  · replace h := h.2 c1
    refine am_iload_n dX8_isDigit_6 (List.Mem.head _) ?_
    refine am_bipush dX8_isDigit_7 (by decide) (by unfold am_rg; omega) ?_
    refine am_icmpgt (tgt := 16) dX8_isDigit_9 (by decide) (fun c2 => ?_) (fun c2 => ?_)
    · replace h := h.1 c2
      refine am_iconst dX8_isDigit_16 (by unfold am_rg; omega) ?_
      exact am_ret (r := some (.inl 0)) dX8_isDigit_17 (Or.inr (Or.inl ⟨rfl, (Or.inl rfl)⟩)) rfl h
    · replace h := h.2 c2
      refine am_iconst dX8_isDigit_12 (by unfold am_rg; omega) ?_
      refine am_goto (tgt := 17) dX8_isDigit_13 (by decide) ?_
      exact am_ret (r := some (.inl 1)) dX8_isDigit_17 (Or.inr (Or.inl ⟨rfl, (Or.inr rfl)⟩)) rfl h
-- MourningHouse$Reader.codeAt(I)I
theorem dX8_codeAt_0 : decode mX8_codeAt.2.1 0 = .ok (.iload_n 1, 1) := by decide +kernel
theorem dX8_codeAt_1 : decode mX8_codeAt.2.1 1 = .ok (.ifCond .lt 26, 3) := by decide +kernel
theorem dX8_codeAt_4 : decode mX8_codeAt.2.1 4 = .ok (.iload_n 1, 1) := by decide +kernel
theorem dX8_codeAt_5 : decode mX8_codeAt.2.1 5 = .ok (.aload_n 0, 1) := by decide +kernel
theorem dX8_codeAt_6 : decode mX8_codeAt.2.1 6 = .ok (.getfield 36, 3) := by decide +kernel
theorem dX8_codeAt_9 : decode mX8_codeAt.2.1 9 = .ok (.if_icmp .ge 18, 3) := by decide +kernel
theorem dX8_codeAt_12 : decode mX8_codeAt.2.1 12 = .ok (.iload_n 1, 1) := by decide +kernel
theorem dX8_codeAt_13 : decode mX8_codeAt.2.1 13 = .ok (.bipush 64, 2) := by decide +kernel
theorem dX8_codeAt_15 : decode mX8_codeAt.2.1 15 = .ok (.if_icmp .ge 12, 3) := by decide +kernel
theorem dX8_codeAt_18 : decode mX8_codeAt.2.1 18 = .ok (.aload_n 0, 1) := by decide +kernel
theorem dX8_codeAt_19 : decode mX8_codeAt.2.1 19 = .ok (.getfield 13, 3) := by decide +kernel
theorem dX8_codeAt_22 : decode mX8_codeAt.2.1 22 = .ok (.iload_n 1, 1) := by decide +kernel
theorem dX8_codeAt_23 : decode mX8_codeAt.2.1 23 = .ok (.iaload, 1) := by decide +kernel
theorem dX8_codeAt_24 : decode mX8_codeAt.2.1 24 = .ok (.goto 5, 3) := by decide +kernel
theorem dX8_codeAt_27 : decode mX8_codeAt.2.1 27 = .ok (.bipush 46, 2) := by decide +kernel
theorem dX8_codeAt_29 : decode mX8_codeAt.2.1 29 = .ok (.ireturn, 1) := by decide +kernel
theorem bX8_codeAt_0 {SC : Nat → Nat} {X : mh_X} {d : Nat} {Q : Option am_V → am_W → Prop} {bc bs : Nat} {w : am_W} {x1 : Int}
    (h : ((x1 < 0 → Q (some (.inl 46)) w) ∧ (¬ x1 < 0 → (((w.1 2 0 8) ≤ x1 → Q (some (.inl 46)) w) ∧ (¬ (w.1 2 0 8) ≤ x1 → ((64 ≤ x1 → Q (some (.inl 46)) w) ∧ (¬ 64 ≤ x1 → (0 ≤ x1 ∧ (x1 < 64 ∧ Q (some (.inl (w.1 25 0 x1.toNat))) w))))))))) :
    am_A (mh_G X) SC (d + 1) mX8_codeAt Q 0 [(0, .inr (.inr (some (2, 0)))), (1, .inl x1)] [] w bc bs := by
  refine am_iload_n dX8_codeAt_0 (List.Mem.tail _ (List.Mem.head _)) ?_
  refine am_iflt (tgt := 27) dX8_codeAt_1 (by decide) (fun c1 => ?_) (fun c1 => ?_)
  · replace h := h.1 c1
    refine am_bipush dX8_codeAt_27 (by decide) (by unfold am_rg; omega) ?_
    exact am_ret (r := some (.inl 46)) dX8_codeAt_29 (Or.inl rfl) rfl h
  · replace h := h.2 c1
    refine am_iload_n dX8_codeAt_4 (List.Mem.tail _ (List.Mem.head _)) ?_
    refine am_aload_n dX8_codeAt_5 (List.Mem.head _) ?_
    refine am_getf (f := 8) (v := .inl (w.1 2 0 8)) dX8_codeAt_6 hc_1 (by decide) wd_162 (by decide) rfl rfl ?_
    refine am_icmpge (tgt := 27) dX8_codeAt_9 (by decide) (fun c2 => ?_) (fun c2 => ?_)
    · replace h := h.1 c2
      refine am_bipush dX8_codeAt_27 (by decide) (by unfold am_rg; omega) ?_
      exact am_ret (r := some (.inl 46)) dX8_codeAt_29 (Or.inl rfl) rfl h
    · replace h := h.2 c2
      refine am_iload_n dX8_codeAt_12 (List.Mem.tail _ (List.Mem.head _)) ?_
      refine am_bipush dX8_codeAt_13 (by decide) (by unfold am_rg; omega) ?_
      refine am_icmpge (tgt := 27) dX8_codeAt_15 (by decide) (fun c3 => ?_) (fun c3 => ?_)
      · replace h := h.1 c3
        refine am_bipush dX8_codeAt_27 (by decide) (by unfold am_rg; omega) ?_
        exact am_ret (r := some (.inl 46)) dX8_codeAt_29 (Or.inl rfl) rfl h
      · replace h := h.2 c3
        refine am_aload_n dX8_codeAt_18 (List.Mem.head _) ?_
        refine am_getf (f := 1) (v := .inr (.inr (some (25, 0)))) dX8_codeAt_19 hc_1 (by decide) wd_151 (by decide) rfl rfl ?_
        refine am_iload_n dX8_codeAt_22 (List.Mem.tail _ (List.Mem.head _)) ?_
        have o4 := h.1
        replace h := h.2
        have o5 := h.1
        replace h := h.2
        refine am_iaload (v := (w.1 25 0 x1.toNat)) dX8_codeAt_23 (by decide) rfl o4 o5 rfl ?_
        refine am_goto (tgt := 29) dX8_codeAt_24 (by decide) ?_
        exact am_ret (r := some (.inl (w.1 25 0 x1.toNat))) dX8_codeAt_29 (Or.inl rfl) rfl h
-- MourningHouse$Reader.value()I
theorem dX8_value_0 : decode mX8_value.2.1 0 = .ok (.aload_n 0, 1) := by decide +kernel
theorem dX8_value_1 : decode mX8_value.2.1 1 = .ok (.getfield 39, 3) := by decide +kernel
theorem dX8_value_4 : decode mX8_value.2.1 4 = .ok (.ifCond .lt 35, 3) := by decide +kernel
theorem dX8_value_7 : decode mX8_value.2.1 7 = .ok (.aload_n 0, 1) := by decide +kernel
theorem dX8_value_8 : decode mX8_value.2.1 8 = .ok (.getfield 39, 3) := by decide +kernel
theorem dX8_value_11 : decode mX8_value.2.1 11 = .ok (.aload_n 0, 1) := by decide +kernel
theorem dX8_value_12 : decode mX8_value.2.1 12 = .ok (.getfield 36, 3) := by decide +kernel
theorem dX8_value_15 : decode mX8_value.2.1 15 = .ok (.if_icmp .ge 24, 3) := by decide +kernel
theorem dX8_value_18 : decode mX8_value.2.1 18 = .ok (.aload_n 0, 1) := by decide +kernel
theorem dX8_value_19 : decode mX8_value.2.1 19 = .ok (.getfield 39, 3) := by decide +kernel
theorem dX8_value_22 : decode mX8_value.2.1 22 = .ok (.bipush 64, 2) := by decide +kernel
theorem dX8_value_24 : decode mX8_value.2.1 24 = .ok (.if_icmp .ge 15, 3) := by decide +kernel
theorem dX8_value_27 : decode mX8_value.2.1 27 = .ok (.aload_n 0, 1) := by decide +kernel
theorem dX8_value_28 : decode mX8_value.2.1 28 = .ok (.getfield 17, 3) := by decide +kernel
theorem dX8_value_31 : decode mX8_value.2.1 31 = .ok (.aload_n 0, 1) := by decide +kernel
theorem dX8_value_32 : decode mX8_value.2.1 32 = .ok (.getfield 39, 3) := by decide +kernel
theorem dX8_value_35 : decode mX8_value.2.1 35 = .ok (.iaload, 1) := by decide +kernel
theorem dX8_value_36 : decode mX8_value.2.1 36 = .ok (.goto 4, 3) := by decide +kernel
theorem dX8_value_39 : decode mX8_value.2.1 39 = .ok (.iconst 0, 1) := by decide +kernel
theorem dX8_value_40 : decode mX8_value.2.1 40 = .ok (.ireturn, 1) := by decide +kernel
theorem bX8_value_0 {SC : Nat → Nat} {X : mh_X} {d : Nat} {Q : Option am_V → am_W → Prop} {bc bs : Nat} {w : am_W} 
    (h : (((w.1 2 0 9) < 0 → Q (some (.inl 0)) w) ∧ (¬ (w.1 2 0 9) < 0 → (((w.1 2 0 8) ≤ (w.1 2 0 9) → Q (some (.inl 0)) w) ∧ (¬ (w.1 2 0 8) ≤ (w.1 2 0 9) → ((64 ≤ (w.1 2 0 9) → Q (some (.inl 0)) w) ∧ (¬ 64 ≤ (w.1 2 0 9) → (0 ≤ (w.1 2 0 9) ∧ ((w.1 2 0 9) < 64 ∧ Q (some (.inl (w.1 26 0 (w.1 2 0 9).toNat))) w))))))))) :
    am_A (mh_G X) SC (d + 1) mX8_value Q 0 [(0, .inr (.inr (some (2, 0))))] [] w bc bs := by
  refine am_aload_n dX8_value_0 (List.Mem.head _) ?_
  refine am_getf (f := 9) (v := .inl (w.1 2 0 9)) dX8_value_1 hc_1 (by decide) wd_163 (by decide) rfl rfl ?_
  refine am_iflt (tgt := 39) dX8_value_4 (by decide) (fun c1 => ?_) (fun c1 => ?_)
  · replace h := h.1 c1
    refine am_iconst dX8_value_39 (by unfold am_rg; omega) ?_
    exact am_ret (r := some (.inl 0)) dX8_value_40 (Or.inl rfl) rfl h
  · replace h := h.2 c1
    refine am_aload_n dX8_value_7 (List.Mem.head _) ?_
    refine am_getf (f := 9) (v := .inl (w.1 2 0 9)) dX8_value_8 hc_1 (by decide) wd_163 (by decide) rfl rfl ?_
    refine am_aload_n dX8_value_11 (List.Mem.head _) ?_
    refine am_getf (f := 8) (v := .inl (w.1 2 0 8)) dX8_value_12 hc_1 (by decide) wd_162 (by decide) rfl rfl ?_
    refine am_icmpge (tgt := 39) dX8_value_15 (by decide) (fun c2 => ?_) (fun c2 => ?_)
    · replace h := h.1 c2
      refine am_iconst dX8_value_39 (by unfold am_rg; omega) ?_
      exact am_ret (r := some (.inl 0)) dX8_value_40 (Or.inl rfl) rfl h
    · replace h := h.2 c2
      refine am_aload_n dX8_value_18 (List.Mem.head _) ?_
      refine am_getf (f := 9) (v := .inl (w.1 2 0 9)) dX8_value_19 hc_1 (by decide) wd_163 (by decide) rfl rfl ?_
      refine am_bipush dX8_value_22 (by decide) (by unfold am_rg; omega) ?_
      refine am_icmpge (tgt := 39) dX8_value_24 (by decide) (fun c3 => ?_) (fun c3 => ?_)
      · replace h := h.1 c3
        refine am_iconst dX8_value_39 (by unfold am_rg; omega) ?_
        exact am_ret (r := some (.inl 0)) dX8_value_40 (Or.inl rfl) rfl h
      · replace h := h.2 c3
        refine am_aload_n dX8_value_27 (List.Mem.head _) ?_
        refine am_getf (f := 2) (v := .inr (.inr (some (26, 0)))) dX8_value_28 hc_1 (by decide) wd_152 (by decide) rfl rfl ?_
        refine am_aload_n dX8_value_31 (List.Mem.head _) ?_
        refine am_getf (f := 9) (v := .inl (w.1 2 0 9)) dX8_value_32 hc_1 (by decide) wd_163 (by decide) rfl rfl ?_
        have o4 := h.1
        replace h := h.2
        have o5 := h.1
        replace h := h.2
        refine am_iaload (v := (w.1 26 0 (w.1 2 0 9).toNat)) dX8_value_35 (by decide) rfl o4 o5 rfl ?_
        refine am_goto (tgt := 40) dX8_value_36 (by decide) ?_
        exact am_ret (r := some (.inl (w.1 26 0 (w.1 2 0 9).toNat))) dX8_value_40 (Or.inl rfl) rfl h
-- MourningHouse$Reader.expect(I)Z
theorem dX8_expect_0 : decode mX8_expect.2.1 0 = .ok (.aload_n 0, 1) := by decide +kernel
theorem dX8_expect_1 : decode mX8_expect.2.1 1 = .ok (.aload_n 0, 1) := by decide +kernel
theorem dX8_expect_2 : decode mX8_expect.2.1 2 = .ok (.getfield 39, 3) := by decide +kernel
theorem dX8_expect_5 : decode mX8_expect.2.1 5 = .ok (.invokevirtual 59, 3) := by decide +kernel
theorem dX8_expect_8 : decode mX8_expect.2.1 8 = .ok (.iload_n 1, 1) := by decide +kernel
theorem dX8_expect_9 : decode mX8_expect.2.1 9 = .ok (.if_icmp .eq 9, 3) := by decide +kernel
theorem dX8_expect_12 : decode mX8_expect.2.1 12 = .ok (.aload_n 0, 1) := by decide +kernel
theorem dX8_expect_13 : decode mX8_expect.2.1 13 = .ok (.iconst 2, 1) := by decide +kernel
theorem dX8_expect_14 : decode mX8_expect.2.1 14 = .ok (.invokevirtual 55, 3) := by decide +kernel
theorem dX8_expect_17 : decode mX8_expect.2.1 17 = .ok (.ireturn, 1) := by decide +kernel
theorem dX8_expect_18 : decode mX8_expect.2.1 18 = .ok (.aload_n 0, 1) := by decide +kernel
theorem dX8_expect_19 : decode mX8_expect.2.1 19 = .ok (.dup, 1) := by decide +kernel
theorem dX8_expect_20 : decode mX8_expect.2.1 20 = .ok (.getfield 39, 3) := by decide +kernel
theorem dX8_expect_23 : decode mX8_expect.2.1 23 = .ok (.iconst 1, 1) := by decide +kernel
theorem dX8_expect_24 : decode mX8_expect.2.1 24 = .ok (.iadd, 1) := by decide +kernel
theorem dX8_expect_25 : decode mX8_expect.2.1 25 = .ok (.putfield 39, 3) := by decide +kernel
theorem dX8_expect_28 : decode mX8_expect.2.1 28 = .ok (.iconst 1, 1) := by decide +kernel
theorem dX8_expect_29 : decode mX8_expect.2.1 29 = .ok (.ireturn, 1) := by decide +kernel
theorem bX8_expect_0 {SC : Nat → Nat} {X : mh_X} {d : Nat} {Q : Option am_V → am_W → Prop} {bc bs : Nat} {w : am_W} {x1 : Int}
    (h : am_M (mh_G X) SC d 0 0 mX8_codeAt [.inr (.inr (some (2, 0))), .inl (w.1 2 0 9)] w (fun r w1 => am_A (mh_G X) SC (d + 1) mX8_expect Q 8 [(0, .inr (.inr (some (2, 0)))), (1, .inl x1)] (r.toList ++ []) w1 bc bs)) :
    am_A (mh_G X) SC (d + 1) mX8_expect Q 0 [(0, .inr (.inr (some (2, 0)))), (1, .inl x1)] [] w bc bs := by
  refine am_aload_n dX8_expect_0 (List.Mem.head _) ?_
  refine am_aload_n dX8_expect_1 (List.Mem.head _) ?_
  refine am_getf (f := 9) (v := .inl (w.1 2 0 9)) dX8_expect_2 hc_1 (by decide) wd_163 (by decide) rfl rfl ?_
  exact am_callv (d' := d) (kc := 0) (ks := 0) (as := [.inl (w.1 2 0 9)]) dX8_expect_5 wc_X8_codeAt wd_791 wd_793 wd_7 wd_113 ds_X8_codeAt (by decide) (Nat.le_refl _) (Nat.le_of_ble_eq_true rfl) (Nat.zero_le _) (Nat.zero_le _) hc_1 (by decide) rfl rfl h
theorem bX8_expect_8 {SC : Nat → Nat} {X : mh_X} {d : Nat} {Q : Option am_V → am_W → Prop} {bc bs : Nat} {w : am_W} {x1 : Int} {xs0 : Int}
    (h : ((xs0 = x1 → Q (some (.inl 1)) ((am_up w.1 2 0 9 (am_w ((w.1 2 0 9) + 1))), w.2)) ∧ (¬ xs0 = x1 → am_M (mh_G X) SC d 0 0 mX8_fail [.inr (.inr (some (2, 0))), .inl 2] w (fun r w1 => am_A (mh_G X) SC (d + 1) mX8_expect Q 17 [(0, .inr (.inr (some (2, 0)))), (1, .inl x1)] (r.toList ++ []) w1 bc bs)))) :
    am_A (mh_G X) SC (d + 1) mX8_expect Q 8 [(0, .inr (.inr (some (2, 0)))), (1, .inl x1)] [.inl xs0] w bc bs := by
  refine am_iload_n dX8_expect_8 (List.Mem.tail _ (List.Mem.head _)) ?_
  refine am_icmpeq (tgt := 18) dX8_expect_9 (by decide) (fun c1 => ?_) (fun c1 => ?_)
  · replace h := h.1 c1
    refine am_aload_n dX8_expect_18 (List.Mem.head _) ?_
    refine am_dup dX8_expect_19 rfl ?_
    refine am_getf (f := 9) (v := .inl (w.1 2 0 9)) dX8_expect_20 hc_1 (by decide) wd_163 (by decide) rfl rfl ?_
    refine am_iconst dX8_expect_23 (by unfold am_rg; omega) ?_
    refine am_iadd dX8_expect_24 ?_
    refine am_putf (f := 9) dX8_expect_25 hc_1 (by decide) wd_163 rfl (Or.inl rfl) (Or.inl (by decide)) rfl ?_
    refine am_iconst dX8_expect_28 (by unfold am_rg; omega) ?_
    exact am_ret (r := some (.inl 1)) dX8_expect_29 (Or.inr (Or.inl ⟨rfl, (Or.inr rfl)⟩)) rfl h
  · replace h := h.2 c1
    refine am_aload_n dX8_expect_12 (List.Mem.head _) ?_
    refine am_iconst dX8_expect_13 (by unfold am_rg; omega) ?_
    exact am_callv (d' := d) (kc := 0) (ks := 0) (as := [.inl 2]) dX8_expect_14 wc_X8_fail wd_787 wd_789 wd_6 wd_113 ds_X8_fail (by decide) (Nat.le_refl _) (Nat.le_of_ble_eq_true rfl) (Nat.zero_le _) (Nat.zero_le _) hc_1 (by decide) rfl rfl h
theorem bX8_expect_17 {SC : Nat → Nat} {X : mh_X} {d : Nat} {Q : Option am_V → am_W → Prop} {bc bs : Nat} {w : am_W} {x1 : Int} {xs0 : Int}
    (h : ((xs0 = 0 ∨ xs0 = 1) ∧ Q (some (.inl xs0)) w)) :
    am_A (mh_G X) SC (d + 1) mX8_expect Q 17 [(0, .inr (.inr (some (2, 0)))), (1, .inl x1)] [.inl xs0] w bc bs := by
  have o1 := h.1
  replace h := h.2
  exact am_ret (r := some (.inl xs0)) dX8_expect_17 (Or.inr (Or.inl ⟨rfl, o1⟩)) rfl h
-- MourningHouse$Reader.expectNumber(II)Z
theorem dX8_expectNumber_0 : decode mX8_expectNumber.2.1 0 = .ok (.aload_n 0, 1) := by decide +kernel
theorem dX8_expectNumber_1 : decode mX8_expectNumber.2.1 1 = .ok (.aload_n 0, 1) := by decide +kernel
theorem dX8_expectNumber_2 : decode mX8_expectNumber.2.1 2 = .ok (.getfield 39, 3) := by decide +kernel
theorem dX8_expectNumber_5 : decode mX8_expectNumber.2.1 5 = .ok (.invokevirtual 59, 3) := by decide +kernel
theorem dX8_expectNumber_8 : decode mX8_expectNumber.2.1 8 = .ok (.bipush 41, 2) := by decide +kernel
theorem dX8_expectNumber_10 : decode mX8_expectNumber.2.1 10 = .ok (.if_icmp .eq 9, 3) := by decide +kernel
theorem dX8_expectNumber_13 : decode mX8_expectNumber.2.1 13 = .ok (.aload_n 0, 1) := by decide +kernel
theorem dX8_expectNumber_14 : decode mX8_expectNumber.2.1 14 = .ok (.iconst 2, 1) := by decide +kernel
theorem dX8_expectNumber_15 : decode mX8_expectNumber.2.1 15 = .ok (.invokevirtual 55, 3) := by decide +kernel
theorem dX8_expectNumber_18 : decode mX8_expectNumber.2.1 18 = .ok (.ireturn, 1) := by decide +kernel
theorem dX8_expectNumber_19 : decode mX8_expectNumber.2.1 19 = .ok (.aload_n 0, 1) := by decide +kernel
theorem dX8_expectNumber_20 : decode mX8_expectNumber.2.1 20 = .ok (.invokevirtual 122, 3) := by decide +kernel
theorem dX8_expectNumber_23 : decode mX8_expectNumber.2.1 23 = .ok (.iload_n 1, 1) := by decide +kernel
theorem dX8_expectNumber_24 : decode mX8_expectNumber.2.1 24 = .ok (.if_icmp .lt 11, 3) := by decide +kernel
theorem dX8_expectNumber_27 : decode mX8_expectNumber.2.1 27 = .ok (.aload_n 0, 1) := by decide +kernel
theorem dX8_expectNumber_28 : decode mX8_expectNumber.2.1 28 = .ok (.invokevirtual 122, 3) := by decide +kernel
theorem dX8_expectNumber_31 : decode mX8_expectNumber.2.1 31 = .ok (.iload_n 2, 1) := by decide +kernel
theorem dX8_expectNumber_32 : decode mX8_expectNumber.2.1 32 = .ok (.if_icmp .le 9, 3) := by decide +kernel
theorem dX8_expectNumber_35 : decode mX8_expectNumber.2.1 35 = .ok (.aload_n 0, 1) := by decide +kernel
theorem dX8_expectNumber_36 : decode mX8_expectNumber.2.1 36 = .ok (.iconst 3, 1) := by decide +kernel
theorem dX8_expectNumber_37 : decode mX8_expectNumber.2.1 37 = .ok (.invokevirtual 55, 3) := by decide +kernel
theorem dX8_expectNumber_40 : decode mX8_expectNumber.2.1 40 = .ok (.ireturn, 1) := by decide +kernel
theorem dX8_expectNumber_41 : decode mX8_expectNumber.2.1 41 = .ok (.aload_n 0, 1) := by decide +kernel
theorem dX8_expectNumber_42 : decode mX8_expectNumber.2.1 42 = .ok (.dup, 1) := by decide +kernel
theorem dX8_expectNumber_43 : decode mX8_expectNumber.2.1 43 = .ok (.getfield 39, 3) := by decide +kernel
theorem dX8_expectNumber_46 : decode mX8_expectNumber.2.1 46 = .ok (.iconst 1, 1) := by decide +kernel
theorem dX8_expectNumber_47 : decode mX8_expectNumber.2.1 47 = .ok (.iadd, 1) := by decide +kernel
theorem dX8_expectNumber_48 : decode mX8_expectNumber.2.1 48 = .ok (.putfield 39, 3) := by decide +kernel
theorem dX8_expectNumber_51 : decode mX8_expectNumber.2.1 51 = .ok (.iconst 1, 1) := by decide +kernel
theorem dX8_expectNumber_52 : decode mX8_expectNumber.2.1 52 = .ok (.ireturn, 1) := by decide +kernel
theorem bX8_expectNumber_0 {SC : Nat → Nat} {X : mh_X} {d : Nat} {Q : Option am_V → am_W → Prop} {bc bs : Nat} {w : am_W} {x1 : Int} {x2 : Int}
    (h : am_M (mh_G X) SC d 0 0 mX8_codeAt [.inr (.inr (some (2, 0))), .inl (w.1 2 0 9)] w (fun r w1 => am_A (mh_G X) SC (d + 1) mX8_expectNumber Q 8 [(0, .inr (.inr (some (2, 0)))), (1, .inl x1), (2, .inl x2)] (r.toList ++ []) w1 bc bs)) :
    am_A (mh_G X) SC (d + 1) mX8_expectNumber Q 0 [(0, .inr (.inr (some (2, 0)))), (1, .inl x1), (2, .inl x2)] [] w bc bs := by
  refine am_aload_n dX8_expectNumber_0 (List.Mem.head _) ?_
  refine am_aload_n dX8_expectNumber_1 (List.Mem.head _) ?_
  refine am_getf (f := 9) (v := .inl (w.1 2 0 9)) dX8_expectNumber_2 hc_1 (by decide) wd_163 (by decide) rfl rfl ?_
  exact am_callv (d' := d) (kc := 0) (ks := 0) (as := [.inl (w.1 2 0 9)]) dX8_expectNumber_5 wc_X8_codeAt wd_791 wd_793 wd_7 wd_113 ds_X8_codeAt (by decide) (Nat.le_refl _) (Nat.le_of_ble_eq_true rfl) (Nat.zero_le _) (Nat.zero_le _) hc_1 (by decide) rfl rfl h
theorem bX8_expectNumber_8 {SC : Nat → Nat} {X : mh_X} {d : Nat} {Q : Option am_V → am_W → Prop} {bc bs : Nat} {w : am_W} {x1 : Int} {x2 : Int} {xs0 : Int}
    (h : ((xs0 = 41 → am_M (mh_G X) SC d 0 0 mX8_value [.inr (.inr (some (2, 0)))] w (fun r w1 => am_A (mh_G X) SC (d + 1) mX8_expectNumber Q 23 [(0, .inr (.inr (some (2, 0)))), (1, .inl x1), (2, .inl x2)] (r.toList ++ []) w1 bc bs)) ∧ (¬ xs0 = 41 → am_M (mh_G X) SC d 0 0 mX8_fail [.inr (.inr (some (2, 0))), .inl 2] w (fun r w1 => am_A (mh_G X) SC (d + 1) mX8_expectNumber Q 18 [(0, .inr (.inr (some (2, 0)))), (1, .inl x1), (2, .inl x2)] (r.toList ++ []) w1 bc bs)))) :
    am_A (mh_G X) SC (d + 1) mX8_expectNumber Q 8 [(0, .inr (.inr (some (2, 0)))), (1, .inl x1), (2, .inl x2)] [.inl xs0] w bc bs := by
  refine am_bipush dX8_expectNumber_8 (by decide) (by unfold am_rg; omega) ?_
  refine am_icmpeq (tgt := 19) dX8_expectNumber_10 (by decide) (fun c1 => ?_) (fun c1 => ?_)
  · replace h := h.1 c1
    refine am_aload_n dX8_expectNumber_19 (List.Mem.head _) ?_
    exact am_callv (d' := d) (kc := 0) (ks := 0) (as := []) dX8_expectNumber_20 wc_X8_value wd_845 wd_847 wd_14 wd_113 ds_X8_value (by decide) (Nat.le_refl _) (Nat.le_of_ble_eq_true rfl) (Nat.zero_le _) (Nat.zero_le _) hc_1 (by decide) rfl rfl h
  · replace h := h.2 c1
    refine am_aload_n dX8_expectNumber_13 (List.Mem.head _) ?_
    refine am_iconst dX8_expectNumber_14 (by unfold am_rg; omega) ?_
    exact am_callv (d' := d) (kc := 0) (ks := 0) (as := [.inl 2]) dX8_expectNumber_15 wc_X8_fail wd_787 wd_789 wd_6 wd_113 ds_X8_fail (by decide) (Nat.le_refl _) (Nat.le_of_ble_eq_true rfl) (Nat.zero_le _) (Nat.zero_le _) hc_1 (by decide) rfl rfl h
theorem bX8_expectNumber_23 {SC : Nat → Nat} {X : mh_X} {d : Nat} {Q : Option am_V → am_W → Prop} {bc bs : Nat} {w : am_W} {x1 : Int} {x2 : Int} {xs0 : Int}
    (h : ((xs0 < x1 → am_A (mh_G X) SC (d + 1) mX8_expectNumber Q 35 [(0, .inr (.inr (some (2, 0))))] [] w bc bs) ∧ (¬ xs0 < x1 → am_M (mh_G X) SC d 0 0 mX8_value [.inr (.inr (some (2, 0)))] w (fun r w1 => am_A (mh_G X) SC (d + 1) mX8_expectNumber Q 31 [(0, .inr (.inr (some (2, 0)))), (1, .inl x1), (2, .inl x2)] (r.toList ++ []) w1 bc bs)))) :
    am_A (mh_G X) SC (d + 1) mX8_expectNumber Q 23 [(0, .inr (.inr (some (2, 0)))), (1, .inl x1), (2, .inl x2)] [.inl xs0] w bc bs := by
  refine am_iload_n dX8_expectNumber_23 (List.Mem.tail _ (List.Mem.head _)) ?_
  refine am_icmplt (tgt := 35) dX8_expectNumber_24 (by decide) (fun c1 => ?_) (fun c1 => ?_)
  · replace h := h.1 c1
    exact am_sub [0] rfl h
  · replace h := h.2 c1
    refine am_aload_n dX8_expectNumber_27 (List.Mem.head _) ?_
    exact am_callv (d' := d) (kc := 0) (ks := 0) (as := []) dX8_expectNumber_28 wc_X8_value wd_845 wd_847 wd_14 wd_113 ds_X8_value (by decide) (Nat.le_refl _) (Nat.le_of_ble_eq_true rfl) (Nat.zero_le _) (Nat.zero_le _) hc_1 (by decide) rfl rfl h
theorem bX8_expectNumber_18 {SC : Nat → Nat} {X : mh_X} {d : Nat} {Q : Option am_V → am_W → Prop} {bc bs : Nat} {w : am_W} {x1 : Int} {x2 : Int} {xs0 : Int}
    (h : ((xs0 = 0 ∨ xs0 = 1) ∧ Q (some (.inl xs0)) w)) :
    am_A (mh_G X) SC (d + 1) mX8_expectNumber Q 18 [(0, .inr (.inr (some (2, 0)))), (1, .inl x1), (2, .inl x2)] [.inl xs0] w bc bs := by
  have o1 := h.1
  replace h := h.2
  exact am_ret (r := some (.inl xs0)) dX8_expectNumber_18 (Or.inr (Or.inl ⟨rfl, o1⟩)) rfl h
theorem bX8_expectNumber_35 {SC : Nat → Nat} {X : mh_X} {d : Nat} {Q : Option am_V → am_W → Prop} {bc bs : Nat} {w : am_W} 
    (h : am_M (mh_G X) SC d 0 0 mX8_fail [.inr (.inr (some (2, 0))), .inl 3] w (fun r w1 => am_A (mh_G X) SC (d + 1) mX8_expectNumber Q 40 [(0, .inr (.inr (some (2, 0))))] (r.toList ++ []) w1 bc bs)) :
    am_A (mh_G X) SC (d + 1) mX8_expectNumber Q 35 [(0, .inr (.inr (some (2, 0))))] [] w bc bs := by
  refine am_aload_n dX8_expectNumber_35 (List.Mem.head _) ?_
  refine am_iconst dX8_expectNumber_36 (by unfold am_rg; omega) ?_
  exact am_callv (d' := d) (kc := 0) (ks := 0) (as := [.inl 3]) dX8_expectNumber_37 wc_X8_fail wd_787 wd_789 wd_6 wd_113 ds_X8_fail (by decide) (Nat.le_refl _) (Nat.le_of_ble_eq_true rfl) (Nat.zero_le _) (Nat.zero_le _) hc_1 (by decide) rfl rfl h
theorem bX8_expectNumber_31 {SC : Nat → Nat} {X : mh_X} {d : Nat} {Q : Option am_V → am_W → Prop} {bc bs : Nat} {w : am_W} {x1 : Int} {x2 : Int} {xs0 : Int}
    (h : ((xs0 ≤ x2 → Q (some (.inl 1)) ((am_up w.1 2 0 9 (am_w ((w.1 2 0 9) + 1))), w.2)) ∧ (¬ xs0 ≤ x2 → am_A (mh_G X) SC (d + 1) mX8_expectNumber Q 35 [(0, .inr (.inr (some (2, 0))))] [] w bc bs))) :
    am_A (mh_G X) SC (d + 1) mX8_expectNumber Q 31 [(0, .inr (.inr (some (2, 0)))), (1, .inl x1), (2, .inl x2)] [.inl xs0] w bc bs := by
  refine am_iload_n dX8_expectNumber_31 (List.Mem.tail _ (List.Mem.tail _ (List.Mem.head _))) ?_
  refine am_icmple (tgt := 41) dX8_expectNumber_32 (by decide) (fun c1 => ?_) (fun c1 => ?_)
  · replace h := h.1 c1
    refine am_aload_n dX8_expectNumber_41 (List.Mem.head _) ?_
    refine am_dup dX8_expectNumber_42 rfl ?_
    refine am_getf (f := 9) (v := .inl (w.1 2 0 9)) dX8_expectNumber_43 hc_1 (by decide) wd_163 (by decide) rfl rfl ?_
    refine am_iconst dX8_expectNumber_46 (by unfold am_rg; omega) ?_
    refine am_iadd dX8_expectNumber_47 ?_
    refine am_putf (f := 9) dX8_expectNumber_48 hc_1 (by decide) wd_163 rfl (Or.inl rfl) (Or.inl (by decide)) rfl ?_
    refine am_iconst dX8_expectNumber_51 (by unfold am_rg; omega) ?_
    exact am_ret (r := some (.inl 1)) dX8_expectNumber_52 (Or.inr (Or.inl ⟨rfl, (Or.inr rfl)⟩)) rfl h
  · replace h := h.2 c1
    exact am_sub [0] rfl h
theorem bX8_expectNumber_40 {SC : Nat → Nat} {X : mh_X} {d : Nat} {Q : Option am_V → am_W → Prop} {bc bs : Nat} {w : am_W} {xs0 : Int}
    (h : ((xs0 = 0 ∨ xs0 = 1) ∧ Q (some (.inl xs0)) w)) :
    am_A (mh_G X) SC (d + 1) mX8_expectNumber Q 40 [(0, .inr (.inr (some (2, 0))))] [.inl xs0] w bc bs := by
  have o1 := h.1
  replace h := h.2
  exact am_ret (r := some (.inl xs0)) dX8_expectNumber_40 (Or.inr (Or.inl ⟨rfl, o1⟩)) rfl h
-- MourningHouse$Reader.expectStuff()Z
theorem dX8_expectStuff_0 : decode mX8_expectStuff.2.1 0 = .ok (.aload_n 0, 1) := by decide +kernel
theorem dX8_expectStuff_1 : decode mX8_expectStuff.2.1 1 = .ok (.aload_n 0, 1) := by decide +kernel
theorem dX8_expectStuff_2 : decode mX8_expectStuff.2.1 2 = .ok (.getfield 39, 3) := by decide +kernel
theorem dX8_expectStuff_5 : decode mX8_expectStuff.2.1 5 = .ok (.invokevirtual 59, 3) := by decide +kernel
theorem dX8_expectStuff_8 : decode mX8_expectStuff.2.1 8 = .ok (.invokestatic 126, 3) := by decide +kernel
theorem dX8_expectStuff_11 : decode mX8_expectStuff.2.1 11 = .ok (.ifCond .ne 9, 3) := by decide +kernel
theorem dX8_expectStuff_14 : decode mX8_expectStuff.2.1 14 = .ok (.aload_n 0, 1) := by decide +kernel
theorem dX8_expectStuff_15 : decode mX8_expectStuff.2.1 15 = .ok (.iconst 2, 1) := by decide +kernel
theorem dX8_expectStuff_16 : decode mX8_expectStuff.2.1 16 = .ok (.invokevirtual 55, 3) := by decide +kernel
theorem dX8_expectStuff_19 : decode mX8_expectStuff.2.1 19 = .ok (.ireturn, 1) := by decide +kernel
theorem dX8_expectStuff_20 : decode mX8_expectStuff.2.1 20 = .ok (.aload_n 0, 1) := by decide +kernel
theorem dX8_expectStuff_21 : decode mX8_expectStuff.2.1 21 = .ok (.dup, 1) := by decide +kernel
theorem dX8_expectStuff_22 : decode mX8_expectStuff.2.1 22 = .ok (.getfield 39, 3) := by decide +kernel
theorem dX8_expectStuff_25 : decode mX8_expectStuff.2.1 25 = .ok (.iconst 1, 1) := by decide +kernel
theorem dX8_expectStuff_26 : decode mX8_expectStuff.2.1 26 = .ok (.iadd, 1) := by decide +kernel
theorem dX8_expectStuff_27 : decode mX8_expectStuff.2.1 27 = .ok (.putfield 39, 3) := by decide +kernel
theorem dX8_expectStuff_30 : decode mX8_expectStuff.2.1 30 = .ok (.aload_n 0, 1) := by decide +kernel
theorem dX8_expectStuff_31 : decode mX8_expectStuff.2.1 31 = .ok (.bipush 46, 2) := by decide +kernel
theorem dX8_expectStuff_33 : decode mX8_expectStuff.2.1 33 = .ok (.invokevirtual 129, 3) := by decide +kernel
theorem dX8_expectStuff_36 : decode mX8_expectStuff.2.1 36 = .ok (.ireturn, 1) := by decide +kernel
theorem bX8_expectStuff_0 {SC : Nat → Nat} {X : mh_X} {d : Nat} {Q : Option am_V → am_W → Prop} {bc bs : Nat} {w : am_W} 
    (h : am_M (mh_G X) SC d 0 0 mX8_codeAt [.inr (.inr (some (2, 0))), .inl (w.1 2 0 9)] w (fun r w1 => am_A (mh_G X) SC (d + 1) mX8_expectStuff Q 8 [(0, .inr (.inr (some (2, 0))))] (r.toList ++ []) w1 bc bs)) :
    am_A (mh_G X) SC (d + 1) mX8_expectStuff Q 0 [(0, .inr (.inr (some (2, 0))))] [] w bc bs := by
  refine am_aload_n dX8_expectStuff_0 (List.Mem.head _) ?_
  refine am_aload_n dX8_expectStuff_1 (List.Mem.head _) ?_
  refine am_getf (f := 9) (v := .inl (w.1 2 0 9)) dX8_expectStuff_2 hc_1 (by decide) wd_163 (by decide) rfl rfl ?_
  exact am_callv (d' := d) (kc := 0) (ks := 0) (as := [.inl (w.1 2 0 9)]) dX8_expectStuff_5 wc_X8_codeAt wd_791 wd_793 wd_7 wd_113 ds_X8_codeAt (by decide) (Nat.le_refl _) (Nat.le_of_ble_eq_true rfl) (Nat.zero_le _) (Nat.zero_le _) hc_1 (by decide) rfl rfl h
theorem bX8_expectStuff_8 {SC : Nat → Nat} {X : mh_X} {d : Nat} {Q : Option am_V → am_W → Prop} {bc bs : Nat} {w : am_W} {xs0 : Int}
    (h : am_M (mh_G X) SC d 0 0 mX10_isStuff [.inl xs0] w (fun r w1 => am_A (mh_G X) SC (d + 1) mX8_expectStuff Q 11 [(0, .inr (.inr (some (2, 0))))] (r.toList ++ []) w1 bc bs)) :
    am_A (mh_G X) SC (d + 1) mX8_expectStuff Q 8 [(0, .inr (.inr (some (2, 0))))] [.inl xs0] w bc bs := by
  exact am_calls (d' := d) (kc := 0) (ks := 0) (as := [.inl xs0]) dX8_expectStuff_8 wc_X10_isStuff wd_882 wd_883 wd_123 ds_X10_isStuff (by decide) (Nat.le_refl _) (Nat.le_of_ble_eq_true rfl) (Nat.zero_le _) (Nat.zero_le _) rfl h
theorem bX8_expectStuff_11 {SC : Nat → Nat} {X : mh_X} {d : Nat} {Q : Option am_V → am_W → Prop} {bc bs : Nat} {w : am_W} {xs0 : Int}
    (h : ((¬ xs0 = 0 → am_M (mh_G X) SC d 0 0 mX8_expect [.inr (.inr (some (2, 0))), .inl 46] ((am_up w.1 2 0 9 (am_w ((w.1 2 0 9) + 1))), w.2) (fun r w1 => am_A (mh_G X) SC (d + 1) mX8_expectStuff Q 36 [(0, .inr (.inr (some (2, 0))))] (r.toList ++ []) w1 bc bs)) ∧ (xs0 = 0 → am_M (mh_G X) SC d 0 0 mX8_fail [.inr (.inr (some (2, 0))), .inl 2] w (fun r w1 => am_A (mh_G X) SC (d + 1) mX8_expectStuff Q 19 [(0, .inr (.inr (some (2, 0))))] (r.toList ++ []) w1 bc bs)))) :
    am_A (mh_G X) SC (d + 1) mX8_expectStuff Q 11 [(0, .inr (.inr (some (2, 0))))] [.inl xs0] w bc bs := by
  refine am_ifne (tgt := 20) dX8_expectStuff_11 (by decide) (fun c1 => ?_) (fun c1 => ?_)
  · replace h := h.1 c1
    refine am_aload_n dX8_expectStuff_20 (List.Mem.head _) ?_
    refine am_dup dX8_expectStuff_21 rfl ?_
    refine am_getf (f := 9) (v := .inl (w.1 2 0 9)) dX8_expectStuff_22 hc_1 (by decide) wd_163 (by decide) rfl rfl ?_
    refine am_iconst dX8_expectStuff_25 (by unfold am_rg; omega) ?_
    refine am_iadd dX8_expectStuff_26 ?_
    refine am_putf (f := 9) dX8_expectStuff_27 hc_1 (by decide) wd_163 rfl (Or.inl rfl) (Or.inl (by decide)) rfl ?_
    refine am_aload_n dX8_expectStuff_30 (List.Mem.head _) ?_
    refine am_bipush dX8_expectStuff_31 (by decide) (by unfold am_rg; omega) ?_
    exact am_callv (d' := d) (kc := 0) (ks := 0) (as := [.inl 46]) dX8_expectStuff_33 wc_X8_expect wd_867 wd_869 wd_16 wd_113 ds_X8_expect (by decide) (Nat.le_refl _) (Nat.le_of_ble_eq_true rfl) (Nat.zero_le _) (Nat.zero_le _) hc_1 (by decide) rfl rfl h
  · replace h := h.2 c1
    refine am_aload_n dX8_expectStuff_14 (List.Mem.head _) ?_
    refine am_iconst dX8_expectStuff_15 (by unfold am_rg; omega) ?_
    exact am_callv (d' := d) (kc := 0) (ks := 0) (as := [.inl 2]) dX8_expectStuff_16 wc_X8_fail wd_787 wd_789 wd_6 wd_113 ds_X8_fail (by decide) (Nat.le_refl _) (Nat.le_of_ble_eq_true rfl) (Nat.zero_le _) (Nat.zero_le _) hc_1 (by decide) rfl rfl h
theorem bX8_expectStuff_36 {SC : Nat → Nat} {X : mh_X} {d : Nat} {Q : Option am_V → am_W → Prop} {bc bs : Nat} {w : am_W} {xs0 : Int}
    (h : ((xs0 = 0 ∨ xs0 = 1) ∧ Q (some (.inl xs0)) w)) :
    am_A (mh_G X) SC (d + 1) mX8_expectStuff Q 36 [(0, .inr (.inr (some (2, 0))))] [.inl xs0] w bc bs := by
  have o1 := h.1
  replace h := h.2
  exact am_ret (r := some (.inl xs0)) dX8_expectStuff_36 (Or.inr (Or.inl ⟨rfl, o1⟩)) rfl h
theorem bX8_expectStuff_19 {SC : Nat → Nat} {X : mh_X} {d : Nat} {Q : Option am_V → am_W → Prop} {bc bs : Nat} {w : am_W} {xs0 : Int}
    (h : ((xs0 = 0 ∨ xs0 = 1) ∧ Q (some (.inl xs0)) w)) :
    am_A (mh_G X) SC (d + 1) mX8_expectStuff Q 19 [(0, .inr (.inr (some (2, 0))))] [.inl xs0] w bc bs := by
  have o1 := h.1
  replace h := h.2
  exact am_ret (r := some (.inl xs0)) dX8_expectStuff_19 (Or.inr (Or.inl ⟨rfl, o1⟩)) rfl h
-- MourningHouse$Reader.depthAt(I)I
theorem dX8_depthAt_0 : decode mX8_depthAt.2.1 0 = .ok (.aload_n 0, 1) := by decide +kernel
theorem dX8_depthAt_1 : decode mX8_depthAt.2.1 1 = .ok (.iload_n 1, 1) := by decide +kernel
theorem dX8_depthAt_2 : decode mX8_depthAt.2.1 2 = .ok (.invokevirtual 59, 3) := by decide +kernel
theorem dX8_depthAt_5 : decode mX8_depthAt.2.1 5 = .ok (.bipush 12, 2) := by decide +kernel
theorem dX8_depthAt_7 : decode mX8_depthAt.2.1 7 = .ok (.isub, 1) := by decide +kernel
theorem dX8_depthAt_8 : decode mX8_depthAt.2.1 8 = .ok (.ireturn, 1) := by decide +kernel
theorem bX8_depthAt_0 {SC : Nat → Nat} {X : mh_X} {d : Nat} {Q : Option am_V → am_W → Prop} {bc bs : Nat} {w : am_W} {x1 : Int}
    (h : am_M (mh_G X) SC d 0 0 mX8_codeAt [.inr (.inr (some (2, 0))), .inl x1] w (fun r w1 => am_A (mh_G X) SC (d + 1) mX8_depthAt Q 5 [(0, .inr (.inr (some (2, 0)))), (1, .inl x1)] (r.toList ++ []) w1 bc bs)) :
    am_A (mh_G X) SC (d + 1) mX8_depthAt Q 0 [(0, .inr (.inr (some (2, 0)))), (1, .inl x1)] [] w bc bs := by
  refine am_aload_n dX8_depthAt_0 (List.Mem.head _) ?_
  refine am_iload_n dX8_depthAt_1 (List.Mem.tail _ (List.Mem.head _)) ?_
  exact am_callv (d' := d) (kc := 0) (ks := 0) (as := [.inl x1]) dX8_depthAt_2 wc_X8_codeAt wd_791 wd_793 wd_7 wd_113 ds_X8_codeAt (by decide) (Nat.le_refl _) (Nat.le_of_ble_eq_true rfl) (Nat.zero_le _) (Nat.zero_le _) hc_1 (by decide) rfl rfl h
theorem bX8_depthAt_5 {SC : Nat → Nat} {X : mh_X} {d : Nat} {Q : Option am_V → am_W → Prop} {bc bs : Nat} {w : am_W} {x1 : Int} {xs0 : Int}
    (h : Q (some (.inl (am_w (xs0 - 12)))) w) :
    am_A (mh_G X) SC (d + 1) mX8_depthAt Q 5 [(0, .inr (.inr (some (2, 0)))), (1, .inl x1)] [.inl xs0] w bc bs := by
  refine am_bipush dX8_depthAt_5 (by decide) (by unfold am_rg; omega) ?_
  refine am_isub dX8_depthAt_7 ?_
  exact am_ret (r := some (.inl (am_w (xs0 - 12)))) dX8_depthAt_8 (Or.inl rfl) rfl h
-- MourningHouse$Reader.readRule(LMourningHouse$Law;)Z
theorem dX8_readRule_0 : decode mX8_readRule.2.1 0 = .ok (.aload_n 1, 1) := by decide +kernel
theorem dX8_readRule_1 : decode mX8_readRule.2.1 1 = .ok (.invokevirtual 132, 3) := by decide +kernel
theorem dX8_readRule_4 : decode mX8_readRule.2.1 4 = .ok (.ifCond .ne 10, 3) := by decide +kernel
theorem dX8_readRule_7 : decode mX8_readRule.2.1 7 = .ok (.aload_n 0, 1) := by decide +kernel
theorem dX8_readRule_8 : decode mX8_readRule.2.1 8 = .ok (.bipush 6, 2) := by decide +kernel
theorem dX8_readRule_10 : decode mX8_readRule.2.1 10 = .ok (.invokevirtual 55, 3) := by decide +kernel
theorem dX8_readRule_13 : decode mX8_readRule.2.1 13 = .ok (.ireturn, 1) := by decide +kernel
theorem dX8_readRule_14 : decode mX8_readRule.2.1 14 = .ok (.aload_n 1, 1) := by decide +kernel
theorem dX8_readRule_15 : decode mX8_readRule.2.1 15 = .ok (.invokevirtual 136, 3) := by decide +kernel
theorem dX8_readRule_18 : decode mX8_readRule.2.1 18 = .ok (.aload_n 0, 1) := by decide +kernel
theorem dX8_readRule_19 : decode mX8_readRule.2.1 19 = .ok (.aload_n 1, 1) := by decide +kernel
theorem dX8_readRule_20 : decode mX8_readRule.2.1 20 = .ok (.invokevirtual 139, 3) := by decide +kernel
theorem dX8_readRule_23 : decode mX8_readRule.2.1 23 = .ok (.ifCond .eq 23, 3) := by decide +kernel
theorem dX8_readRule_26 : decode mX8_readRule.2.1 26 = .ok (.aload_n 0, 1) := by decide +kernel
theorem dX8_readRule_27 : decode mX8_readRule.2.1 27 = .ok (.aload_n 1, 1) := by decide +kernel
theorem dX8_readRule_28 : decode mX8_readRule.2.1 28 = .ok (.invokevirtual 142, 3) := by decide +kernel
theorem dX8_readRule_31 : decode mX8_readRule.2.1 31 = .ok (.ifCond .eq 15, 3) := by decide +kernel
theorem dX8_readRule_34 : decode mX8_readRule.2.1 34 = .ok (.aload_n 0, 1) := by decide +kernel
theorem dX8_readRule_35 : decode mX8_readRule.2.1 35 = .ok (.aload_n 1, 1) := by decide +kernel
theorem dX8_readRule_36 : decode mX8_readRule.2.1 36 = .ok (.invokevirtual 145, 3) := by decide +kernel
theorem dX8_readRule_39 : decode mX8_readRule.2.1 39 = .ok (.ifCond .eq 7, 3) := by decide +kernel
theorem dX8_readRule_42 : decode mX8_readRule.2.1 42 = .ok (.iconst 1, 1) := by decide +kernel
theorem dX8_readRule_43 : decode mX8_readRule.2.1 43 = .ok (.goto 4, 3) := by decide +kernel
theorem dX8_readRule_46 : decode mX8_readRule.2.1 46 = .ok (.iconst 0, 1) := by decide +kernel
theorem dX8_readRule_47 : decode mX8_readRule.2.1 47 = .ok (.ireturn, 1) := by decide +kernel
theorem bX8_readRule_0 {SC : Nat → Nat} {X : mh_X} {d : Nat} {Q : Option am_V → am_W → Prop} {bc bs : Nat} {w : am_W} {j1 : Nat}
    (h : am_M (mh_G X) SC d 0 0 mX3_hasRoomForRule [.inr (.inr (some (10, j1)))] w (fun r w1 => am_A (mh_G X) SC (d + 1) mX8_readRule Q 4 [(0, .inr (.inr (some (2, 0)))), (1, .inr (.inr (some (10, j1))))] (r.toList ++ []) w1 bc bs)) :
    am_A (mh_G X) SC (d + 1) mX8_readRule Q 0 [(0, .inr (.inr (some (2, 0)))), (1, .inr (.inr (some (10, j1))))] [] w bc bs := by
  refine am_aload_n dX8_readRule_0 (List.Mem.tail _ (List.Mem.head _)) ?_
  exact am_callv (d' := d) (kc := 0) (ks := 0) (as := []) dX8_readRule_1 wc_X3_hasRoomForRule wd_799 wd_800 wd_801 wd_116 ds_X3_hasRoomForRule (by decide) (Nat.le_refl _) (Nat.le_of_ble_eq_true rfl) (Nat.zero_le _) (Nat.zero_le _) hc_4 (by decide) rfl rfl h
theorem bX8_readRule_4 {SC : Nat → Nat} {X : mh_X} {d : Nat} {Q : Option am_V → am_W → Prop} {bc bs : Nat} {w : am_W} {j1 : Nat} {xs0 : Int}
    (h : ((¬ xs0 = 0 → am_M (mh_G X) SC d 0 0 mX3_openRule [.inr (.inr (some (10, j1)))] w (fun r w1 => am_A (mh_G X) SC (d + 1) mX8_readRule Q 18 [(0, .inr (.inr (some (2, 0)))), (1, .inr (.inr (some (10, j1))))] (r.toList ++ []) w1 bc bs)) ∧ (xs0 = 0 → am_M (mh_G X) SC d 0 0 mX8_fail [.inr (.inr (some (2, 0))), .inl 6] w (fun r w1 => am_A (mh_G X) SC (d + 1) mX8_readRule Q 13 [(0, .inr (.inr (some (2, 0)))), (1, .inr (.inr (some (10, j1))))] (r.toList ++ []) w1 bc bs)))) :
    am_A (mh_G X) SC (d + 1) mX8_readRule Q 4 [(0, .inr (.inr (some (2, 0)))), (1, .inr (.inr (some (10, j1))))] [.inl xs0] w bc bs := by
  refine am_ifne (tgt := 14) dX8_readRule_4 (by decide) (fun c1 => ?_) (fun c1 => ?_)
  · replace h := h.1 c1
    refine am_aload_n dX8_readRule_14 (List.Mem.tail _ (List.Mem.head _)) ?_
    exact am_callv (d' := d) (kc := 0) (ks := 0) (as := []) dX8_readRule_15 wc_X3_openRule wd_803 wd_804 wd_805 wd_116 ds_X3_openRule (by decide) (Nat.le_refl _) (Nat.le_of_ble_eq_true rfl) (Nat.zero_le _) (Nat.zero_le _) hc_4 (by decide) rfl rfl h
  · replace h := h.2 c1
    refine am_aload_n dX8_readRule_7 (List.Mem.head _) ?_
    refine am_bipush dX8_readRule_8 (by decide) (by unfold am_rg; omega) ?_
    exact am_callv (d' := d) (kc := 0) (ks := 0) (as := [.inl 6]) dX8_readRule_10 wc_X8_fail wd_787 wd_789 wd_6 wd_113 ds_X8_fail (by decide) (Nat.le_refl _) (Nat.le_of_ble_eq_true rfl) (Nat.zero_le _) (Nat.zero_le _) hc_1 (by decide) rfl rfl h
theorem bX8_readRule_18 {SC : Nat → Nat} {X : mh_X} {d : Nat} {Q : Option am_V → am_W → Prop} {bc bs : Nat} {w : am_W} {j1 : Nat}
    (h : am_M (mh_G X) SC d 0 0 mX8_readKin [.inr (.inr (some (2, 0))), .inr (.inr (some (10, j1)))] w (fun r w1 => am_A (mh_G X) SC (d + 1) mX8_readRule Q 23 [(0, .inr (.inr (some (2, 0)))), (1, .inr (.inr (some (10, j1))))] (r.toList ++ []) w1 bc bs)) :
    am_A (mh_G X) SC (d + 1) mX8_readRule Q 18 [(0, .inr (.inr (some (2, 0)))), (1, .inr (.inr (some (10, j1))))] [] w bc bs := by
  refine am_aload_n dX8_readRule_18 (List.Mem.head _) ?_
  refine am_aload_n dX8_readRule_19 (List.Mem.tail _ (List.Mem.head _)) ?_
  exact am_callv (d' := d) (kc := 0) (ks := 0) (as := [.inr (.inr (some (10, j1)))]) dX8_readRule_20 wc_X8_readKin wd_807 wd_809 wd_9 wd_113 ds_X8_readKin (by decide) (Nat.le_refl _) (Nat.le_of_ble_eq_true rfl) (Nat.zero_le _) (Nat.zero_le _) hc_1 (by decide) rfl rfl h
theorem bX8_readRule_13 {SC : Nat → Nat} {X : mh_X} {d : Nat} {Q : Option am_V → am_W → Prop} {bc bs : Nat} {w : am_W} {j1 : Nat} {xs0 : Int}
    (h : ((xs0 = 0 ∨ xs0 = 1) ∧ Q (some (.inl xs0)) w)) :
    am_A (mh_G X) SC (d + 1) mX8_readRule Q 13 [(0, .inr (.inr (some (2, 0)))), (1, .inr (.inr (some (10, j1))))] [.inl xs0] w bc bs := by
  have o1 := h.1
  replace h := h.2
  exact am_ret (r := some (.inl xs0)) dX8_readRule_13 (Or.inr (Or.inl ⟨rfl, o1⟩)) rfl h
theorem bX8_readRule_23 {SC : Nat → Nat} {X : mh_X} {d : Nat} {Q : Option am_V → am_W → Prop} {bc bs : Nat} {w : am_W} {j1 : Nat} {xs0 : Int}
    (h : ((xs0 = 0 → Q (some (.inl 0)) w) ∧ (¬ xs0 = 0 → am_M (mh_G X) SC d 0 0 mX8_readParts [.inr (.inr (some (2, 0))), .inr (.inr (some (10, j1)))] w (fun r w1 => am_A (mh_G X) SC (d + 1) mX8_readRule Q 31 [(0, .inr (.inr (some (2, 0)))), (1, .inr (.inr (some (10, j1))))] (r.toList ++ []) w1 bc bs)))) :
    am_A (mh_G X) SC (d + 1) mX8_readRule Q 23 [(0, .inr (.inr (some (2, 0)))), (1, .inr (.inr (some (10, j1))))] [.inl xs0] w bc bs := by
  refine am_ifeq (tgt := 46) dX8_readRule_23 (by decide) (fun c1 => ?_) (fun c1 => ?_)
  · replace h := h.1 c1
    refine am_iconst dX8_readRule_46 (by unfold am_rg; omega) ?_
    exact am_ret (r := some (.inl 0)) dX8_readRule_47 (Or.inr (Or.inl ⟨rfl, (Or.inl rfl)⟩)) rfl h
  · replace h := h.2 c1
    refine am_aload_n dX8_readRule_26 (List.Mem.head _) ?_
    refine am_aload_n dX8_readRule_27 (List.Mem.tail _ (List.Mem.head _)) ?_
    exact am_callv (d' := d) (kc := 0) (ks := 0) (as := [.inr (.inr (some (10, j1)))]) dX8_readRule_28 wc_X8_readParts wd_818 wd_820 wd_10 wd_113 ds_X8_readParts (by decide) (Nat.le_refl _) (Nat.le_of_ble_eq_true rfl) (Nat.zero_le _) (Nat.zero_le _) hc_1 (by decide) rfl rfl h
theorem bX8_readRule_31 {SC : Nat → Nat} {X : mh_X} {d : Nat} {Q : Option am_V → am_W → Prop} {bc bs : Nat} {w : am_W} {j1 : Nat} {xs0 : Int}
    (h : ((xs0 = 0 → Q (some (.inl 0)) w) ∧ (¬ xs0 = 0 → am_M (mh_G X) SC d 0 0 mX8_readOptions [.inr (.inr (some (2, 0))), .inr (.inr (some (10, j1)))] w (fun r w1 => am_A (mh_G X) SC (d + 1) mX8_readRule Q 39 [(0, .inr (.inr (some (2, 0)))), (1, .inr (.inr (some (10, j1))))] (r.toList ++ []) w1 bc bs)))) :
    am_A (mh_G X) SC (d + 1) mX8_readRule Q 31 [(0, .inr (.inr (some (2, 0)))), (1, .inr (.inr (some (10, j1))))] [.inl xs0] w bc bs := by
  refine am_ifeq (tgt := 46) dX8_readRule_31 (by decide) (fun c1 => ?_) (fun c1 => ?_)
  · replace h := h.1 c1
    refine am_iconst dX8_readRule_46 (by unfold am_rg; omega) ?_
    exact am_ret (r := some (.inl 0)) dX8_readRule_47 (Or.inr (Or.inl ⟨rfl, (Or.inl rfl)⟩)) rfl h
  · replace h := h.2 c1
    refine am_aload_n dX8_readRule_34 (List.Mem.head _) ?_
    refine am_aload_n dX8_readRule_35 (List.Mem.tail _ (List.Mem.head _)) ?_
    exact am_callv (d' := d) (kc := 0) (ks := 0) (as := [.inr (.inr (some (10, j1)))]) dX8_readRule_36 wc_X8_readOptions wd_856 wd_858 wd_15 wd_113 ds_X8_readOptions (by decide) (Nat.le_refl _) (Nat.le_of_ble_eq_true rfl) (Nat.zero_le _) (Nat.zero_le _) hc_1 (by decide) rfl rfl h
theorem bX8_readRule_39 {SC : Nat → Nat} {X : mh_X} {d : Nat} {Q : Option am_V → am_W → Prop} {bc bs : Nat} {w : am_W} {j1 : Nat} {xs0 : Int}
    (h : ((xs0 = 0 → Q (some (.inl 0)) w) ∧ (¬ xs0 = 0 → Q (some (.inl 1)) w))) :
    am_A (mh_G X) SC (d + 1) mX8_readRule Q 39 [(0, .inr (.inr (some (2, 0)))), (1, .inr (.inr (some (10, j1))))] [.inl xs0] w bc bs := by
  refine am_ifeq (tgt := 46) dX8_readRule_39 (by decide) (fun c1 => ?_) (fun c1 => ?_)
  · replace h := h.1 c1
    refine am_iconst dX8_readRule_46 (by unfold am_rg; omega) ?_
    exact am_ret (r := some (.inl 0)) dX8_readRule_47 (Or.inr (Or.inl ⟨rfl, (Or.inl rfl)⟩)) rfl h
  · replace h := h.2 c1
    refine am_iconst dX8_readRule_42 (by unfold am_rg; omega) ?_
    refine am_goto (tgt := 47) dX8_readRule_43 (by decide) ?_
    exact am_ret (r := some (.inl 1)) dX8_readRule_47 (Or.inr (Or.inl ⟨rfl, (Or.inr rfl)⟩)) rfl h
-- MourningHouse$Reader.readKin(LMourningHouse$Law;)Z
theorem dX8_readKin_0 : decode mX8_readKin.2.1 0 = .ok (.aload_n 0, 1) := by decide +kernel
theorem dX8_readKin_1 : decode mX8_readKin.2.1 1 = .ok (.dup, 1) := by decide +kernel
theorem dX8_readKin_2 : decode mX8_readKin.2.1 2 = .ok (.getfield 39, 3) := by decide +kernel
theorem dX8_readKin_5 : decode mX8_readKin.2.1 5 = .ok (.iconst 1, 1) := by decide +kernel
theorem dX8_readKin_6 : decode mX8_readKin.2.1 6 = .ok (.iadd, 1) := by decide +kernel
theorem dX8_readKin_7 : decode mX8_readKin.2.1 7 = .ok (.putfield 39, 3) := by decide +kernel
theorem dX8_readKin_10 : decode mX8_readKin.2.1 10 = .ok (.aload_n 0, 1) := by decide +kernel
theorem dX8_readKin_11 : decode mX8_readKin.2.1 11 = .ok (.aload_n 0, 1) := by decide +kernel
theorem dX8_readKin_12 : decode mX8_readKin.2.1 12 = .ok (.getfield 39, 3) := by decide +kernel
theorem dX8_readKin_15 : decode mX8_readKin.2.1 15 = .ok (.invokevirtual 59, 3) := by decide +kernel
theorem dX8_readKin_18 : decode mX8_readKin.2.1 18 = .ok (.invokestatic 148, 3) := by decide +kernel
theorem dX8_readKin_21 : decode mX8_readKin.2.1 21 = .ok (.ifCond .ne 9, 3) := by decide +kernel
theorem dX8_readKin_24 : decode mX8_readKin.2.1 24 = .ok (.aload_n 0, 1) := by decide +kernel
theorem dX8_readKin_25 : decode mX8_readKin.2.1 25 = .ok (.iconst 2, 1) := by decide +kernel
theorem dX8_readKin_26 : decode mX8_readKin.2.1 26 = .ok (.invokevirtual 55, 3) := by decide +kernel
theorem dX8_readKin_29 : decode mX8_readKin.2.1 29 = .ok (.ireturn, 1) := by decide +kernel
theorem dX8_readKin_30 : decode mX8_readKin.2.1 30 = .ok (.aload_n 1, 1) := by decide +kernel
theorem dX8_readKin_31 : decode mX8_readKin.2.1 31 = .ok (.aload_n 0, 1) := by decide +kernel
theorem dX8_readKin_32 : decode mX8_readKin.2.1 32 = .ok (.aload_n 0, 1) := by decide +kernel
theorem dX8_readKin_33 : decode mX8_readKin.2.1 33 = .ok (.getfield 39, 3) := by decide +kernel
theorem dX8_readKin_36 : decode mX8_readKin.2.1 36 = .ok (.invokevirtual 59, 3) := by decide +kernel
theorem dX8_readKin_39 : decode mX8_readKin.2.1 39 = .ok (.invokevirtual 151, 3) := by decide +kernel
theorem dX8_readKin_42 : decode mX8_readKin.2.1 42 = .ok (.ifCond .ne 10, 3) := by decide +kernel
theorem dX8_readKin_45 : decode mX8_readKin.2.1 45 = .ok (.aload_n 0, 1) := by decide +kernel
theorem dX8_readKin_46 : decode mX8_readKin.2.1 46 = .ok (.bipush 6, 2) := by decide +kernel
theorem dX8_readKin_48 : decode mX8_readKin.2.1 48 = .ok (.invokevirtual 55, 3) := by decide +kernel
theorem dX8_readKin_51 : decode mX8_readKin.2.1 51 = .ok (.ireturn, 1) := by decide +kernel
theorem dX8_readKin_52 : decode mX8_readKin.2.1 52 = .ok (.aload_n 0, 1) := by decide +kernel
theorem dX8_readKin_53 : decode mX8_readKin.2.1 53 = .ok (.dup, 1) := by decide +kernel
theorem dX8_readKin_54 : decode mX8_readKin.2.1 54 = .ok (.getfield 39, 3) := by decide +kernel
theorem dX8_readKin_57 : decode mX8_readKin.2.1 57 = .ok (.iconst 1, 1) := by decide +kernel
theorem dX8_readKin_58 : decode mX8_readKin.2.1 58 = .ok (.iadd, 1) := by decide +kernel
theorem dX8_readKin_59 : decode mX8_readKin.2.1 59 = .ok (.putfield 39, 3) := by decide +kernel
theorem dX8_readKin_62 : decode mX8_readKin.2.1 62 = .ok (.aload_n 0, 1) := by decide +kernel
theorem dX8_readKin_63 : decode mX8_readKin.2.1 63 = .ok (.getfield 39, 3) := by decide +kernel
theorem dX8_readKin_66 : decode mX8_readKin.2.1 66 = .ok (.aload_n 0, 1) := by decide +kernel
theorem dX8_readKin_67 : decode mX8_readKin.2.1 67 = .ok (.getfield 36, 3) := by decide +kernel
theorem dX8_readKin_70 : decode mX8_readKin.2.1 70 = .ok (.if_icmp .ge 16, 3) := by decide +kernel
theorem dX8_readKin_73 : decode mX8_readKin.2.1 73 = .ok (.aload_n 0, 1) := by decide +kernel
theorem dX8_readKin_74 : decode mX8_readKin.2.1 74 = .ok (.aload_n 0, 1) := by decide +kernel
theorem dX8_readKin_75 : decode mX8_readKin.2.1 75 = .ok (.getfield 39, 3) := by decide +kernel
theorem dX8_readKin_78 : decode mX8_readKin.2.1 78 = .ok (.invokevirtual 59, 3) := by decide +kernel
theorem dX8_readKin_81 : decode mX8_readKin.2.1 81 = .ok (.bipush 31, 2) := by decide +kernel
theorem dX8_readKin_83 : decode mX8_readKin.2.1 83 = .ok (.if_icmp .eq (-83), 3) := by decide +kernel
theorem dX8_readKin_86 : decode mX8_readKin.2.1 86 = .ok (.aload_n 0, 1) := by decide +kernel
theorem dX8_readKin_87 : decode mX8_readKin.2.1 87 = .ok (.aload_n 0, 1) := by decide +kernel
theorem dX8_readKin_88 : decode mX8_readKin.2.1 88 = .ok (.getfield 39, 3) := by decide +kernel
theorem dX8_readKin_91 : decode mX8_readKin.2.1 91 = .ok (.invokevirtual 59, 3) := by decide +kernel
theorem dX8_readKin_94 : decode mX8_readKin.2.1 94 = .ok (.bipush 42, 2) := by decide +kernel
theorem dX8_readKin_96 : decode mX8_readKin.2.1 96 = .ok (.if_icmp .eq 11, 3) := by decide +kernel
theorem dX8_readKin_99 : decode mX8_readKin.2.1 99 = .ok (.aload_n 0, 1) := by decide +kernel
theorem dX8_readKin_100 : decode mX8_readKin.2.1 100 = .ok (.iconst 2, 1) := by decide +kernel
theorem dX8_readKin_101 : decode mX8_readKin.2.1 101 = .ok (.invokevirtual 55, 3) := by decide +kernel
theorem dX8_readKin_104 : decode mX8_readKin.2.1 104 = .ok (.ifCond .eq 7, 3) := by decide +kernel
theorem dX8_readKin_107 : decode mX8_readKin.2.1 107 = .ok (.iconst 1, 1) := by decide +kernel
theorem dX8_readKin_108 : decode mX8_readKin.2.1 108 = .ok (.goto 4, 3) := by decide +kernel
theorem dX8_readKin_111 : decode mX8_readKin.2.1 111 = .ok (.iconst 0, 1) := by decide +kernel
theorem dX8_readKin_112 : decode mX8_readKin.2.1 112 = .ok (.ireturn, 1) := by decide +kernel
theorem bX8_readKin_0 {SC : Nat → Nat} {X : mh_X} {d : Nat} {Q : Option am_V → am_W → Prop} {bc bs : Nat} {w : am_W} {j1 : Nat}
    (h : am_M (mh_G X) SC d 0 0 mX8_codeAt [.inr (.inr (some (2, 0))), .inl ((am_up w.1 2 0 9 (am_w ((w.1 2 0 9) + 1))) 2 0 9)] ((am_up w.1 2 0 9 (am_w ((w.1 2 0 9) + 1))), w.2) (fun r w1 => am_A (mh_G X) SC (d + 1) mX8_readKin Q 18 [(0, .inr (.inr (some (2, 0)))), (1, .inr (.inr (some (10, j1))))] (r.toList ++ []) w1 bc bs)) :
    am_A (mh_G X) SC (d + 1) mX8_readKin Q 0 [(0, .inr (.inr (some (2, 0)))), (1, .inr (.inr (some (10, j1))))] [] w bc bs := by
  refine am_aload_n dX8_readKin_0 (List.Mem.head _) ?_
  refine am_dup dX8_readKin_1 rfl ?_
  refine am_getf (f := 9) (v := .inl (w.1 2 0 9)) dX8_readKin_2 hc_1 (by decide) wd_163 (by decide) rfl rfl ?_
  refine am_iconst dX8_readKin_5 (by unfold am_rg; omega) ?_
  refine am_iadd dX8_readKin_6 ?_
  refine am_putf (f := 9) dX8_readKin_7 hc_1 (by decide) wd_163 rfl (Or.inl rfl) (Or.inl (by decide)) rfl ?_
  refine am_aload_n dX8_readKin_10 (List.Mem.head _) ?_
  refine am_aload_n dX8_readKin_11 (List.Mem.head _) ?_
  refine am_getf (f := 9) (v := .inl ((am_up w.1 2 0 9 (am_w ((w.1 2 0 9) + 1))) 2 0 9)) dX8_readKin_12 hc_1 (by decide) wd_163 (by decide) rfl rfl ?_
  exact am_callv (d' := d) (kc := 0) (ks := 0) (as := [.inl ((am_up w.1 2 0 9 (am_w ((w.1 2 0 9) + 1))) 2 0 9)]) dX8_readKin_15 wc_X8_codeAt wd_791 wd_793 wd_7 wd_113 ds_X8_codeAt (by decide) (Nat.le_refl _) (Nat.le_of_ble_eq_true rfl) (Nat.zero_le _) (Nat.zero_le _) hc_1 (by decide) rfl rfl h
theorem bX8_readKin_18 {SC : Nat → Nat} {X : mh_X} {d : Nat} {Q : Option am_V → am_W → Prop} {bc bs : Nat} {w : am_W} {j1 : Nat} {xs0 : Int}
    (h : am_M (mh_G X) SC d 0 0 mX10_isKin [.inl xs0] w (fun r w1 => am_A (mh_G X) SC (d + 1) mX8_readKin Q 21 [(0, .inr (.inr (some (2, 0)))), (1, .inr (.inr (some (10, j1))))] (r.toList ++ []) w1 bc bs)) :
    am_A (mh_G X) SC (d + 1) mX8_readKin Q 18 [(0, .inr (.inr (some (2, 0)))), (1, .inr (.inr (some (10, j1))))] [.inl xs0] w bc bs := by
  exact am_calls (d' := d) (kc := 0) (ks := 0) (as := [.inl xs0]) dX8_readKin_18 wc_X10_isKin wd_811 wd_812 wd_123 ds_X10_isKin (by decide) (Nat.le_refl _) (Nat.le_of_ble_eq_true rfl) (Nat.zero_le _) (Nat.zero_le _) rfl h
theorem bX8_readKin_21 {SC : Nat → Nat} {X : mh_X} {d : Nat} {Q : Option am_V → am_W → Prop} {bc bs : Nat} {w : am_W} {j1 : Nat} {xs0 : Int}
    (h : ((¬ xs0 = 0 → am_M (mh_G X) SC d 0 0 mX8_codeAt [.inr (.inr (some (2, 0))), .inl (w.1 2 0 9)] w (fun r w1 => am_A (mh_G X) SC (d + 1) mX8_readKin Q 39 [(0, .inr (.inr (some (2, 0)))), (1, .inr (.inr (some (10, j1))))] (r.toList ++ [.inr (.inr (some (10, j1)))]) w1 bc bs)) ∧ (xs0 = 0 → am_M (mh_G X) SC d 0 0 mX8_fail [.inr (.inr (some (2, 0))), .inl 2] w (fun r w1 => am_A (mh_G X) SC (d + 1) mX8_readKin Q 29 [(0, .inr (.inr (some (2, 0)))), (1, .inr (.inr (some (10, j1))))] (r.toList ++ []) w1 bc bs)))) :
    am_A (mh_G X) SC (d + 1) mX8_readKin Q 21 [(0, .inr (.inr (some (2, 0)))), (1, .inr (.inr (some (10, j1))))] [.inl xs0] w bc bs := by
  refine am_ifne (tgt := 30) dX8_readKin_21 (by decide) (fun c1 => ?_) (fun c1 => ?_)
  · replace h := h.1 c1
    refine am_aload_n dX8_readKin_30 (List.Mem.tail _ (List.Mem.head _)) ?_
    refine am_aload_n dX8_readKin_31 (List.Mem.head _) ?_
    refine am_aload_n dX8_readKin_32 (List.Mem.head _) ?_
    refine am_getf (f := 9) (v := .inl (w.1 2 0 9)) dX8_readKin_33 hc_1 (by decide) wd_163 (by decide) rfl rfl ?_
    exact am_callv (d' := d) (kc := 0) (ks := 0) (as := [.inl (w.1 2 0 9)]) dX8_readKin_36 wc_X8_codeAt wd_791 wd_793 wd_7 wd_113 ds_X8_codeAt (by decide) (Nat.le_refl _) (Nat.le_of_ble_eq_true rfl) (Nat.zero_le _) (Nat.zero_le _) hc_1 (by decide) rfl rfl h
  · replace h := h.2 c1
    refine am_aload_n dX8_readKin_24 (List.Mem.head _) ?_
    refine am_iconst dX8_readKin_25 (by unfold am_rg; omega) ?_
    exact am_callv (d' := d) (kc := 0) (ks := 0) (as := [.inl 2]) dX8_readKin_26 wc_X8_fail wd_787 wd_789 wd_6 wd_113 ds_X8_fail (by decide) (Nat.le_refl _) (Nat.le_of_ble_eq_true rfl) (Nat.zero_le _) (Nat.zero_le _) hc_1 (by decide) rfl rfl h
theorem bX8_readKin_39 {SC : Nat → Nat} {X : mh_X} {d : Nat} {Q : Option am_V → am_W → Prop} {bc bs : Nat} {w : am_W} {j1 : Nat} {xs0 : Int} {js1 : Nat}
    (h : am_M (mh_G X) SC d 0 0 mX3_addKin [.inr (.inr (some (10, js1))), .inl xs0] w (fun r w1 => am_A (mh_G X) SC (d + 1) mX8_readKin Q 42 [(0, .inr (.inr (some (2, 0)))), (1, .inr (.inr (some (10, j1))))] (r.toList ++ []) w1 bc bs)) :
    am_A (mh_G X) SC (d + 1) mX8_readKin Q 39 [(0, .inr (.inr (some (2, 0)))), (1, .inr (.inr (some (10, j1))))] [.inl xs0, .inr (.inr (some (10, js1)))] w bc bs := by
  exact am_callv (d' := d) (kc := 0) (ks := 0) (as := [.inl xs0]) dX8_readKin_39 wc_X3_addKin wd_814 wd_815 wd_816 wd_116 ds_X3_addKin (by decide) (Nat.le_refl _) (Nat.le_of_ble_eq_true rfl) (Nat.zero_le _) (Nat.zero_le _) hc_4 (by decide) rfl rfl h
theorem bX8_readKin_29 {SC : Nat → Nat} {X : mh_X} {d : Nat} {Q : Option am_V → am_W → Prop} {bc bs : Nat} {w : am_W} {j1 : Nat} {xs0 : Int}
    (h : ((xs0 = 0 ∨ xs0 = 1) ∧ Q (some (.inl xs0)) w)) :
    am_A (mh_G X) SC (d + 1) mX8_readKin Q 29 [(0, .inr (.inr (some (2, 0)))), (1, .inr (.inr (some (10, j1))))] [.inl xs0] w bc bs := by
  have o1 := h.1
  replace h := h.2
  exact am_ret (r := some (.inl xs0)) dX8_readKin_29 (Or.inr (Or.inl ⟨rfl, o1⟩)) rfl h
theorem bX8_readKin_42 {SC : Nat → Nat} {X : mh_X} {d : Nat} {Q : Option am_V → am_W → Prop} {bc bs : Nat} {w : am_W} {j1 : Nat} {xs0 : Int}
    (h : ((¬ xs0 = 0 → ((((am_up w.1 2 0 9 (am_w ((w.1 2 0 9) + 1))) 2 0 8) ≤ ((am_up w.1 2 0 9 (am_w ((w.1 2 0 9) + 1))) 2 0 9) → am_A (mh_G X) SC (d + 1) mX8_readKin Q 86 [(0, .inr (.inr (some (2, 0))))] [] ((am_up w.1 2 0 9 (am_w ((w.1 2 0 9) + 1))), w.2) bc bs) ∧ (¬ ((am_up w.1 2 0 9 (am_w ((w.1 2 0 9) + 1))) 2 0 8) ≤ ((am_up w.1 2 0 9 (am_w ((w.1 2 0 9) + 1))) 2 0 9) → am_M (mh_G X) SC d 0 0 mX8_codeAt [.inr (.inr (some (2, 0))), .inl ((am_up w.1 2 0 9 (am_w ((w.1 2 0 9) + 1))) 2 0 9)] ((am_up w.1 2 0 9 (am_w ((w.1 2 0 9) + 1))), w.2) (fun r w1 => am_A (mh_G X) SC (d + 1) mX8_readKin Q 81 [(0, .inr (.inr (some (2, 0)))), (1, .inr (.inr (some (10, j1))))] (r.toList ++ []) w1 bc bs)))) ∧ (xs0 = 0 → am_M (mh_G X) SC d 0 0 mX8_fail [.inr (.inr (some (2, 0))), .inl 6] w (fun r w1 => am_A (mh_G X) SC (d + 1) mX8_readKin Q 51 [(0, .inr (.inr (some (2, 0)))), (1, .inr (.inr (some (10, j1))))] (r.toList ++ []) w1 bc bs)))) :
    am_A (mh_G X) SC (d + 1) mX8_readKin Q 42 [(0, .inr (.inr (some (2, 0)))), (1, .inr (.inr (some (10, j1))))] [.inl xs0] w bc bs := by
  refine am_ifne (tgt := 52) dX8_readKin_42 (by decide) (fun c1 => ?_) (fun c1 => ?_)
  · replace h := h.1 c1
    refine am_aload_n dX8_readKin_52 (List.Mem.head _) ?_
    refine am_dup dX8_readKin_53 rfl ?_
    refine am_getf (f := 9) (v := .inl (w.1 2 0 9)) dX8_readKin_54 hc_1 (by decide) wd_163 (by decide) rfl rfl ?_
    refine am_iconst dX8_readKin_57 (by unfold am_rg; omega) ?_
    refine am_iadd dX8_readKin_58 ?_
    refine am_putf (f := 9) dX8_readKin_59 hc_1 (by decide) wd_163 rfl (Or.inl rfl) (Or.inl (by decide)) rfl ?_
    refine am_aload_n dX8_readKin_62 (List.Mem.head _) ?_
    refine am_getf (f := 9) (v := .inl ((am_up w.1 2 0 9 (am_w ((w.1 2 0 9) + 1))) 2 0 9)) dX8_readKin_63 hc_1 (by decide) wd_163 (by decide) rfl rfl ?_
    refine am_aload_n dX8_readKin_66 (List.Mem.head _) ?_
    refine am_getf (f := 8) (v := .inl ((am_up w.1 2 0 9 (am_w ((w.1 2 0 9) + 1))) 2 0 8)) dX8_readKin_67 hc_1 (by decide) wd_162 (by decide) rfl rfl ?_
    refine am_icmpge (tgt := 86) dX8_readKin_70 (by decide) (fun c2 => ?_) (fun c2 => ?_)
    · replace h := h.1 c2
      exact am_sub [0] rfl h
    · replace h := h.2 c2
      refine am_aload_n dX8_readKin_73 (List.Mem.head _) ?_
      refine am_aload_n dX8_readKin_74 (List.Mem.head _) ?_
      refine am_getf (f := 9) (v := .inl ((am_up w.1 2 0 9 (am_w ((w.1 2 0 9) + 1))) 2 0 9)) dX8_readKin_75 hc_1 (by decide) wd_163 (by decide) rfl rfl ?_
      exact am_callv (d' := d) (kc := 0) (ks := 0) (as := [.inl ((am_up w.1 2 0 9 (am_w ((w.1 2 0 9) + 1))) 2 0 9)]) dX8_readKin_78 wc_X8_codeAt wd_791 wd_793 wd_7 wd_113 ds_X8_codeAt (by decide) (Nat.le_refl _) (Nat.le_of_ble_eq_true rfl) (Nat.zero_le _) (Nat.zero_le _) hc_1 (by decide) rfl rfl h
  · replace h := h.2 c1
    refine am_aload_n dX8_readKin_45 (List.Mem.head _) ?_
    refine am_bipush dX8_readKin_46 (by decide) (by unfold am_rg; omega) ?_
    exact am_callv (d' := d) (kc := 0) (ks := 0) (as := [.inl 6]) dX8_readKin_48 wc_X8_fail wd_787 wd_789 wd_6 wd_113 ds_X8_fail (by decide) (Nat.le_refl _) (Nat.le_of_ble_eq_true rfl) (Nat.zero_le _) (Nat.zero_le _) hc_1 (by decide) rfl rfl h
theorem bX8_readKin_86 {SC : Nat → Nat} {X : mh_X} {d : Nat} {Q : Option am_V → am_W → Prop} {bc bs : Nat} {w : am_W} 
    (h : am_M (mh_G X) SC d 0 0 mX8_codeAt [.inr (.inr (some (2, 0))), .inl (w.1 2 0 9)] w (fun r w1 => am_A (mh_G X) SC (d + 1) mX8_readKin Q 94 [(0, .inr (.inr (some (2, 0))))] (r.toList ++ []) w1 bc bs)) :
    am_A (mh_G X) SC (d + 1) mX8_readKin Q 86 [(0, .inr (.inr (some (2, 0))))] [] w bc bs := by
  refine am_aload_n dX8_readKin_86 (List.Mem.head _) ?_
  refine am_aload_n dX8_readKin_87 (List.Mem.head _) ?_
  refine am_getf (f := 9) (v := .inl (w.1 2 0 9)) dX8_readKin_88 hc_1 (by decide) wd_163 (by decide) rfl rfl ?_
  exact am_callv (d' := d) (kc := 0) (ks := 0) (as := [.inl (w.1 2 0 9)]) dX8_readKin_91 wc_X8_codeAt wd_791 wd_793 wd_7 wd_113 ds_X8_codeAt (by decide) (Nat.le_refl _) (Nat.le_of_ble_eq_true rfl) (Nat.zero_le _) (Nat.zero_le _) hc_1 (by decide) rfl rfl h
theorem bX8_readKin_81 {SC : Nat → Nat} {X : mh_X} {d : Nat} {Q : Option am_V → am_W → Prop} {bc bs : Nat} {w : am_W} {j1 : Nat} {xs0 : Int}
    (h : ((xs0 = 31 → am_A (mh_G X) SC (d + 1) mX8_readKin Q 0 [(0, .inr (.inr (some (2, 0)))), (1, .inr (.inr (some (10, j1))))] [] w bc bs) ∧ (¬ xs0 = 31 → am_A (mh_G X) SC (d + 1) mX8_readKin Q 86 [(0, .inr (.inr (some (2, 0))))] [] w bc bs))) :
    am_A (mh_G X) SC (d + 1) mX8_readKin Q 81 [(0, .inr (.inr (some (2, 0)))), (1, .inr (.inr (some (10, j1))))] [.inl xs0] w bc bs := by
  refine am_bipush dX8_readKin_81 (by decide) (by unfold am_rg; omega) ?_
  refine am_icmpeq (tgt := 0) dX8_readKin_83 (by decide) (fun c1 => ?_) (fun c1 => ?_)
  · replace h := h.1 c1
    exact h
  · replace h := h.2 c1
    exact am_sub [0] rfl h
theorem bX8_readKin_51 {SC : Nat → Nat} {X : mh_X} {d : Nat} {Q : Option am_V → am_W → Prop} {bc bs : Nat} {w : am_W} {j1 : Nat} {xs0 : Int}
    (h : ((xs0 = 0 ∨ xs0 = 1) ∧ Q (some (.inl xs0)) w)) :
    am_A (mh_G X) SC (d + 1) mX8_readKin Q 51 [(0, .inr (.inr (some (2, 0)))), (1, .inr (.inr (some (10, j1))))] [.inl xs0] w bc bs := by
  have o1 := h.1
  replace h := h.2
  exact am_ret (r := some (.inl xs0)) dX8_readKin_51 (Or.inr (Or.inl ⟨rfl, o1⟩)) rfl h
theorem bX8_readKin_94 {SC : Nat → Nat} {X : mh_X} {d : Nat} {Q : Option am_V → am_W → Prop} {bc bs : Nat} {w : am_W} {xs0 : Int}
    (h : ((xs0 = 42 → Q (some (.inl 1)) w) ∧ (¬ xs0 = 42 → am_M (mh_G X) SC d 0 0 mX8_fail [.inr (.inr (some (2, 0))), .inl 2] w (fun r w1 => am_A (mh_G X) SC (d + 1) mX8_readKin Q 104 [(0, .inr (.inr (some (2, 0))))] (r.toList ++ []) w1 bc bs)))) :
    am_A (mh_G X) SC (d + 1) mX8_readKin Q 94 [(0, .inr (.inr (some (2, 0))))] [.inl xs0] w bc bs := by
  refine am_bipush dX8_readKin_94 (by decide) (by unfold am_rg; omega) ?_
  refine am_icmpeq (tgt := 107) dX8_readKin_96 (by decide) (fun c1 => ?_) (fun c1 => ?_)
  · replace h := h.1 c1
    refine am_iconst dX8_readKin_107 (by unfold am_rg; omega) ?_
    refine am_goto (tgt := 112) dX8_readKin_108 (by decide) ?_
    exact am_ret (r := some (.inl 1)) dX8_readKin_112 (Or.inr (Or.inl ⟨rfl, (Or.inr rfl)⟩)) rfl h
  · replace h := h.2 c1
    refine am_aload_n dX8_readKin_99 (List.Mem.head _) ?_
    refine am_iconst dX8_readKin_100 (by unfold am_rg; omega) ?_
    exact am_callv (d' := d) (kc := 0) (ks := 0) (as := [.inl 2]) dX8_readKin_101 wc_X8_fail wd_787 wd_789 wd_6 wd_113 ds_X8_fail (by decide) (Nat.le_refl _) (Nat.le_of_ble_eq_true rfl) (Nat.zero_le _) (Nat.zero_le _) hc_1 (by decide) rfl rfl h
theorem bX8_readKin_104 {SC : Nat → Nat} {X : mh_X} {d : Nat} {Q : Option am_V → am_W → Prop} {bc bs : Nat} {w : am_W} {xs0 : Int}
    (h : ((xs0 = 0 → Q (some (.inl 0)) w) ∧ (¬ xs0 = 0 → Q (some (.inl 1)) w))) :
    am_A (mh_G X) SC (d + 1) mX8_readKin Q 104 [(0, .inr (.inr (some (2, 0))))] [.inl xs0] w bc bs := by
  refine am_ifeq (tgt := 111) dX8_readKin_104 (by decide) (fun c1 => ?_) (fun c1 => ?_)
  · replace h := h.1 c1
    refine am_iconst dX8_readKin_111 (by unfold am_rg; omega) ?_
    exact am_ret (r := some (.inl 0)) dX8_readKin_112 (Or.inr (Or.inl ⟨rfl, (Or.inl rfl)⟩)) rfl h
  · replace h := h.2 c1
    refine am_iconst dX8_readKin_107 (by unfold am_rg; omega) ?_
    refine am_goto (tgt := 112) dX8_readKin_108 (by decide) ?_
    exact am_ret (r := some (.inl 1)) dX8_readKin_112 (Or.inr (Or.inl ⟨rfl, (Or.inr rfl)⟩)) rfl h
-- MourningHouse$Reader.readParts(LMourningHouse$Law;)Z
theorem dX8_readParts_0 : decode mX8_readParts.2.1 0 = .ok (.aload_n 0, 1) := by decide +kernel
theorem dX8_readParts_1 : decode mX8_readParts.2.1 1 = .ok (.dup, 1) := by decide +kernel
theorem dX8_readParts_2 : decode mX8_readParts.2.1 2 = .ok (.getfield 39, 3) := by decide +kernel
theorem dX8_readParts_5 : decode mX8_readParts.2.1 5 = .ok (.iconst 1, 1) := by decide +kernel
theorem dX8_readParts_6 : decode mX8_readParts.2.1 6 = .ok (.iadd, 1) := by decide +kernel
theorem dX8_readParts_7 : decode mX8_readParts.2.1 7 = .ok (.putfield 39, 3) := by decide +kernel
theorem dX8_readParts_10 : decode mX8_readParts.2.1 10 = .ok (.aload_n 0, 1) := by decide +kernel
theorem dX8_readParts_11 : decode mX8_readParts.2.1 11 = .ok (.aload_n 1, 1) := by decide +kernel
theorem dX8_readParts_12 : decode mX8_readParts.2.1 12 = .ok (.invokevirtual 154, 3) := by decide +kernel
theorem dX8_readParts_15 : decode mX8_readParts.2.1 15 = .ok (.ifCond .ne 5, 3) := by decide +kernel
theorem dX8_readParts_18 : decode mX8_readParts.2.1 18 = .ok (.iconst 0, 1) := by decide +kernel
theorem dX8_readParts_19 : decode mX8_readParts.2.1 19 = .ok (.ireturn, 1) := by decide +kernel
theorem dX8_readParts_20 : decode mX8_readParts.2.1 20 = .ok (.aload_n 0, 1) := by decide +kernel
theorem dX8_readParts_21 : decode mX8_readParts.2.1 21 = .ok (.getfield 39, 3) := by decide +kernel
theorem dX8_readParts_24 : decode mX8_readParts.2.1 24 = .ok (.aload_n 0, 1) := by decide +kernel
theorem dX8_readParts_25 : decode mX8_readParts.2.1 25 = .ok (.getfield 36, 3) := by decide +kernel
theorem dX8_readParts_28 : decode mX8_readParts.2.1 28 = .ok (.if_icmp .ge 16, 3) := by decide +kernel
theorem dX8_readParts_31 : decode mX8_readParts.2.1 31 = .ok (.aload_n 0, 1) := by decide +kernel
theorem dX8_readParts_32 : decode mX8_readParts.2.1 32 = .ok (.aload_n 0, 1) := by decide +kernel
theorem dX8_readParts_33 : decode mX8_readParts.2.1 33 = .ok (.getfield 39, 3) := by decide +kernel
theorem dX8_readParts_36 : decode mX8_readParts.2.1 36 = .ok (.invokevirtual 59, 3) := by decide +kernel
theorem dX8_readParts_39 : decode mX8_readParts.2.1 39 = .ok (.bipush 43, 2) := by decide +kernel
theorem dX8_readParts_41 : decode mX8_readParts.2.1 41 = .ok (.if_icmp .eq (-41), 3) := by decide +kernel
theorem dX8_readParts_44 : decode mX8_readParts.2.1 44 = .ok (.iconst 1, 1) := by decide +kernel
theorem dX8_readParts_45 : decode mX8_readParts.2.1 45 = .ok (.ireturn, 1) := by decide +kernel
theorem bX8_readParts_0 {SC : Nat → Nat} {X : mh_X} {d : Nat} {Q : Option am_V → am_W → Prop} {bc bs : Nat} {w : am_W} {j1 : Nat}
    (h : am_M (mh_G X) SC d 0 0 mX8_readPart [.inr (.inr (some (2, 0))), .inr (.inr (some (10, j1)))] ((am_up w.1 2 0 9 (am_w ((w.1 2 0 9) + 1))), w.2) (fun r w1 => am_A (mh_G X) SC (d + 1) mX8_readParts Q 15 [(0, .inr (.inr (some (2, 0)))), (1, .inr (.inr (some (10, j1))))] (r.toList ++ []) w1 bc bs)) :
    am_A (mh_G X) SC (d + 1) mX8_readParts Q 0 [(0, .inr (.inr (some (2, 0)))), (1, .inr (.inr (some (10, j1))))] [] w bc bs := by
  refine am_aload_n dX8_readParts_0 (List.Mem.head _) ?_
  refine am_dup dX8_readParts_1 rfl ?_
  refine am_getf (f := 9) (v := .inl (w.1 2 0 9)) dX8_readParts_2 hc_1 (by decide) wd_163 (by decide) rfl rfl ?_
  refine am_iconst dX8_readParts_5 (by unfold am_rg; omega) ?_
  refine am_iadd dX8_readParts_6 ?_
  refine am_putf (f := 9) dX8_readParts_7 hc_1 (by decide) wd_163 rfl (Or.inl rfl) (Or.inl (by decide)) rfl ?_
  refine am_aload_n dX8_readParts_10 (List.Mem.head _) ?_
  refine am_aload_n dX8_readParts_11 (List.Mem.tail _ (List.Mem.head _)) ?_
  exact am_callv (d' := d) (kc := 0) (ks := 0) (as := [.inr (.inr (some (10, j1)))]) dX8_readParts_12 wc_X8_readPart wd_822 wd_824 wd_11 wd_113 ds_X8_readPart (by decide) (Nat.le_refl _) (Nat.le_of_ble_eq_true rfl) (Nat.zero_le _) (Nat.zero_le _) hc_1 (by decide) rfl rfl h
theorem bX8_readParts_15 {SC : Nat → Nat} {X : mh_X} {d : Nat} {Q : Option am_V → am_W → Prop} {bc bs : Nat} {w : am_W} {j1 : Nat} {xs0 : Int}
    (h : ((¬ xs0 = 0 → (((w.1 2 0 8) ≤ (w.1 2 0 9) → Q (some (.inl 1)) w) ∧ (¬ (w.1 2 0 8) ≤ (w.1 2 0 9) → am_M (mh_G X) SC d 0 0 mX8_codeAt [.inr (.inr (some (2, 0))), .inl (w.1 2 0 9)] w (fun r w1 => am_A (mh_G X) SC (d + 1) mX8_readParts Q 39 [(0, .inr (.inr (some (2, 0)))), (1, .inr (.inr (some (10, j1))))] (r.toList ++ []) w1 bc bs)))) ∧ (xs0 = 0 → Q (some (.inl 0)) w))) :
    am_A (mh_G X) SC (d + 1) mX8_readParts Q 15 [(0, .inr (.inr (some (2, 0)))), (1, .inr (.inr (some (10, j1))))] [.inl xs0] w bc bs := by
  refine am_ifne (tgt := 20) dX8_readParts_15 (by decide) (fun c1 => ?_) (fun c1 => ?_)
  · replace h := h.1 c1
    refine am_aload_n dX8_readParts_20 (List.Mem.head _) ?_
    refine am_getf (f := 9) (v := .inl (w.1 2 0 9)) dX8_readParts_21 hc_1 (by decide) wd_163 (by decide) rfl rfl ?_
    refine am_aload_n dX8_readParts_24 (List.Mem.head _) ?_
    refine am_getf (f := 8) (v := .inl (w.1 2 0 8)) dX8_readParts_25 hc_1 (by decide) wd_162 (by decide) rfl rfl ?_
    refine am_icmpge (tgt := 44) dX8_readParts_28 (by decide) (fun c2 => ?_) (fun c2 => ?_)
    · replace h := h.1 c2
      refine am_iconst dX8_readParts_44 (by unfold am_rg; omega) ?_
      exact am_ret (r := some (.inl 1)) dX8_readParts_45 (Or.inr (Or.inl ⟨rfl, (Or.inr rfl)⟩)) rfl h
    · replace h := h.2 c2
      refine am_aload_n dX8_readParts_31 (List.Mem.head _) ?_
      refine am_aload_n dX8_readParts_32 (List.Mem.head _) ?_
      refine am_getf (f := 9) (v := .inl (w.1 2 0 9)) dX8_readParts_33 hc_1 (by decide) wd_163 (by decide) rfl rfl ?_
      exact am_callv (d' := d) (kc := 0) (ks := 0) (as := [.inl (w.1 2 0 9)]) dX8_readParts_36 wc_X8_codeAt wd_791 wd_793 wd_7 wd_113 ds_X8_codeAt (by decide) (Nat.le_refl _) (Nat.le_of_ble_eq_true rfl) (Nat.zero_le _) (Nat.zero_le _) hc_1 (by decide) rfl rfl h
  · replace h := h.2 c1
    refine am_iconst dX8_readParts_18 (by unfold am_rg; omega) ?_
    exact am_ret (r := some (.inl 0)) dX8_readParts_19 (Or.inr (Or.inl ⟨rfl, (Or.inl rfl)⟩)) rfl h
theorem bX8_readParts_39 {SC : Nat → Nat} {X : mh_X} {d : Nat} {Q : Option am_V → am_W → Prop} {bc bs : Nat} {w : am_W} {j1 : Nat} {xs0 : Int}
    (h : ((xs0 = 43 → am_A (mh_G X) SC (d + 1) mX8_readParts Q 0 [(0, .inr (.inr (some (2, 0)))), (1, .inr (.inr (some (10, j1))))] [] w bc bs) ∧ (¬ xs0 = 43 → Q (some (.inl 1)) w))) :
    am_A (mh_G X) SC (d + 1) mX8_readParts Q 39 [(0, .inr (.inr (some (2, 0)))), (1, .inr (.inr (some (10, j1))))] [.inl xs0] w bc bs := by
  refine am_bipush dX8_readParts_39 (by decide) (by unfold am_rg; omega) ?_
  refine am_icmpeq (tgt := 0) dX8_readParts_41 (by decide) (fun c1 => ?_) (fun c1 => ?_)
  · replace h := h.1 c1
    exact h
  · replace h := h.2 c1
    refine am_iconst dX8_readParts_44 (by unfold am_rg; omega) ?_
    exact am_ret (r := some (.inl 1)) dX8_readParts_45 (Or.inr (Or.inl ⟨rfl, (Or.inr rfl)⟩)) rfl h
-- MourningHouse$Reader.readPart(LMourningHouse$Law;)Z
theorem dX8_readPart_0 : decode mX8_readPart.2.1 0 = .ok (.aload_n 0, 1) := by decide +kernel
theorem dX8_readPart_1 : decode mX8_readPart.2.1 1 = .ok (.getfield 39, 3) := by decide +kernel
theorem dX8_readPart_4 : decode mX8_readPart.2.1 4 = .ok (.istore_n 2, 1) := by decide +kernel
theorem dX8_readPart_5 : decode mX8_readPart.2.1 5 = .ok (.aload_n 0, 1) := by decide +kernel
theorem dX8_readPart_6 : decode mX8_readPart.2.1 6 = .ok (.iload_n 2, 1) := by decide +kernel
theorem dX8_readPart_7 : decode mX8_readPart.2.1 7 = .ok (.invokevirtual 59, 3) := by decide +kernel
theorem dX8_readPart_10 : decode mX8_readPart.2.1 10 = .ok (.invokestatic 157, 3) := by decide +kernel
theorem dX8_readPart_13 : decode mX8_readPart.2.1 13 = .ok (.ifCond .ne 9, 3) := by decide +kernel
theorem dX8_readPart_16 : decode mX8_readPart.2.1 16 = .ok (.aload_n 0, 1) := by decide +kernel
theorem dX8_readPart_17 : decode mX8_readPart.2.1 17 = .ok (.iconst 2, 1) := by decide +kernel
theorem dX8_readPart_18 : decode mX8_readPart.2.1 18 = .ok (.invokevirtual 55, 3) := by decide +kernel
theorem dX8_readPart_21 : decode mX8_readPart.2.1 21 = .ok (.ireturn, 1) := by decide +kernel
theorem dX8_readPart_22 : decode mX8_readPart.2.1 22 = .ok (.aload_n 1, 1) := by decide +kernel
theorem dX8_readPart_23 : decode mX8_readPart.2.1 23 = .ok (.invokevirtual 160, 3) := by decide +kernel
theorem dX8_readPart_26 : decode mX8_readPart.2.1 26 = .ok (.ifCond .ne 10, 3) := by decide +kernel
theorem dX8_readPart_29 : decode mX8_readPart.2.1 29 = .ok (.aload_n 0, 1) := by decide +kernel
theorem dX8_readPart_30 : decode mX8_readPart.2.1 30 = .ok (.bipush 6, 2) := by decide +kernel
theorem dX8_readPart_32 : decode mX8_readPart.2.1 32 = .ok (.invokevirtual 55, 3) := by decide +kernel
theorem dX8_readPart_35 : decode mX8_readPart.2.1 35 = .ok (.ireturn, 1) := by decide +kernel
theorem dX8_readPart_36 : decode mX8_readPart.2.1 36 = .ok (.aload_n 1, 1) := by decide +kernel
theorem dX8_readPart_37 : decode mX8_readPart.2.1 37 = .ok (.aload_n 0, 1) := by decide +kernel
theorem dX8_readPart_38 : decode mX8_readPart.2.1 38 = .ok (.iload_n 2, 1) := by decide +kernel
theorem dX8_readPart_39 : decode mX8_readPart.2.1 39 = .ok (.invokevirtual 163, 3) := by decide +kernel
theorem dX8_readPart_42 : decode mX8_readPart.2.1 42 = .ok (.invokevirtual 166, 3) := by decide +kernel
theorem dX8_readPart_45 : decode mX8_readPart.2.1 45 = .ok (.ifCond .ne 9, 3) := by decide +kernel
theorem dX8_readPart_48 : decode mX8_readPart.2.1 48 = .ok (.aload_n 0, 1) := by decide +kernel
theorem dX8_readPart_49 : decode mX8_readPart.2.1 49 = .ok (.iconst 4, 1) := by decide +kernel
theorem dX8_readPart_50 : decode mX8_readPart.2.1 50 = .ok (.invokevirtual 55, 3) := by decide +kernel
theorem dX8_readPart_53 : decode mX8_readPart.2.1 53 = .ok (.ireturn, 1) := by decide +kernel
theorem dX8_readPart_54 : decode mX8_readPart.2.1 54 = .ok (.aload_n 0, 1) := by decide +kernel
theorem dX8_readPart_55 : decode mX8_readPart.2.1 55 = .ok (.dup, 1) := by decide +kernel
theorem dX8_readPart_56 : decode mX8_readPart.2.1 56 = .ok (.getfield 39, 3) := by decide +kernel
theorem dX8_readPart_59 : decode mX8_readPart.2.1 59 = .ok (.iconst 1, 1) := by decide +kernel
theorem dX8_readPart_60 : decode mX8_readPart.2.1 60 = .ok (.iadd, 1) := by decide +kernel
theorem dX8_readPart_61 : decode mX8_readPart.2.1 61 = .ok (.putfield 39, 3) := by decide +kernel
theorem dX8_readPart_64 : decode mX8_readPart.2.1 64 = .ok (.aload_n 0, 1) := by decide +kernel
theorem dX8_readPart_65 : decode mX8_readPart.2.1 65 = .ok (.iconst 1, 1) := by decide +kernel
theorem dX8_readPart_66 : decode mX8_readPart.2.1 66 = .ok (.sipush 999, 3) := by decide +kernel
theorem dX8_readPart_69 : decode mX8_readPart.2.1 69 = .ok (.invokevirtual 169, 3) := by decide +kernel
theorem dX8_readPart_72 : decode mX8_readPart.2.1 72 = .ok (.ifCond .ne 5, 3) := by decide +kernel
theorem dX8_readPart_75 : decode mX8_readPart.2.1 75 = .ok (.iconst 0, 1) := by decide +kernel
theorem dX8_readPart_76 : decode mX8_readPart.2.1 76 = .ok (.ireturn, 1) := by decide +kernel
theorem dX8_readPart_77 : decode mX8_readPart.2.1 77 = .ok (.aload_n 0, 1) := by decide +kernel
theorem dX8_readPart_78 : decode mX8_readPart.2.1 78 = .ok (.aload_n 0, 1) := by decide +kernel
theorem dX8_readPart_79 : decode mX8_readPart.2.1 79 = .ok (.getfield 39, 3) := by decide +kernel
theorem dX8_readPart_82 : decode mX8_readPart.2.1 82 = .ok (.invokevirtual 59, 3) := by decide +kernel
theorem dX8_readPart_85 : decode mX8_readPart.2.1 85 = .ok (.invokestatic 172, 3) := by decide +kernel
theorem dX8_readPart_88 : decode mX8_readPart.2.1 88 = .ok (.ifCond .ne 9, 3) := by decide +kernel
theorem dX8_readPart_91 : decode mX8_readPart.2.1 91 = .ok (.aload_n 0, 1) := by decide +kernel
theorem dX8_readPart_92 : decode mX8_readPart.2.1 92 = .ok (.iconst 2, 1) := by decide +kernel
theorem dX8_readPart_93 : decode mX8_readPart.2.1 93 = .ok (.invokevirtual 55, 3) := by decide +kernel
theorem dX8_readPart_96 : decode mX8_readPart.2.1 96 = .ok (.ireturn, 1) := by decide +kernel
theorem dX8_readPart_97 : decode mX8_readPart.2.1 97 = .ok (.aload_n 1, 1) := by decide +kernel
theorem dX8_readPart_98 : decode mX8_readPart.2.1 98 = .ok (.aload_n 0, 1) := by decide +kernel
theorem dX8_readPart_99 : decode mX8_readPart.2.1 99 = .ok (.iload_n 2, 1) := by decide +kernel
theorem dX8_readPart_100 : decode mX8_readPart.2.1 100 = .ok (.invokevirtual 163, 3) := by decide +kernel
theorem dX8_readPart_103 : decode mX8_readPart.2.1 103 = .ok (.aload_n 0, 1) := by decide +kernel
theorem dX8_readPart_104 : decode mX8_readPart.2.1 104 = .ok (.getfield 17, 3) := by decide +kernel
theorem dX8_readPart_107 : decode mX8_readPart.2.1 107 = .ok (.iload_n 2, 1) := by decide +kernel
theorem dX8_readPart_108 : decode mX8_readPart.2.1 108 = .ok (.iconst 1, 1) := by decide +kernel
theorem dX8_readPart_109 : decode mX8_readPart.2.1 109 = .ok (.iadd, 1) := by decide +kernel
theorem dX8_readPart_110 : decode mX8_readPart.2.1 110 = .ok (.iaload, 1) := by decide +kernel
theorem dX8_readPart_111 : decode mX8_readPart.2.1 111 = .ok (.aload_n 0, 1) := by decide +kernel
theorem dX8_readPart_112 : decode mX8_readPart.2.1 112 = .ok (.aload_n 0, 1) := by decide +kernel
theorem dX8_readPart_113 : decode mX8_readPart.2.1 113 = .ok (.getfield 39, 3) := by decide +kernel
theorem dX8_readPart_116 : decode mX8_readPart.2.1 116 = .ok (.invokevirtual 59, 3) := by decide +kernel
theorem dX8_readPart_119 : decode mX8_readPart.2.1 119 = .ok (.invokevirtual 175, 3) := by decide +kernel
theorem dX8_readPart_122 : decode mX8_readPart.2.1 122 = .ok (.aload_n 0, 1) := by decide +kernel
theorem dX8_readPart_123 : decode mX8_readPart.2.1 123 = .ok (.dup, 1) := by decide +kernel
theorem dX8_readPart_124 : decode mX8_readPart.2.1 124 = .ok (.getfield 39, 3) := by decide +kernel
theorem dX8_readPart_127 : decode mX8_readPart.2.1 127 = .ok (.iconst 1, 1) := by decide +kernel
theorem dX8_readPart_128 : decode mX8_readPart.2.1 128 = .ok (.iadd, 1) := by decide +kernel
theorem dX8_readPart_129 : decode mX8_readPart.2.1 129 = .ok (.putfield 39, 3) := by decide +kernel
theorem dX8_readPart_132 : decode mX8_readPart.2.1 132 = .ok (.iconst 1, 1) := by decide +kernel
theorem dX8_readPart_133 : decode mX8_readPart.2.1 133 = .ok (.ireturn, 1) := by decide +kernel
theorem bX8_readPart_0 {SC : Nat → Nat} {X : mh_X} {d : Nat} {Q : Option am_V → am_W → Prop} {bc bs : Nat} {w : am_W} {j1 : Nat}
    (h : am_M (mh_G X) SC d 0 0 mX8_codeAt [.inr (.inr (some (2, 0))), .inl (w.1 2 0 9)] w (fun r w1 => am_A (mh_G X) SC (d + 1) mX8_readPart Q 10 [(2, .inl (w.1 2 0 9)), (0, .inr (.inr (some (2, 0)))), (1, .inr (.inr (some (10, j1))))] (r.toList ++ []) w1 bc bs)) :
    am_A (mh_G X) SC (d + 1) mX8_readPart Q 0 [(0, .inr (.inr (some (2, 0)))), (1, .inr (.inr (some (10, j1))))] [] w bc bs := by
  refine am_aload_n dX8_readPart_0 (List.Mem.head _) ?_
  refine am_getf (f := 9) (v := .inl (w.1 2 0 9)) dX8_readPart_1 hc_1 (by decide) wd_163 (by decide) rfl rfl ?_
  refine am_istore_n (ls' := [(2, .inl (w.1 2 0 9)), (0, .inr (.inr (some (2, 0)))), (1, .inr (.inr (some (10, j1))))]) dX8_readPart_4 (by decide) rfl ?_
  refine am_aload_n dX8_readPart_5 (List.Mem.tail _ (List.Mem.head _)) ?_
  refine am_iload_n dX8_readPart_6 (List.Mem.head _) ?_
  exact am_callv (d' := d) (kc := 0) (ks := 0) (as := [.inl (w.1 2 0 9)]) dX8_readPart_7 wc_X8_codeAt wd_791 wd_793 wd_7 wd_113 ds_X8_codeAt (by decide) (Nat.le_refl _) (Nat.le_of_ble_eq_true rfl) (Nat.zero_le _) (Nat.zero_le _) hc_1 (by decide) rfl rfl h
theorem bX8_readPart_10 {SC : Nat → Nat} {X : mh_X} {d : Nat} {Q : Option am_V → am_W → Prop} {bc bs : Nat} {w : am_W} {x2 : Int} {j1 : Nat} {xs0 : Int}
    (h : am_M (mh_G X) SC d 0 0 mX10_isMourning [.inl xs0] w (fun r w1 => am_A (mh_G X) SC (d + 1) mX8_readPart Q 13 [(2, .inl x2), (0, .inr (.inr (some (2, 0)))), (1, .inr (.inr (some (10, j1))))] (r.toList ++ []) w1 bc bs)) :
    am_A (mh_G X) SC (d + 1) mX8_readPart Q 10 [(2, .inl x2), (0, .inr (.inr (some (2, 0)))), (1, .inr (.inr (some (10, j1))))] [.inl xs0] w bc bs := by
  exact am_calls (d' := d) (kc := 0) (ks := 0) (as := [.inl xs0]) dX8_readPart_10 wc_X10_isMourning wd_826 wd_827 wd_123 ds_X10_isMourning (by decide) (Nat.le_refl _) (Nat.le_of_ble_eq_true rfl) (Nat.zero_le _) (Nat.zero_le _) rfl h
theorem bX8_readPart_13 {SC : Nat → Nat} {X : mh_X} {d : Nat} {Q : Option am_V → am_W → Prop} {bc bs : Nat} {w : am_W} {x2 : Int} {j1 : Nat} {xs0 : Int}
    (h : ((¬ xs0 = 0 → am_M (mh_G X) SC d 0 0 mX3_hasRoomForPart [.inr (.inr (some (10, j1)))] w (fun r w1 => am_A (mh_G X) SC (d + 1) mX8_readPart Q 26 [(2, .inl x2), (0, .inr (.inr (some (2, 0)))), (1, .inr (.inr (some (10, j1))))] (r.toList ++ []) w1 bc bs)) ∧ (xs0 = 0 → am_M (mh_G X) SC d 0 0 mX8_fail [.inr (.inr (some (2, 0))), .inl 2] w (fun r w1 => am_A (mh_G X) SC (d + 1) mX8_readPart Q 21 [(2, .inl x2), (0, .inr (.inr (some (2, 0)))), (1, .inr (.inr (some (10, j1))))] (r.toList ++ []) w1 bc bs)))) :
    am_A (mh_G X) SC (d + 1) mX8_readPart Q 13 [(2, .inl x2), (0, .inr (.inr (some (2, 0)))), (1, .inr (.inr (some (10, j1))))] [.inl xs0] w bc bs := by
  refine am_ifne (tgt := 22) dX8_readPart_13 (by decide) (fun c1 => ?_) (fun c1 => ?_)
  · replace h := h.1 c1
    refine am_aload_n dX8_readPart_22 (List.Mem.tail _ (List.Mem.tail _ (List.Mem.head _))) ?_
    exact am_callv (d' := d) (kc := 0) (ks := 0) (as := []) dX8_readPart_23 wc_X3_hasRoomForPart wd_829 wd_830 wd_831 wd_116 ds_X3_hasRoomForPart (by decide) (Nat.le_refl _) (Nat.le_of_ble_eq_true rfl) (Nat.zero_le _) (Nat.zero_le _) hc_4 (by decide) rfl rfl h
  · replace h := h.2 c1
    refine am_aload_n dX8_readPart_16 (List.Mem.tail _ (List.Mem.head _)) ?_
    refine am_iconst dX8_readPart_17 (by unfold am_rg; omega) ?_
    exact am_callv (d' := d) (kc := 0) (ks := 0) (as := [.inl 2]) dX8_readPart_18 wc_X8_fail wd_787 wd_789 wd_6 wd_113 ds_X8_fail (by decide) (Nat.le_refl _) (Nat.le_of_ble_eq_true rfl) (Nat.zero_le _) (Nat.zero_le _) hc_1 (by decide) rfl rfl h
theorem bX8_readPart_26 {SC : Nat → Nat} {X : mh_X} {d : Nat} {Q : Option am_V → am_W → Prop} {bc bs : Nat} {w : am_W} {x2 : Int} {j1 : Nat} {xs0 : Int}
    (h : ((¬ xs0 = 0 → am_M (mh_G X) SC d 0 0 mX8_depthAt [.inr (.inr (some (2, 0))), .inl x2] w (fun r w1 => am_A (mh_G X) SC (d + 1) mX8_readPart Q 42 [(2, .inl x2), (0, .inr (.inr (some (2, 0)))), (1, .inr (.inr (some (10, j1))))] (r.toList ++ [.inr (.inr (some (10, j1)))]) w1 bc bs)) ∧ (xs0 = 0 → am_M (mh_G X) SC d 0 0 mX8_fail [.inr (.inr (some (2, 0))), .inl 6] w (fun r w1 => am_A (mh_G X) SC (d + 1) mX8_readPart Q 35 [(2, .inl x2), (0, .inr (.inr (some (2, 0)))), (1, .inr (.inr (some (10, j1))))] (r.toList ++ []) w1 bc bs)))) :
    am_A (mh_G X) SC (d + 1) mX8_readPart Q 26 [(2, .inl x2), (0, .inr (.inr (some (2, 0)))), (1, .inr (.inr (some (10, j1))))] [.inl xs0] w bc bs := by
  refine am_ifne (tgt := 36) dX8_readPart_26 (by decide) (fun c1 => ?_) (fun c1 => ?_)
  · replace h := h.1 c1
    refine am_aload_n dX8_readPart_36 (List.Mem.tail _ (List.Mem.tail _ (List.Mem.head _))) ?_
    refine am_aload_n dX8_readPart_37 (List.Mem.tail _ (List.Mem.head _)) ?_
    refine am_iload_n dX8_readPart_38 (List.Mem.head _) ?_
    exact am_callv (d' := d) (kc := 0) (ks := 0) (as := [.inl x2]) dX8_readPart_39 wc_X8_depthAt wd_833 wd_835 wd_12 wd_113 ds_X8_depthAt (by decide) (Nat.le_refl _) (Nat.le_of_ble_eq_true rfl) (Nat.zero_le _) (Nat.zero_le _) hc_1 (by decide) rfl rfl h
  · replace h := h.2 c1
    refine am_aload_n dX8_readPart_29 (List.Mem.tail _ (List.Mem.head _)) ?_
    refine am_bipush dX8_readPart_30 (by decide) (by unfold am_rg; omega) ?_
    exact am_callv (d' := d) (kc := 0) (ks := 0) (as := [.inl 6]) dX8_readPart_32 wc_X8_fail wd_787 wd_789 wd_6 wd_113 ds_X8_fail (by decide) (Nat.le_refl _) (Nat.le_of_ble_eq_true rfl) (Nat.zero_le _) (Nat.zero_le _) hc_1 (by decide) rfl rfl h
theorem bX8_readPart_21 {SC : Nat → Nat} {X : mh_X} {d : Nat} {Q : Option am_V → am_W → Prop} {bc bs : Nat} {w : am_W} {x2 : Int} {j1 : Nat} {xs0 : Int}
    (h : ((xs0 = 0 ∨ xs0 = 1) ∧ Q (some (.inl xs0)) w)) :
    am_A (mh_G X) SC (d + 1) mX8_readPart Q 21 [(2, .inl x2), (0, .inr (.inr (some (2, 0)))), (1, .inr (.inr (some (10, j1))))] [.inl xs0] w bc bs := by
  have o1 := h.1
  replace h := h.2
  exact am_ret (r := some (.inl xs0)) dX8_readPart_21 (Or.inr (Or.inl ⟨rfl, o1⟩)) rfl h
theorem bX8_readPart_42 {SC : Nat → Nat} {X : mh_X} {d : Nat} {Q : Option am_V → am_W → Prop} {bc bs : Nat} {w : am_W} {x2 : Int} {j1 : Nat} {xs0 : Int} {js1 : Nat}
    (h : am_M (mh_G X) SC d 0 0 mX3_isLighter [.inr (.inr (some (10, js1))), .inl xs0] w (fun r w1 => am_A (mh_G X) SC (d + 1) mX8_readPart Q 45 [(2, .inl x2), (0, .inr (.inr (some (2, 0)))), (1, .inr (.inr (some (10, j1))))] (r.toList ++ []) w1 bc bs)) :
    am_A (mh_G X) SC (d + 1) mX8_readPart Q 42 [(2, .inl x2), (0, .inr (.inr (some (2, 0)))), (1, .inr (.inr (some (10, j1))))] [.inl xs0, .inr (.inr (some (10, js1)))] w bc bs := by
  exact am_callv (d' := d) (kc := 0) (ks := 0) (as := [.inl xs0]) dX8_readPart_42 wc_X3_isLighter wd_837 wd_838 wd_839 wd_116 ds_X3_isLighter (by decide) (Nat.le_refl _) (Nat.le_of_ble_eq_true rfl) (Nat.zero_le _) (Nat.zero_le _) hc_4 (by decide) rfl rfl h
theorem bX8_readPart_35 {SC : Nat → Nat} {X : mh_X} {d : Nat} {Q : Option am_V → am_W → Prop} {bc bs : Nat} {w : am_W} {x2 : Int} {j1 : Nat} {xs0 : Int}
    (h : ((xs0 = 0 ∨ xs0 = 1) ∧ Q (some (.inl xs0)) w)) :
    am_A (mh_G X) SC (d + 1) mX8_readPart Q 35 [(2, .inl x2), (0, .inr (.inr (some (2, 0)))), (1, .inr (.inr (some (10, j1))))] [.inl xs0] w bc bs := by
  have o1 := h.1
  replace h := h.2
  exact am_ret (r := some (.inl xs0)) dX8_readPart_35 (Or.inr (Or.inl ⟨rfl, o1⟩)) rfl h
theorem bX8_readPart_45 {SC : Nat → Nat} {X : mh_X} {d : Nat} {Q : Option am_V → am_W → Prop} {bc bs : Nat} {w : am_W} {x2 : Int} {j1 : Nat} {xs0 : Int}
    (h : ((¬ xs0 = 0 → am_M (mh_G X) SC d 0 0 mX8_expectNumber [.inr (.inr (some (2, 0))), .inl 1, .inl 999] ((am_up w.1 2 0 9 (am_w ((w.1 2 0 9) + 1))), w.2) (fun r w1 => am_A (mh_G X) SC (d + 1) mX8_readPart Q 72 [(2, .inl x2), (0, .inr (.inr (some (2, 0)))), (1, .inr (.inr (some (10, j1))))] (r.toList ++ []) w1 bc bs)) ∧ (xs0 = 0 → am_M (mh_G X) SC d 0 0 mX8_fail [.inr (.inr (some (2, 0))), .inl 4] w (fun r w1 => am_A (mh_G X) SC (d + 1) mX8_readPart Q 53 [(2, .inl x2), (0, .inr (.inr (some (2, 0)))), (1, .inr (.inr (some (10, j1))))] (r.toList ++ []) w1 bc bs)))) :
    am_A (mh_G X) SC (d + 1) mX8_readPart Q 45 [(2, .inl x2), (0, .inr (.inr (some (2, 0)))), (1, .inr (.inr (some (10, j1))))] [.inl xs0] w bc bs := by
  refine am_ifne (tgt := 54) dX8_readPart_45 (by decide) (fun c1 => ?_) (fun c1 => ?_)
  · replace h := h.1 c1
    refine am_aload_n dX8_readPart_54 (List.Mem.tail _ (List.Mem.head _)) ?_
    refine am_dup dX8_readPart_55 rfl ?_
    refine am_getf (f := 9) (v := .inl (w.1 2 0 9)) dX8_readPart_56 hc_1 (by decide) wd_163 (by decide) rfl rfl ?_
    refine am_iconst dX8_readPart_59 (by unfold am_rg; omega) ?_
    refine am_iadd dX8_readPart_60 ?_
    refine am_putf (f := 9) dX8_readPart_61 hc_1 (by decide) wd_163 rfl (Or.inl rfl) (Or.inl (by decide)) rfl ?_
    refine am_aload_n dX8_readPart_64 (List.Mem.tail _ (List.Mem.head _)) ?_
    refine am_iconst dX8_readPart_65 (by unfold am_rg; omega) ?_
    refine am_sipush dX8_readPart_66 (by decide) (by unfold am_rg; omega) ?_
    exact am_callv (d' := d) (kc := 0) (ks := 0) (as := [.inl 1, .inl 999]) dX8_readPart_69 wc_X8_expectNumber wd_841 wd_843 wd_13 wd_113 ds_X8_expectNumber (by decide) (Nat.le_refl _) (Nat.le_of_ble_eq_true rfl) (Nat.zero_le _) (Nat.zero_le _) hc_1 (by decide) rfl rfl h
  · replace h := h.2 c1
    refine am_aload_n dX8_readPart_48 (List.Mem.tail _ (List.Mem.head _)) ?_
    refine am_iconst dX8_readPart_49 (by unfold am_rg; omega) ?_
    exact am_callv (d' := d) (kc := 0) (ks := 0) (as := [.inl 4]) dX8_readPart_50 wc_X8_fail wd_787 wd_789 wd_6 wd_113 ds_X8_fail (by decide) (Nat.le_refl _) (Nat.le_of_ble_eq_true rfl) (Nat.zero_le _) (Nat.zero_le _) hc_1 (by decide) rfl rfl h
theorem bX8_readPart_72 {SC : Nat → Nat} {X : mh_X} {d : Nat} {Q : Option am_V → am_W → Prop} {bc bs : Nat} {w : am_W} {x2 : Int} {j1 : Nat} {xs0 : Int}
    (h : ((¬ xs0 = 0 → am_M (mh_G X) SC d 0 0 mX8_codeAt [.inr (.inr (some (2, 0))), .inl (w.1 2 0 9)] w (fun r w1 => am_A (mh_G X) SC (d + 1) mX8_readPart Q 85 [(2, .inl x2), (0, .inr (.inr (some (2, 0)))), (1, .inr (.inr (some (10, j1))))] (r.toList ++ []) w1 bc bs)) ∧ (xs0 = 0 → Q (some (.inl 0)) w))) :
    am_A (mh_G X) SC (d + 1) mX8_readPart Q 72 [(2, .inl x2), (0, .inr (.inr (some (2, 0)))), (1, .inr (.inr (some (10, j1))))] [.inl xs0] w bc bs := by
  refine am_ifne (tgt := 77) dX8_readPart_72 (by decide) (fun c1 => ?_) (fun c1 => ?_)
  · replace h := h.1 c1
    refine am_aload_n dX8_readPart_77 (List.Mem.tail _ (List.Mem.head _)) ?_
    refine am_aload_n dX8_readPart_78 (List.Mem.tail _ (List.Mem.head _)) ?_
    refine am_getf (f := 9) (v := .inl (w.1 2 0 9)) dX8_readPart_79 hc_1 (by decide) wd_163 (by decide) rfl rfl ?_
    exact am_callv (d' := d) (kc := 0) (ks := 0) (as := [.inl (w.1 2 0 9)]) dX8_readPart_82 wc_X8_codeAt wd_791 wd_793 wd_7 wd_113 ds_X8_codeAt (by decide) (Nat.le_refl _) (Nat.le_of_ble_eq_true rfl) (Nat.zero_le _) (Nat.zero_le _) hc_1 (by decide) rfl rfl h
  · replace h := h.2 c1
    refine am_iconst dX8_readPart_75 (by unfold am_rg; omega) ?_
    exact am_ret (r := some (.inl 0)) dX8_readPart_76 (Or.inr (Or.inl ⟨rfl, (Or.inl rfl)⟩)) rfl h
theorem bX8_readPart_53 {SC : Nat → Nat} {X : mh_X} {d : Nat} {Q : Option am_V → am_W → Prop} {bc bs : Nat} {w : am_W} {x2 : Int} {j1 : Nat} {xs0 : Int}
    (h : ((xs0 = 0 ∨ xs0 = 1) ∧ Q (some (.inl xs0)) w)) :
    am_A (mh_G X) SC (d + 1) mX8_readPart Q 53 [(2, .inl x2), (0, .inr (.inr (some (2, 0)))), (1, .inr (.inr (some (10, j1))))] [.inl xs0] w bc bs := by
  have o1 := h.1
  replace h := h.2
  exact am_ret (r := some (.inl xs0)) dX8_readPart_53 (Or.inr (Or.inl ⟨rfl, o1⟩)) rfl h
theorem bX8_readPart_85 {SC : Nat → Nat} {X : mh_X} {d : Nat} {Q : Option am_V → am_W → Prop} {bc bs : Nat} {w : am_W} {x2 : Int} {j1 : Nat} {xs0 : Int}
    (h : am_M (mh_G X) SC d 0 0 mX10_isUnit [.inl xs0] w (fun r w1 => am_A (mh_G X) SC (d + 1) mX8_readPart Q 88 [(2, .inl x2), (0, .inr (.inr (some (2, 0)))), (1, .inr (.inr (some (10, j1))))] (r.toList ++ []) w1 bc bs)) :
    am_A (mh_G X) SC (d + 1) mX8_readPart Q 85 [(2, .inl x2), (0, .inr (.inr (some (2, 0)))), (1, .inr (.inr (some (10, j1))))] [.inl xs0] w bc bs := by
  exact am_calls (d' := d) (kc := 0) (ks := 0) (as := [.inl xs0]) dX8_readPart_85 wc_X10_isUnit wd_849 wd_850 wd_123 ds_X10_isUnit (by decide) (Nat.le_refl _) (Nat.le_of_ble_eq_true rfl) (Nat.zero_le _) (Nat.zero_le _) rfl h
theorem bX8_readPart_88 {SC : Nat → Nat} {X : mh_X} {d : Nat} {Q : Option am_V → am_W → Prop} {bc bs : Nat} {w : am_W} {x2 : Int} {j1 : Nat} {xs0 : Int}
    (h : ((¬ xs0 = 0 → am_M (mh_G X) SC d 0 0 mX8_depthAt [.inr (.inr (some (2, 0))), .inl x2] w (fun r w1 => am_A (mh_G X) SC (d + 1) mX8_readPart Q 103 [(2, .inl x2), (0, .inr (.inr (some (2, 0)))), (1, .inr (.inr (some (10, j1))))] (r.toList ++ [.inr (.inr (some (10, j1)))]) w1 bc bs)) ∧ (xs0 = 0 → am_M (mh_G X) SC d 0 0 mX8_fail [.inr (.inr (some (2, 0))), .inl 2] w (fun r w1 => am_A (mh_G X) SC (d + 1) mX8_readPart Q 96 [(2, .inl x2), (0, .inr (.inr (some (2, 0)))), (1, .inr (.inr (some (10, j1))))] (r.toList ++ []) w1 bc bs)))) :
    am_A (mh_G X) SC (d + 1) mX8_readPart Q 88 [(2, .inl x2), (0, .inr (.inr (some (2, 0)))), (1, .inr (.inr (some (10, j1))))] [.inl xs0] w bc bs := by
  refine am_ifne (tgt := 97) dX8_readPart_88 (by decide) (fun c1 => ?_) (fun c1 => ?_)
  · replace h := h.1 c1
    refine am_aload_n dX8_readPart_97 (List.Mem.tail _ (List.Mem.tail _ (List.Mem.head _))) ?_
    refine am_aload_n dX8_readPart_98 (List.Mem.tail _ (List.Mem.head _)) ?_
    refine am_iload_n dX8_readPart_99 (List.Mem.head _) ?_
    exact am_callv (d' := d) (kc := 0) (ks := 0) (as := [.inl x2]) dX8_readPart_100 wc_X8_depthAt wd_833 wd_835 wd_12 wd_113 ds_X8_depthAt (by decide) (Nat.le_refl _) (Nat.le_of_ble_eq_true rfl) (Nat.zero_le _) (Nat.zero_le _) hc_1 (by decide) rfl rfl h
  · replace h := h.2 c1
    refine am_aload_n dX8_readPart_91 (List.Mem.tail _ (List.Mem.head _)) ?_
    refine am_iconst dX8_readPart_92 (by unfold am_rg; omega) ?_
    exact am_callv (d' := d) (kc := 0) (ks := 0) (as := [.inl 2]) dX8_readPart_93 wc_X8_fail wd_787 wd_789 wd_6 wd_113 ds_X8_fail (by decide) (Nat.le_refl _) (Nat.le_of_ble_eq_true rfl) (Nat.zero_le _) (Nat.zero_le _) hc_1 (by decide) rfl rfl h
theorem bX8_readPart_103 {SC : Nat → Nat} {X : mh_X} {d : Nat} {Q : Option am_V → am_W → Prop} {bc bs : Nat} {w : am_W} {x2 : Int} {j1 : Nat} {xs0 : Int} {js1 : Nat}
    (h : (0 ≤ (am_w (x2 + 1)) ∧ ((am_w (x2 + 1)) < 64 ∧ am_M (mh_G X) SC d 0 0 mX8_codeAt [.inr (.inr (some (2, 0))), .inl (w.1 2 0 9)] w (fun r w1 => am_A (mh_G X) SC (d + 1) mX8_readPart Q 119 [(2, .inl x2), (0, .inr (.inr (some (2, 0)))), (1, .inr (.inr (some (10, j1))))] (r.toList ++ [.inl (w.1 26 0 (am_w (x2 + 1)).toNat), .inl xs0, .inr (.inr (some (10, js1)))]) w1 bc bs)))) :
    am_A (mh_G X) SC (d + 1) mX8_readPart Q 103 [(2, .inl x2), (0, .inr (.inr (some (2, 0)))), (1, .inr (.inr (some (10, j1))))] [.inl xs0, .inr (.inr (some (10, js1)))] w bc bs := by
  refine am_aload_n dX8_readPart_103 (List.Mem.tail _ (List.Mem.head _)) ?_
  refine am_getf (f := 2) (v := .inr (.inr (some (26, 0)))) dX8_readPart_104 hc_1 (by decide) wd_152 (by decide) rfl rfl ?_
  refine am_iload_n dX8_readPart_107 (List.Mem.head _) ?_
  refine am_iconst dX8_readPart_108 (by unfold am_rg; omega) ?_
  refine am_iadd dX8_readPart_109 ?_
  have o1 := h.1
  replace h := h.2
  have o2 := h.1
  replace h := h.2
  refine am_iaload (v := (w.1 26 0 (am_w (x2 + 1)).toNat)) dX8_readPart_110 (by decide) rfl o1 o2 rfl ?_
  refine am_aload_n dX8_readPart_111 (List.Mem.tail _ (List.Mem.head _)) ?_
  refine am_aload_n dX8_readPart_112 (List.Mem.tail _ (List.Mem.head _)) ?_
  refine am_getf (f := 9) (v := .inl (w.1 2 0 9)) dX8_readPart_113 hc_1 (by decide) wd_163 (by decide) rfl rfl ?_
  exact am_callv (d' := d) (kc := 0) (ks := 0) (as := [.inl (w.1 2 0 9)]) dX8_readPart_116 wc_X8_codeAt wd_791 wd_793 wd_7 wd_113 ds_X8_codeAt (by decide) (Nat.le_refl _) (Nat.le_of_ble_eq_true rfl) (Nat.zero_le _) (Nat.zero_le _) hc_1 (by decide) rfl rfl h
theorem bX8_readPart_96 {SC : Nat → Nat} {X : mh_X} {d : Nat} {Q : Option am_V → am_W → Prop} {bc bs : Nat} {w : am_W} {x2 : Int} {j1 : Nat} {xs0 : Int}
    (h : ((xs0 = 0 ∨ xs0 = 1) ∧ Q (some (.inl xs0)) w)) :
    am_A (mh_G X) SC (d + 1) mX8_readPart Q 96 [(2, .inl x2), (0, .inr (.inr (some (2, 0)))), (1, .inr (.inr (some (10, j1))))] [.inl xs0] w bc bs := by
  have o1 := h.1
  replace h := h.2
  exact am_ret (r := some (.inl xs0)) dX8_readPart_96 (Or.inr (Or.inl ⟨rfl, o1⟩)) rfl h
theorem bX8_readPart_119 {SC : Nat → Nat} {X : mh_X} {d : Nat} {Q : Option am_V → am_W → Prop} {bc bs : Nat} {w : am_W} {x2 : Int} {j1 : Nat} {xs0 : Int} {xs1 : Int} {xs2 : Int} {js3 : Nat}
    (h : am_M (mh_G X) SC d 0 0 mX3_addPart [.inr (.inr (some (10, js3))), .inl xs2, .inl xs1, .inl xs0] w (fun r w1 => am_A (mh_G X) SC (d + 1) mX8_readPart Q 122 [(2, .inl x2), (0, .inr (.inr (some (2, 0)))), (1, .inr (.inr (some (10, j1))))] (r.toList ++ []) w1 bc bs)) :
    am_A (mh_G X) SC (d + 1) mX8_readPart Q 119 [(2, .inl x2), (0, .inr (.inr (some (2, 0)))), (1, .inr (.inr (some (10, j1))))] [.inl xs0, .inl xs1, .inl xs2, .inr (.inr (some (10, js3)))] w bc bs := by
  exact am_callv (d' := d) (kc := 0) (ks := 0) (as := [.inl xs2, .inl xs1, .inl xs0]) dX8_readPart_119 wc_X3_addPart wd_852 wd_853 wd_854 wd_116 ds_X3_addPart (by decide) (Nat.le_refl _) (Nat.le_of_ble_eq_true rfl) (Nat.zero_le _) (Nat.zero_le _) hc_4 (by decide) rfl rfl h
theorem bX8_readPart_122 {SC : Nat → Nat} {X : mh_X} {d : Nat} {Q : Option am_V → am_W → Prop} {bc bs : Nat} {w : am_W} {x2 : Int} {j1 : Nat}
    (h : Q (some (.inl 1)) ((am_up w.1 2 0 9 (am_w ((w.1 2 0 9) + 1))), w.2)) :
    am_A (mh_G X) SC (d + 1) mX8_readPart Q 122 [(2, .inl x2), (0, .inr (.inr (some (2, 0)))), (1, .inr (.inr (some (10, j1))))] [] w bc bs := by
  refine am_aload_n dX8_readPart_122 (List.Mem.tail _ (List.Mem.head _)) ?_
  refine am_dup dX8_readPart_123 rfl ?_
  refine am_getf (f := 9) (v := .inl (w.1 2 0 9)) dX8_readPart_124 hc_1 (by decide) wd_163 (by decide) rfl rfl ?_
  refine am_iconst dX8_readPart_127 (by unfold am_rg; omega) ?_
  refine am_iadd dX8_readPart_128 ?_
  refine am_putf (f := 9) dX8_readPart_129 hc_1 (by decide) wd_163 rfl (Or.inl rfl) (Or.inl (by decide)) rfl ?_
  refine am_iconst dX8_readPart_132 (by unfold am_rg; omega) ?_
  exact am_ret (r := some (.inl 1)) dX8_readPart_133 (Or.inr (Or.inl ⟨rfl, (Or.inr rfl)⟩)) rfl h
-- MourningHouse$Reader.readOptions(LMourningHouse$Law;)Z
theorem dX8_readOptions_0 : decode mX8_readOptions.2.1 0 = .ok (.aload_n 0, 1) := by decide +kernel
theorem dX8_readOptions_1 : decode mX8_readOptions.2.1 1 = .ok (.getfield 39, 3) := by decide +kernel
theorem dX8_readOptions_4 : decode mX8_readOptions.2.1 4 = .ok (.aload_n 0, 1) := by decide +kernel
theorem dX8_readOptions_5 : decode mX8_readOptions.2.1 5 = .ok (.getfield 36, 3) := by decide +kernel
theorem dX8_readOptions_8 : decode mX8_readOptions.2.1 8 = .ok (.if_icmp .ge 95, 3) := by decide +kernel
theorem dX8_readOptions_11 : decode mX8_readOptions.2.1 11 = .ok (.aload_n 0, 1) := by decide +kernel
theorem dX8_readOptions_12 : decode mX8_readOptions.2.1 12 = .ok (.aload_n 0, 1) := by decide +kernel
theorem dX8_readOptions_13 : decode mX8_readOptions.2.1 13 = .ok (.getfield 39, 3) := by decide +kernel
theorem dX8_readOptions_16 : decode mX8_readOptions.2.1 16 = .ok (.invokevirtual 59, 3) := by decide +kernel
theorem dX8_readOptions_19 : decode mX8_readOptions.2.1 19 = .ok (.bipush 44, 2) := by decide +kernel
theorem dX8_readOptions_21 : decode mX8_readOptions.2.1 21 = .ok (.if_icmp .ne 82, 3) := by decide +kernel
theorem dX8_readOptions_24 : decode mX8_readOptions.2.1 24 = .ok (.aload_n 0, 1) := by decide +kernel
theorem dX8_readOptions_25 : decode mX8_readOptions.2.1 25 = .ok (.dup, 1) := by decide +kernel
theorem dX8_readOptions_26 : decode mX8_readOptions.2.1 26 = .ok (.getfield 39, 3) := by decide +kernel
theorem dX8_readOptions_29 : decode mX8_readOptions.2.1 29 = .ok (.iconst 1, 1) := by decide +kernel
theorem dX8_readOptions_30 : decode mX8_readOptions.2.1 30 = .ok (.iadd, 1) := by decide +kernel
theorem dX8_readOptions_31 : decode mX8_readOptions.2.1 31 = .ok (.putfield 39, 3) := by decide +kernel
theorem dX8_readOptions_34 : decode mX8_readOptions.2.1 34 = .ok (.aload_n 0, 1) := by decide +kernel
theorem dX8_readOptions_35 : decode mX8_readOptions.2.1 35 = .ok (.aload_n 0, 1) := by decide +kernel
theorem dX8_readOptions_36 : decode mX8_readOptions.2.1 36 = .ok (.getfield 39, 3) := by decide +kernel
theorem dX8_readOptions_39 : decode mX8_readOptions.2.1 39 = .ok (.invokevirtual 59, 3) := by decide +kernel
theorem dX8_readOptions_42 : decode mX8_readOptions.2.1 42 = .ok (.istore_n 2, 1) := by decide +kernel
theorem dX8_readOptions_43 : decode mX8_readOptions.2.1 43 = .ok (.iload_n 2, 1) := by decide +kernel
theorem dX8_readOptions_44 : decode mX8_readOptions.2.1 44 = .ok (.invokestatic 178, 3) := by decide +kernel
theorem dX8_readOptions_47 : decode mX8_readOptions.2.1 47 = .ok (.ifCond .ne 9, 3) := by decide +kernel
theorem dX8_readOptions_50 : decode mX8_readOptions.2.1 50 = .ok (.aload_n 0, 1) := by decide +kernel
theorem dX8_readOptions_51 : decode mX8_readOptions.2.1 51 = .ok (.iconst 2, 1) := by decide +kernel
theorem dX8_readOptions_52 : decode mX8_readOptions.2.1 52 = .ok (.invokevirtual 55, 3) := by decide +kernel
theorem dX8_readOptions_55 : decode mX8_readOptions.2.1 55 = .ok (.ireturn, 1) := by decide +kernel
theorem dX8_readOptions_56 : decode mX8_readOptions.2.1 56 = .ok (.aload_n 1, 1) := by decide +kernel
theorem dX8_readOptions_57 : decode mX8_readOptions.2.1 57 = .ok (.iload_n 2, 1) := by decide +kernel
theorem dX8_readOptions_58 : decode mX8_readOptions.2.1 58 = .ok (.bipush 25, 2) := by decide +kernel
theorem dX8_readOptions_60 : decode mX8_readOptions.2.1 60 = .ok (.isub, 1) := by decide +kernel
theorem dX8_readOptions_61 : decode mX8_readOptions.2.1 61 = .ok (.invokevirtual 181, 3) := by decide +kernel
theorem dX8_readOptions_64 : decode mX8_readOptions.2.1 64 = .ok (.ifCond .ne 9, 3) := by decide +kernel
theorem dX8_readOptions_67 : decode mX8_readOptions.2.1 67 = .ok (.aload_n 0, 1) := by decide +kernel
theorem dX8_readOptions_68 : decode mX8_readOptions.2.1 68 = .ok (.iconst 5, 1) := by decide +kernel
theorem dX8_readOptions_69 : decode mX8_readOptions.2.1 69 = .ok (.invokevirtual 55, 3) := by decide +kernel
theorem dX8_readOptions_72 : decode mX8_readOptions.2.1 72 = .ok (.ireturn, 1) := by decide +kernel
theorem dX8_readOptions_73 : decode mX8_readOptions.2.1 73 = .ok (.aload_n 0, 1) := by decide +kernel
theorem dX8_readOptions_74 : decode mX8_readOptions.2.1 74 = .ok (.dup, 1) := by decide +kernel
theorem dX8_readOptions_75 : decode mX8_readOptions.2.1 75 = .ok (.getfield 39, 3) := by decide +kernel
theorem dX8_readOptions_78 : decode mX8_readOptions.2.1 78 = .ok (.iconst 1, 1) := by decide +kernel
theorem dX8_readOptions_79 : decode mX8_readOptions.2.1 79 = .ok (.iadd, 1) := by decide +kernel
theorem dX8_readOptions_80 : decode mX8_readOptions.2.1 80 = .ok (.putfield 39, 3) := by decide +kernel
theorem dX8_readOptions_83 : decode mX8_readOptions.2.1 83 = .ok (.iload_n 2, 1) := by decide +kernel
theorem dX8_readOptions_84 : decode mX8_readOptions.2.1 84 = .ok (.bipush 25, 2) := by decide +kernel
theorem dX8_readOptions_86 : decode mX8_readOptions.2.1 86 = .ok (.if_icmp .ne 14, 3) := by decide +kernel
theorem dX8_readOptions_89 : decode mX8_readOptions.2.1 89 = .ok (.aload_n 0, 1) := by decide +kernel
theorem dX8_readOptions_90 : decode mX8_readOptions.2.1 90 = .ok (.bipush 29, 2) := by decide +kernel
theorem dX8_readOptions_92 : decode mX8_readOptions.2.1 92 = .ok (.invokevirtual 129, 3) := by decide +kernel
theorem dX8_readOptions_95 : decode mX8_readOptions.2.1 95 = .ok (.ifCond .ne 5, 3) := by decide +kernel
theorem dX8_readOptions_98 : decode mX8_readOptions.2.1 98 = .ok (.iconst 0, 1) := by decide +kernel
theorem dX8_readOptions_99 : decode mX8_readOptions.2.1 99 = .ok (.ireturn, 1) := by decide +kernel
theorem dX8_readOptions_100 : decode mX8_readOptions.2.1 100 = .ok (.goto (-100), 3) := by decide +kernel
theorem dX8_readOptions_103 : decode mX8_readOptions.2.1 103 = .ok (.aload_n 0, 1) := by decide +kernel
theorem dX8_readOptions_104 : decode mX8_readOptions.2.1 104 = .ok (.bipush 46, 2) := by decide +kernel
theorem dX8_readOptions_106 : decode mX8_readOptions.2.1 106 = .ok (.invokevirtual 129, 3) := by decide +kernel
theorem dX8_readOptions_109 : decode mX8_readOptions.2.1 109 = .ok (.ireturn, 1) := by decide +kernel
theorem bX8_readOptions_0 {SC : Nat → Nat} {X : mh_X} {d : Nat} {Q : Option am_V → am_W → Prop} {bc bs : Nat} {w : am_W} {j1 : Nat}
    (h : (((w.1 2 0 8) ≤ (w.1 2 0 9) → am_A (mh_G X) SC (d + 1) mX8_readOptions Q 103 [(0, .inr (.inr (some (2, 0))))] [] w bc bs) ∧ (¬ (w.1 2 0 8) ≤ (w.1 2 0 9) → am_M (mh_G X) SC d 0 0 mX8_codeAt [.inr (.inr (some (2, 0))), .inl (w.1 2 0 9)] w (fun r w1 => am_A (mh_G X) SC (d + 1) mX8_readOptions Q 19 [(0, .inr (.inr (some (2, 0)))), (1, .inr (.inr (some (10, j1))))] (r.toList ++ []) w1 bc bs)))) :
    am_A (mh_G X) SC (d + 1) mX8_readOptions Q 0 [(0, .inr (.inr (some (2, 0)))), (1, .inr (.inr (some (10, j1))))] [] w bc bs := by
  refine am_aload_n dX8_readOptions_0 (List.Mem.head _) ?_
  refine am_getf (f := 9) (v := .inl (w.1 2 0 9)) dX8_readOptions_1 hc_1 (by decide) wd_163 (by decide) rfl rfl ?_
  refine am_aload_n dX8_readOptions_4 (List.Mem.head _) ?_
  refine am_getf (f := 8) (v := .inl (w.1 2 0 8)) dX8_readOptions_5 hc_1 (by decide) wd_162 (by decide) rfl rfl ?_
  refine am_icmpge (tgt := 103) dX8_readOptions_8 (by decide) (fun c1 => ?_) (fun c1 => ?_)
  · replace h := h.1 c1
    exact am_sub [0] rfl h
  · replace h := h.2 c1
    refine am_aload_n dX8_readOptions_11 (List.Mem.head _) ?_
    refine am_aload_n dX8_readOptions_12 (List.Mem.head _) ?_
    refine am_getf (f := 9) (v := .inl (w.1 2 0 9)) dX8_readOptions_13 hc_1 (by decide) wd_163 (by decide) rfl rfl ?_
    exact am_callv (d' := d) (kc := 0) (ks := 0) (as := [.inl (w.1 2 0 9)]) dX8_readOptions_16 wc_X8_codeAt wd_791 wd_793 wd_7 wd_113 ds_X8_codeAt (by decide) (Nat.le_refl _) (Nat.le_of_ble_eq_true rfl) (Nat.zero_le _) (Nat.zero_le _) hc_1 (by decide) rfl rfl h
theorem bX8_readOptions_103 {SC : Nat → Nat} {X : mh_X} {d : Nat} {Q : Option am_V → am_W → Prop} {bc bs : Nat} {w : am_W} 
    (h : am_M (mh_G X) SC d 0 0 mX8_expect [.inr (.inr (some (2, 0))), .inl 46] w (fun r w1 => am_A (mh_G X) SC (d + 1) mX8_readOptions Q 109 [(0, .inr (.inr (some (2, 0))))] (r.toList ++ []) w1 bc bs)) :
    am_A (mh_G X) SC (d + 1) mX8_readOptions Q 103 [(0, .inr (.inr (some (2, 0))))] [] w bc bs := by
  refine am_aload_n dX8_readOptions_103 (List.Mem.head _) ?_
  refine am_bipush dX8_readOptions_104 (by decide) (by unfold am_rg; omega) ?_
  exact am_callv (d' := d) (kc := 0) (ks := 0) (as := [.inl 46]) dX8_readOptions_106 wc_X8_expect wd_867 wd_869 wd_16 wd_113 ds_X8_expect (by decide) (Nat.le_refl _) (Nat.le_of_ble_eq_true rfl) (Nat.zero_le _) (Nat.zero_le _) hc_1 (by decide) rfl rfl h
theorem bX8_readOptions_19 {SC : Nat → Nat} {X : mh_X} {d : Nat} {Q : Option am_V → am_W → Prop} {bc bs : Nat} {w : am_W} {j1 : Nat} {xs0 : Int}
    (h : ((¬ xs0 = 44 → am_A (mh_G X) SC (d + 1) mX8_readOptions Q 103 [(0, .inr (.inr (some (2, 0))))] [] w bc bs) ∧ (xs0 = 44 → am_M (mh_G X) SC d 0 0 mX8_codeAt [.inr (.inr (some (2, 0))), .inl ((am_up w.1 2 0 9 (am_w ((w.1 2 0 9) + 1))) 2 0 9)] ((am_up w.1 2 0 9 (am_w ((w.1 2 0 9) + 1))), w.2) (fun r w1 => am_A (mh_G X) SC (d + 1) mX8_readOptions Q 42 [(0, .inr (.inr (some (2, 0)))), (1, .inr (.inr (some (10, j1))))] (r.toList ++ []) w1 bc bs)))) :
    am_A (mh_G X) SC (d + 1) mX8_readOptions Q 19 [(0, .inr (.inr (some (2, 0)))), (1, .inr (.inr (some (10, j1))))] [.inl xs0] w bc bs := by
  refine am_bipush dX8_readOptions_19 (by decide) (by unfold am_rg; omega) ?_
  refine am_icmpne (tgt := 103) dX8_readOptions_21 (by decide) (fun c1 => ?_) (fun c1 => ?_)
  · replace h := h.1 c1
    exact am_sub [0] rfl h
  · replace h := h.2 c1
    refine am_aload_n dX8_readOptions_24 (List.Mem.head _) ?_
    refine am_dup dX8_readOptions_25 rfl ?_
    refine am_getf (f := 9) (v := .inl (w.1 2 0 9)) dX8_readOptions_26 hc_1 (by decide) wd_163 (by decide) rfl rfl ?_
    refine am_iconst dX8_readOptions_29 (by unfold am_rg; omega) ?_
    refine am_iadd dX8_readOptions_30 ?_
    refine am_putf (f := 9) dX8_readOptions_31 hc_1 (by decide) wd_163 rfl (Or.inl rfl) (Or.inl (by decide)) rfl ?_
    refine am_aload_n dX8_readOptions_34 (List.Mem.head _) ?_
    refine am_aload_n dX8_readOptions_35 (List.Mem.head _) ?_
    refine am_getf (f := 9) (v := .inl ((am_up w.1 2 0 9 (am_w ((w.1 2 0 9) + 1))) 2 0 9)) dX8_readOptions_36 hc_1 (by decide) wd_163 (by decide) rfl rfl ?_
    exact am_callv (d' := d) (kc := 0) (ks := 0) (as := [.inl ((am_up w.1 2 0 9 (am_w ((w.1 2 0 9) + 1))) 2 0 9)]) dX8_readOptions_39 wc_X8_codeAt wd_791 wd_793 wd_7 wd_113 ds_X8_codeAt (by decide) (Nat.le_refl _) (Nat.le_of_ble_eq_true rfl) (Nat.zero_le _) (Nat.zero_le _) hc_1 (by decide) rfl rfl h
theorem bX8_readOptions_109 {SC : Nat → Nat} {X : mh_X} {d : Nat} {Q : Option am_V → am_W → Prop} {bc bs : Nat} {w : am_W} {xs0 : Int}
    (h : ((xs0 = 0 ∨ xs0 = 1) ∧ Q (some (.inl xs0)) w)) :
    am_A (mh_G X) SC (d + 1) mX8_readOptions Q 109 [(0, .inr (.inr (some (2, 0))))] [.inl xs0] w bc bs := by
  have o1 := h.1
  replace h := h.2
  exact am_ret (r := some (.inl xs0)) dX8_readOptions_109 (Or.inr (Or.inl ⟨rfl, o1⟩)) rfl h
theorem bX8_readOptions_42 {SC : Nat → Nat} {X : mh_X} {d : Nat} {Q : Option am_V → am_W → Prop} {bc bs : Nat} {w : am_W} {j1 : Nat} {xs0 : Int}
    (h : am_M (mh_G X) SC d 0 0 mX10_isOption [.inl xs0] w (fun r w1 => am_A (mh_G X) SC (d + 1) mX8_readOptions Q 47 [(2, .inl xs0), (0, .inr (.inr (some (2, 0)))), (1, .inr (.inr (some (10, j1))))] (r.toList ++ []) w1 bc bs)) :
    am_A (mh_G X) SC (d + 1) mX8_readOptions Q 42 [(0, .inr (.inr (some (2, 0)))), (1, .inr (.inr (some (10, j1))))] [.inl xs0] w bc bs := by
  refine am_istore_n (ls' := [(2, .inl xs0), (0, .inr (.inr (some (2, 0)))), (1, .inr (.inr (some (10, j1))))]) dX8_readOptions_42 (by decide) rfl ?_
  refine am_iload_n dX8_readOptions_43 (List.Mem.head _) ?_
  exact am_calls (d' := d) (kc := 0) (ks := 0) (as := [.inl xs0]) dX8_readOptions_44 wc_X10_isOption wd_860 wd_861 wd_123 ds_X10_isOption (by decide) (Nat.le_refl _) (Nat.le_of_ble_eq_true rfl) (Nat.zero_le _) (Nat.zero_le _) rfl h
theorem bX8_readOptions_47 {SC : Nat → Nat} {X : mh_X} {d : Nat} {Q : Option am_V → am_W → Prop} {bc bs : Nat} {w : am_W} {x2 : Int} {j1 : Nat} {xs0 : Int}
    (h : ((¬ xs0 = 0 → am_M (mh_G X) SC d 0 0 mX3_addOption [.inr (.inr (some (10, j1))), .inl (am_w (x2 - 25))] w (fun r w1 => am_A (mh_G X) SC (d + 1) mX8_readOptions Q 64 [(2, .inl x2), (0, .inr (.inr (some (2, 0)))), (1, .inr (.inr (some (10, j1))))] (r.toList ++ []) w1 bc bs)) ∧ (xs0 = 0 → am_M (mh_G X) SC d 0 0 mX8_fail [.inr (.inr (some (2, 0))), .inl 2] w (fun r w1 => am_A (mh_G X) SC (d + 1) mX8_readOptions Q 55 [(2, .inl x2), (0, .inr (.inr (some (2, 0)))), (1, .inr (.inr (some (10, j1))))] (r.toList ++ []) w1 bc bs)))) :
    am_A (mh_G X) SC (d + 1) mX8_readOptions Q 47 [(2, .inl x2), (0, .inr (.inr (some (2, 0)))), (1, .inr (.inr (some (10, j1))))] [.inl xs0] w bc bs := by
  refine am_ifne (tgt := 56) dX8_readOptions_47 (by decide) (fun c1 => ?_) (fun c1 => ?_)
  · replace h := h.1 c1
    refine am_aload_n dX8_readOptions_56 (List.Mem.tail _ (List.Mem.tail _ (List.Mem.head _))) ?_
    refine am_iload_n dX8_readOptions_57 (List.Mem.head _) ?_
    refine am_bipush dX8_readOptions_58 (by decide) (by unfold am_rg; omega) ?_
    refine am_isub dX8_readOptions_60 ?_
    exact am_callv (d' := d) (kc := 0) (ks := 0) (as := [.inl (am_w (x2 - 25))]) dX8_readOptions_61 wc_X3_addOption wd_863 wd_864 wd_865 wd_116 ds_X3_addOption (by decide) (Nat.le_refl _) (Nat.le_of_ble_eq_true rfl) (Nat.zero_le _) (Nat.zero_le _) hc_4 (by decide) rfl rfl h
  · replace h := h.2 c1
    refine am_aload_n dX8_readOptions_50 (List.Mem.tail _ (List.Mem.head _)) ?_
    refine am_iconst dX8_readOptions_51 (by unfold am_rg; omega) ?_
    exact am_callv (d' := d) (kc := 0) (ks := 0) (as := [.inl 2]) dX8_readOptions_52 wc_X8_fail wd_787 wd_789 wd_6 wd_113 ds_X8_fail (by decide) (Nat.le_refl _) (Nat.le_of_ble_eq_true rfl) (Nat.zero_le _) (Nat.zero_le _) hc_1 (by decide) rfl rfl h
theorem bX8_readOptions_64 {SC : Nat → Nat} {X : mh_X} {d : Nat} {Q : Option am_V → am_W → Prop} {bc bs : Nat} {w : am_W} {x2 : Int} {j1 : Nat} {xs0 : Int}
    (h : ((¬ xs0 = 0 → ((¬ x2 = 25 → am_A (mh_G X) SC (d + 1) mX8_readOptions Q 100 [(0, .inr (.inr (some (2, 0)))), (1, .inr (.inr (some (10, j1))))] [] ((am_up w.1 2 0 9 (am_w ((w.1 2 0 9) + 1))), w.2) bc bs) ∧ (x2 = 25 → am_M (mh_G X) SC d 0 0 mX8_expect [.inr (.inr (some (2, 0))), .inl 29] ((am_up w.1 2 0 9 (am_w ((w.1 2 0 9) + 1))), w.2) (fun r w1 => am_A (mh_G X) SC (d + 1) mX8_readOptions Q 95 [(2, .inl x2), (0, .inr (.inr (some (2, 0)))), (1, .inr (.inr (some (10, j1))))] (r.toList ++ []) w1 bc bs)))) ∧ (xs0 = 0 → am_M (mh_G X) SC d 0 0 mX8_fail [.inr (.inr (some (2, 0))), .inl 5] w (fun r w1 => am_A (mh_G X) SC (d + 1) mX8_readOptions Q 72 [(2, .inl x2), (0, .inr (.inr (some (2, 0)))), (1, .inr (.inr (some (10, j1))))] (r.toList ++ []) w1 bc bs)))) :
    am_A (mh_G X) SC (d + 1) mX8_readOptions Q 64 [(2, .inl x2), (0, .inr (.inr (some (2, 0)))), (1, .inr (.inr (some (10, j1))))] [.inl xs0] w bc bs := by
  refine am_ifne (tgt := 73) dX8_readOptions_64 (by decide) (fun c1 => ?_) (fun c1 => ?_)
  · replace h := h.1 c1
    refine am_aload_n dX8_readOptions_73 (List.Mem.tail _ (List.Mem.head _)) ?_
    refine am_dup dX8_readOptions_74 rfl ?_
    refine am_getf (f := 9) (v := .inl (w.1 2 0 9)) dX8_readOptions_75 hc_1 (by decide) wd_163 (by decide) rfl rfl ?_
    refine am_iconst dX8_readOptions_78 (by unfold am_rg; omega) ?_
    refine am_iadd dX8_readOptions_79 ?_
    refine am_putf (f := 9) dX8_readOptions_80 hc_1 (by decide) wd_163 rfl (Or.inl rfl) (Or.inl (by decide)) rfl ?_
    refine am_iload_n dX8_readOptions_83 (List.Mem.head _) ?_
    refine am_bipush dX8_readOptions_84 (by decide) (by unfold am_rg; omega) ?_
    refine am_icmpne (tgt := 100) dX8_readOptions_86 (by decide) (fun c2 => ?_) (fun c2 => ?_)
    · replace h := h.1 c2
      exact am_sub [1, 2] rfl h
    · replace h := h.2 c2
      refine am_aload_n dX8_readOptions_89 (List.Mem.tail _ (List.Mem.head _)) ?_
      refine am_bipush dX8_readOptions_90 (by decide) (by unfold am_rg; omega) ?_
      exact am_callv (d' := d) (kc := 0) (ks := 0) (as := [.inl 29]) dX8_readOptions_92 wc_X8_expect wd_867 wd_869 wd_16 wd_113 ds_X8_expect (by decide) (Nat.le_refl _) (Nat.le_of_ble_eq_true rfl) (Nat.zero_le _) (Nat.zero_le _) hc_1 (by decide) rfl rfl h
  · replace h := h.2 c1
    refine am_aload_n dX8_readOptions_67 (List.Mem.tail _ (List.Mem.head _)) ?_
    refine am_iconst dX8_readOptions_68 (by unfold am_rg; omega) ?_
    exact am_callv (d' := d) (kc := 0) (ks := 0) (as := [.inl 5]) dX8_readOptions_69 wc_X8_fail wd_787 wd_789 wd_6 wd_113 ds_X8_fail (by decide) (Nat.le_refl _) (Nat.le_of_ble_eq_true rfl) (Nat.zero_le _) (Nat.zero_le _) hc_1 (by decide) rfl rfl h
theorem bX8_readOptions_55 {SC : Nat → Nat} {X : mh_X} {d : Nat} {Q : Option am_V → am_W → Prop} {bc bs : Nat} {w : am_W} {x2 : Int} {j1 : Nat} {xs0 : Int}
    (h : ((xs0 = 0 ∨ xs0 = 1) ∧ Q (some (.inl xs0)) w)) :
    am_A (mh_G X) SC (d + 1) mX8_readOptions Q 55 [(2, .inl x2), (0, .inr (.inr (some (2, 0)))), (1, .inr (.inr (some (10, j1))))] [.inl xs0] w bc bs := by
  have o1 := h.1
  replace h := h.2
  exact am_ret (r := some (.inl xs0)) dX8_readOptions_55 (Or.inr (Or.inl ⟨rfl, o1⟩)) rfl h
theorem bX8_readOptions_100 {SC : Nat → Nat} {X : mh_X} {d : Nat} {Q : Option am_V → am_W → Prop} {bc bs : Nat} {w : am_W} {j1 : Nat}
    (h : am_A (mh_G X) SC (d + 1) mX8_readOptions Q 0 [(0, .inr (.inr (some (2, 0)))), (1, .inr (.inr (some (10, j1))))] [] w bc bs) :
    am_A (mh_G X) SC (d + 1) mX8_readOptions Q 100 [(0, .inr (.inr (some (2, 0)))), (1, .inr (.inr (some (10, j1))))] [] w bc bs := by
  refine am_goto (tgt := 0) dX8_readOptions_100 (by decide) ?_
  exact h
theorem bX8_readOptions_95 {SC : Nat → Nat} {X : mh_X} {d : Nat} {Q : Option am_V → am_W → Prop} {bc bs : Nat} {w : am_W} {x2 : Int} {j1 : Nat} {xs0 : Int}
    (h : ((¬ xs0 = 0 → am_A (mh_G X) SC (d + 1) mX8_readOptions Q 100 [(0, .inr (.inr (some (2, 0)))), (1, .inr (.inr (some (10, j1))))] [] w bc bs) ∧ (xs0 = 0 → Q (some (.inl 0)) w))) :
    am_A (mh_G X) SC (d + 1) mX8_readOptions Q 95 [(2, .inl x2), (0, .inr (.inr (some (2, 0)))), (1, .inr (.inr (some (10, j1))))] [.inl xs0] w bc bs := by
  refine am_ifne (tgt := 100) dX8_readOptions_95 (by decide) (fun c1 => ?_) (fun c1 => ?_)
  · replace h := h.1 c1
    exact am_sub [1, 2] rfl h
  · replace h := h.2 c1
    refine am_iconst dX8_readOptions_98 (by unfold am_rg; omega) ?_
    exact am_ret (r := some (.inl 0)) dX8_readOptions_99 (Or.inr (Or.inl ⟨rfl, (Or.inl rfl)⟩)) rfl h
theorem bX8_readOptions_72 {SC : Nat → Nat} {X : mh_X} {d : Nat} {Q : Option am_V → am_W → Prop} {bc bs : Nat} {w : am_W} {x2 : Int} {j1 : Nat} {xs0 : Int}
    (h : ((xs0 = 0 ∨ xs0 = 1) ∧ Q (some (.inl xs0)) w)) :
    am_A (mh_G X) SC (d + 1) mX8_readOptions Q 72 [(2, .inl x2), (0, .inr (.inr (some (2, 0)))), (1, .inr (.inr (some (10, j1))))] [.inl xs0] w bc bs := by
  have o1 := h.1
  replace h := h.2
  exact am_ret (r := some (.inl xs0)) dX8_readOptions_72 (Or.inr (Or.inl ⟨rfl, o1⟩)) rfl h
-- MourningHouse$Reader.readMay(LMourningHouse$Law;)Z
theorem dX8_readMay_0 : decode mX8_readMay.2.1 0 = .ok (.aload_n 0, 1) := by decide +kernel
theorem dX8_readMay_1 : decode mX8_readMay.2.1 1 = .ok (.iconst 1, 1) := by decide +kernel
theorem dX8_readMay_2 : decode mX8_readMay.2.1 2 = .ok (.invokevirtual 59, 3) := by decide +kernel
theorem dX8_readMay_5 : decode mX8_readMay.2.1 5 = .ok (.bipush 21, 2) := by decide +kernel
theorem dX8_readMay_7 : decode mX8_readMay.2.1 7 = .ok (.isub, 1) := by decide +kernel
theorem dX8_readMay_8 : decode mX8_readMay.2.1 8 = .ok (.istore_n 2, 1) := by decide +kernel
theorem dX8_readMay_9 : decode mX8_readMay.2.1 9 = .ok (.aload_n 0, 1) := by decide +kernel
theorem dX8_readMay_10 : decode mX8_readMay.2.1 10 = .ok (.iconst 1, 1) := by decide +kernel
theorem dX8_readMay_11 : decode mX8_readMay.2.1 11 = .ok (.putfield 39, 3) := by decide +kernel
theorem dX8_readMay_14 : decode mX8_readMay.2.1 14 = .ok (.aload_n 0, 1) := by decide +kernel
theorem dX8_readMay_15 : decode mX8_readMay.2.1 15 = .ok (.aload_n 0, 1) := by decide +kernel
theorem dX8_readMay_16 : decode mX8_readMay.2.1 16 = .ok (.getfield 39, 3) := by decide +kernel
theorem dX8_readMay_19 : decode mX8_readMay.2.1 19 = .ok (.invokevirtual 59, 3) := by decide +kernel
theorem dX8_readMay_22 : decode mX8_readMay.2.1 22 = .ok (.invokestatic 184, 3) := by decide +kernel
theorem dX8_readMay_25 : decode mX8_readMay.2.1 25 = .ok (.ifCond .ne 9, 3) := by decide +kernel
theorem dX8_readMay_28 : decode mX8_readMay.2.1 28 = .ok (.aload_n 0, 1) := by decide +kernel
theorem dX8_readMay_29 : decode mX8_readMay.2.1 29 = .ok (.iconst 2, 1) := by decide +kernel
theorem dX8_readMay_30 : decode mX8_readMay.2.1 30 = .ok (.invokevirtual 55, 3) := by decide +kernel
theorem dX8_readMay_33 : decode mX8_readMay.2.1 33 = .ok (.ireturn, 1) := by decide +kernel
theorem dX8_readMay_34 : decode mX8_readMay.2.1 34 = .ok (.aload_n 0, 1) := by decide +kernel
theorem dX8_readMay_35 : decode mX8_readMay.2.1 35 = .ok (.dup, 1) := by decide +kernel
theorem dX8_readMay_36 : decode mX8_readMay.2.1 36 = .ok (.getfield 39, 3) := by decide +kernel
theorem dX8_readMay_39 : decode mX8_readMay.2.1 39 = .ok (.iconst 1, 1) := by decide +kernel
theorem dX8_readMay_40 : decode mX8_readMay.2.1 40 = .ok (.iadd, 1) := by decide +kernel
theorem dX8_readMay_41 : decode mX8_readMay.2.1 41 = .ok (.putfield 39, 3) := by decide +kernel
theorem dX8_readMay_44 : decode mX8_readMay.2.1 44 = .ok (.aload_n 0, 1) := by decide +kernel
theorem dX8_readMay_45 : decode mX8_readMay.2.1 45 = .ok (.bipush 33, 2) := by decide +kernel
theorem dX8_readMay_47 : decode mX8_readMay.2.1 47 = .ok (.invokevirtual 129, 3) := by decide +kernel
theorem dX8_readMay_50 : decode mX8_readMay.2.1 50 = .ok (.ifCond .eq 10, 3) := by decide +kernel
theorem dX8_readMay_53 : decode mX8_readMay.2.1 53 = .ok (.aload_n 0, 1) := by decide +kernel
theorem dX8_readMay_54 : decode mX8_readMay.2.1 54 = .ok (.invokevirtual 187, 3) := by decide +kernel
theorem dX8_readMay_57 : decode mX8_readMay.2.1 57 = .ok (.ifCond .ne 5, 3) := by decide +kernel
theorem dX8_readMay_60 : decode mX8_readMay.2.1 60 = .ok (.iconst 0, 1) := by decide +kernel
theorem dX8_readMay_61 : decode mX8_readMay.2.1 61 = .ok (.ireturn, 1) := by decide +kernel
theorem dX8_readMay_62 : decode mX8_readMay.2.1 62 = .ok (.aload_n 1, 1) := by decide +kernel
theorem dX8_readMay_63 : decode mX8_readMay.2.1 63 = .ok (.getfield 190, 3) := by decide +kernel
theorem dX8_readMay_66 : decode mX8_readMay.2.1 66 = .ok (.iload_n 2, 1) := by decide +kernel
theorem dX8_readMay_67 : decode mX8_readMay.2.1 67 = .ok (.aload_n 0, 1) := by decide +kernel
theorem dX8_readMay_68 : decode mX8_readMay.2.1 68 = .ok (.iconst 3, 1) := by decide +kernel
theorem dX8_readMay_69 : decode mX8_readMay.2.1 69 = .ok (.invokevirtual 163, 3) := by decide +kernel
theorem dX8_readMay_72 : decode mX8_readMay.2.1 72 = .ok (.iastore, 1) := by decide +kernel
theorem dX8_readMay_73 : decode mX8_readMay.2.1 73 = .ok (.iconst 1, 1) := by decide +kernel
theorem dX8_readMay_74 : decode mX8_readMay.2.1 74 = .ok (.ireturn, 1) := by decide +kernel
theorem bX8_readMay_0 {SC : Nat → Nat} {X : mh_X} {d : Nat} {Q : Option am_V → am_W → Prop} {bc bs : Nat} {w : am_W} {j1 : Nat}
    (h : am_M (mh_G X) SC d 0 0 mX8_codeAt [.inr (.inr (some (2, 0))), .inl 1] w (fun r w1 => am_A (mh_G X) SC (d + 1) mX8_readMay Q 5 [(0, .inr (.inr (some (2, 0)))), (1, .inr (.inr (some (10, j1))))] (r.toList ++ []) w1 bc bs)) :
    am_A (mh_G X) SC (d + 1) mX8_readMay Q 0 [(0, .inr (.inr (some (2, 0)))), (1, .inr (.inr (some (10, j1))))] [] w bc bs := by
  refine am_aload_n dX8_readMay_0 (List.Mem.head _) ?_
  refine am_iconst dX8_readMay_1 (by unfold am_rg; omega) ?_
  exact am_callv (d' := d) (kc := 0) (ks := 0) (as := [.inl 1]) dX8_readMay_2 wc_X8_codeAt wd_791 wd_793 wd_7 wd_113 ds_X8_codeAt (by decide) (Nat.le_refl _) (Nat.le_of_ble_eq_true rfl) (Nat.zero_le _) (Nat.zero_le _) hc_1 (by decide) rfl rfl h
theorem bX8_readMay_5 {SC : Nat → Nat} {X : mh_X} {d : Nat} {Q : Option am_V → am_W → Prop} {bc bs : Nat} {w : am_W} {j1 : Nat} {xs0 : Int}
    (h : am_M (mh_G X) SC d 0 0 mX8_codeAt [.inr (.inr (some (2, 0))), .inl ((am_up w.1 2 0 9 1) 2 0 9)] ((am_up w.1 2 0 9 1), w.2) (fun r w1 => am_A (mh_G X) SC (d + 1) mX8_readMay Q 22 [(2, .inl (am_w (xs0 - 21))), (0, .inr (.inr (some (2, 0)))), (1, .inr (.inr (some (10, j1))))] (r.toList ++ []) w1 bc bs)) :
    am_A (mh_G X) SC (d + 1) mX8_readMay Q 5 [(0, .inr (.inr (some (2, 0)))), (1, .inr (.inr (some (10, j1))))] [.inl xs0] w bc bs := by
  refine am_bipush dX8_readMay_5 (by decide) (by unfold am_rg; omega) ?_
  refine am_isub dX8_readMay_7 ?_
  refine am_istore_n (ls' := [(2, .inl (am_w (xs0 - 21))), (0, .inr (.inr (some (2, 0)))), (1, .inr (.inr (some (10, j1))))]) dX8_readMay_8 (by decide) rfl ?_
  refine am_aload_n dX8_readMay_9 (List.Mem.tail _ (List.Mem.head _)) ?_
  refine am_iconst dX8_readMay_10 (by unfold am_rg; omega) ?_
  refine am_putf (f := 9) dX8_readMay_11 hc_1 (by decide) wd_163 rfl (Or.inl rfl) (Or.inl (by decide)) rfl ?_
  refine am_aload_n dX8_readMay_14 (List.Mem.tail _ (List.Mem.head _)) ?_
  refine am_aload_n dX8_readMay_15 (List.Mem.tail _ (List.Mem.head _)) ?_
  refine am_getf (f := 9) (v := .inl ((am_up w.1 2 0 9 1) 2 0 9)) dX8_readMay_16 hc_1 (by decide) wd_163 (by decide) rfl rfl ?_
  exact am_callv (d' := d) (kc := 0) (ks := 0) (as := [.inl ((am_up w.1 2 0 9 1) 2 0 9)]) dX8_readMay_19 wc_X8_codeAt wd_791 wd_793 wd_7 wd_113 ds_X8_codeAt (by decide) (Nat.le_refl _) (Nat.le_of_ble_eq_true rfl) (Nat.zero_le _) (Nat.zero_le _) hc_1 (by decide) rfl rfl h
theorem bX8_readMay_22 {SC : Nat → Nat} {X : mh_X} {d : Nat} {Q : Option am_V → am_W → Prop} {bc bs : Nat} {w : am_W} {x2 : Int} {j1 : Nat} {xs0 : Int}
    (h : am_M (mh_G X) SC d 0 0 mX10_isAct [.inl xs0] w (fun r w1 => am_A (mh_G X) SC (d + 1) mX8_readMay Q 25 [(2, .inl x2), (0, .inr (.inr (some (2, 0)))), (1, .inr (.inr (some (10, j1))))] (r.toList ++ []) w1 bc bs)) :
    am_A (mh_G X) SC (d + 1) mX8_readMay Q 22 [(2, .inl x2), (0, .inr (.inr (some (2, 0)))), (1, .inr (.inr (some (10, j1))))] [.inl xs0] w bc bs := by
  exact am_calls (d' := d) (kc := 0) (ks := 0) (as := [.inl xs0]) dX8_readMay_22 wc_X10_isAct wd_875 wd_876 wd_123 ds_X10_isAct (by decide) (Nat.le_refl _) (Nat.le_of_ble_eq_true rfl) (Nat.zero_le _) (Nat.zero_le _) rfl h
theorem bX8_readMay_25 {SC : Nat → Nat} {X : mh_X} {d : Nat} {Q : Option am_V → am_W → Prop} {bc bs : Nat} {w : am_W} {x2 : Int} {j1 : Nat} {xs0 : Int}
    (h : ((¬ xs0 = 0 → am_M (mh_G X) SC d 0 0 mX8_expect [.inr (.inr (some (2, 0))), .inl 33] ((am_up w.1 2 0 9 (am_w ((w.1 2 0 9) + 1))), w.2) (fun r w1 => am_A (mh_G X) SC (d + 1) mX8_readMay Q 50 [(2, .inl x2), (0, .inr (.inr (some (2, 0)))), (1, .inr (.inr (some (10, j1))))] (r.toList ++ []) w1 bc bs)) ∧ (xs0 = 0 → am_M (mh_G X) SC d 0 0 mX8_fail [.inr (.inr (some (2, 0))), .inl 2] w (fun r w1 => am_A (mh_G X) SC (d + 1) mX8_readMay Q 33 [(2, .inl x2), (0, .inr (.inr (some (2, 0)))), (1, .inr (.inr (some (10, j1))))] (r.toList ++ []) w1 bc bs)))) :
    am_A (mh_G X) SC (d + 1) mX8_readMay Q 25 [(2, .inl x2), (0, .inr (.inr (some (2, 0)))), (1, .inr (.inr (some (10, j1))))] [.inl xs0] w bc bs := by
  refine am_ifne (tgt := 34) dX8_readMay_25 (by decide) (fun c1 => ?_) (fun c1 => ?_)
  · replace h := h.1 c1
    refine am_aload_n dX8_readMay_34 (List.Mem.tail _ (List.Mem.head _)) ?_
    refine am_dup dX8_readMay_35 rfl ?_
    refine am_getf (f := 9) (v := .inl (w.1 2 0 9)) dX8_readMay_36 hc_1 (by decide) wd_163 (by decide) rfl rfl ?_
    refine am_iconst dX8_readMay_39 (by unfold am_rg; omega) ?_
    refine am_iadd dX8_readMay_40 ?_
    refine am_putf (f := 9) dX8_readMay_41 hc_1 (by decide) wd_163 rfl (Or.inl rfl) (Or.inl (by decide)) rfl ?_
    refine am_aload_n dX8_readMay_44 (List.Mem.tail _ (List.Mem.head _)) ?_
    refine am_bipush dX8_readMay_45 (by decide) (by unfold am_rg; omega) ?_
    exact am_callv (d' := d) (kc := 0) (ks := 0) (as := [.inl 33]) dX8_readMay_47 wc_X8_expect wd_867 wd_869 wd_16 wd_113 ds_X8_expect (by decide) (Nat.le_refl _) (Nat.le_of_ble_eq_true rfl) (Nat.zero_le _) (Nat.zero_le _) hc_1 (by decide) rfl rfl h
  · replace h := h.2 c1
    refine am_aload_n dX8_readMay_28 (List.Mem.tail _ (List.Mem.head _)) ?_
    refine am_iconst dX8_readMay_29 (by unfold am_rg; omega) ?_
    exact am_callv (d' := d) (kc := 0) (ks := 0) (as := [.inl 2]) dX8_readMay_30 wc_X8_fail wd_787 wd_789 wd_6 wd_113 ds_X8_fail (by decide) (Nat.le_refl _) (Nat.le_of_ble_eq_true rfl) (Nat.zero_le _) (Nat.zero_le _) hc_1 (by decide) rfl rfl h
theorem bX8_readMay_50 {SC : Nat → Nat} {X : mh_X} {d : Nat} {Q : Option am_V → am_W → Prop} {bc bs : Nat} {w : am_W} {x2 : Int} {j1 : Nat} {xs0 : Int}
    (h : ((xs0 = 0 → Q (some (.inl 0)) w) ∧ (¬ xs0 = 0 → am_M (mh_G X) SC d 0 0 mX8_expectStuff [.inr (.inr (some (2, 0)))] w (fun r w1 => am_A (mh_G X) SC (d + 1) mX8_readMay Q 57 [(2, .inl x2), (0, .inr (.inr (some (2, 0)))), (1, .inr (.inr (some (10, j1))))] (r.toList ++ []) w1 bc bs)))) :
    am_A (mh_G X) SC (d + 1) mX8_readMay Q 50 [(2, .inl x2), (0, .inr (.inr (some (2, 0)))), (1, .inr (.inr (some (10, j1))))] [.inl xs0] w bc bs := by
  refine am_ifeq (tgt := 60) dX8_readMay_50 (by decide) (fun c1 => ?_) (fun c1 => ?_)
  · replace h := h.1 c1
    refine am_iconst dX8_readMay_60 (by unfold am_rg; omega) ?_
    exact am_ret (r := some (.inl 0)) dX8_readMay_61 (Or.inr (Or.inl ⟨rfl, (Or.inl rfl)⟩)) rfl h
  · replace h := h.2 c1
    refine am_aload_n dX8_readMay_53 (List.Mem.tail _ (List.Mem.head _)) ?_
    exact am_callv (d' := d) (kc := 0) (ks := 0) (as := []) dX8_readMay_54 wc_X8_expectStuff wd_878 wd_880 wd_18 wd_113 ds_X8_expectStuff (by decide) (Nat.le_refl _) (Nat.le_of_ble_eq_true rfl) (Nat.zero_le _) (Nat.zero_le _) hc_1 (by decide) rfl rfl h
theorem bX8_readMay_33 {SC : Nat → Nat} {X : mh_X} {d : Nat} {Q : Option am_V → am_W → Prop} {bc bs : Nat} {w : am_W} {x2 : Int} {j1 : Nat} {xs0 : Int}
    (h : ((xs0 = 0 ∨ xs0 = 1) ∧ Q (some (.inl xs0)) w)) :
    am_A (mh_G X) SC (d + 1) mX8_readMay Q 33 [(2, .inl x2), (0, .inr (.inr (some (2, 0)))), (1, .inr (.inr (some (10, j1))))] [.inl xs0] w bc bs := by
  have o1 := h.1
  replace h := h.2
  exact am_ret (r := some (.inl xs0)) dX8_readMay_33 (Or.inr (Or.inl ⟨rfl, o1⟩)) rfl h
theorem bX8_readMay_57 {SC : Nat → Nat} {X : mh_X} {d : Nat} {Q : Option am_V → am_W → Prop} {bc bs : Nat} {w : am_W} {x2 : Int} {j1 : Nat} {xs0 : Int}
    (h : ((¬ xs0 = 0 → am_M (mh_G X) SC d 0 0 mX8_depthAt [.inr (.inr (some (2, 0))), .inl 3] w (fun r w1 => am_A (mh_G X) SC (d + 1) mX8_readMay Q 72 [(2, .inl x2), (0, .inr (.inr (some (2, 0)))), (1, .inr (.inr (some (10, j1))))] (r.toList ++ [.inl x2, .inr (.inr (some (153, j1)))]) w1 bc bs)) ∧ (xs0 = 0 → Q (some (.inl 0)) w))) :
    am_A (mh_G X) SC (d + 1) mX8_readMay Q 57 [(2, .inl x2), (0, .inr (.inr (some (2, 0)))), (1, .inr (.inr (some (10, j1))))] [.inl xs0] w bc bs := by
  refine am_ifne (tgt := 62) dX8_readMay_57 (by decide) (fun c1 => ?_) (fun c1 => ?_)
  · replace h := h.1 c1
    refine am_aload_n dX8_readMay_62 (List.Mem.tail _ (List.Mem.tail _ (List.Mem.head _))) ?_
    refine am_getf (f := 9) (v := .inr (.inr (some (153, j1)))) dX8_readMay_63 hc_4 (by decide) wd_226 (by decide) rfl rfl ?_
    refine am_iload_n dX8_readMay_66 (List.Mem.head _) ?_
    refine am_aload_n dX8_readMay_67 (List.Mem.tail _ (List.Mem.head _)) ?_
    refine am_iconst dX8_readMay_68 (by unfold am_rg; omega) ?_
    exact am_callv (d' := d) (kc := 0) (ks := 0) (as := [.inl 3]) dX8_readMay_69 wc_X8_depthAt wd_833 wd_835 wd_12 wd_113 ds_X8_depthAt (by decide) (Nat.le_refl _) (Nat.le_of_ble_eq_true rfl) (Nat.zero_le _) (Nat.zero_le _) hc_1 (by decide) rfl rfl h
  · replace h := h.2 c1
    refine am_iconst dX8_readMay_60 (by unfold am_rg; omega) ?_
    exact am_ret (r := some (.inl 0)) dX8_readMay_61 (Or.inr (Or.inl ⟨rfl, (Or.inl rfl)⟩)) rfl h
theorem bX8_readMay_72 {SC : Nat → Nat} {X : mh_X} {d : Nat} {Q : Option am_V → am_W → Prop} {bc bs : Nat} {w : am_W} {x2 : Int} {j1 : Nat} {xs0 : Int} {xs1 : Int} {js2 : Nat}
    (h : (0 ≤ xs1 ∧ (xs1 < 4 ∧ Q (some (.inl 1)) ((am_up w.1 153 js2 xs1.toNat xs0), w.2)))) :
    am_A (mh_G X) SC (d + 1) mX8_readMay Q 72 [(2, .inl x2), (0, .inr (.inr (some (2, 0)))), (1, .inr (.inr (some (10, j1))))] [.inl xs0, .inl xs1, .inr (.inr (some (153, js2)))] w bc bs := by
  have o1 := h.1
  replace h := h.2
  have o2 := h.1
  replace h := h.2
  refine am_iastore dX8_readMay_72 (Or.inl (by decide)) rfl o1 o2 ?_
  refine am_iconst dX8_readMay_73 (by unfold am_rg; omega) ?_
  exact am_ret (r := some (.inl 1)) dX8_readMay_74 (Or.inr (Or.inl ⟨rfl, (Or.inr rfl)⟩)) rfl h
-- MourningHouse$Reader.readFeast(LMourningHouse$Law;)Z
theorem dX8_readFeast_0 : decode mX8_readFeast.2.1 0 = .ok (.aload_n 1, 1) := by decide +kernel
theorem dX8_readFeast_1 : decode mX8_readFeast.2.1 1 = .ok (.invokevirtual 193, 3) := by decide +kernel
theorem dX8_readFeast_4 : decode mX8_readFeast.2.1 4 = .ok (.ifCond .ne 10, 3) := by decide +kernel
theorem dX8_readFeast_7 : decode mX8_readFeast.2.1 7 = .ok (.aload_n 0, 1) := by decide +kernel
theorem dX8_readFeast_8 : decode mX8_readFeast.2.1 8 = .ok (.bipush 6, 2) := by decide +kernel
theorem dX8_readFeast_10 : decode mX8_readFeast.2.1 10 = .ok (.invokevirtual 55, 3) := by decide +kernel
theorem dX8_readFeast_13 : decode mX8_readFeast.2.1 13 = .ok (.ireturn, 1) := by decide +kernel
theorem dX8_readFeast_14 : decode mX8_readFeast.2.1 14 = .ok (.aload_n 0, 1) := by decide +kernel
theorem dX8_readFeast_15 : decode mX8_readFeast.2.1 15 = .ok (.iconst 1, 1) := by decide +kernel
theorem dX8_readFeast_16 : decode mX8_readFeast.2.1 16 = .ok (.putfield 39, 3) := by decide +kernel
theorem dX8_readFeast_19 : decode mX8_readFeast.2.1 19 = .ok (.aload_n 0, 1) := by decide +kernel
theorem dX8_readFeast_20 : decode mX8_readFeast.2.1 20 = .ok (.iconst 1, 1) := by decide +kernel
theorem dX8_readFeast_21 : decode mX8_readFeast.2.1 21 = .ok (.bipush 12, 2) := by decide +kernel
theorem dX8_readFeast_23 : decode mX8_readFeast.2.1 23 = .ok (.invokevirtual 169, 3) := by decide +kernel
theorem dX8_readFeast_26 : decode mX8_readFeast.2.1 26 = .ok (.ifCond .ne 5, 3) := by decide +kernel
theorem dX8_readFeast_29 : decode mX8_readFeast.2.1 29 = .ok (.iconst 0, 1) := by decide +kernel
theorem dX8_readFeast_30 : decode mX8_readFeast.2.1 30 = .ok (.ireturn, 1) := by decide +kernel
theorem dX8_readFeast_31 : decode mX8_readFeast.2.1 31 = .ok (.aload_n 0, 1) := by decide +kernel
theorem dX8_readFeast_32 : decode mX8_readFeast.2.1 32 = .ok (.getfield 17, 3) := by decide +kernel
theorem dX8_readFeast_35 : decode mX8_readFeast.2.1 35 = .ok (.iconst 1, 1) := by decide +kernel
theorem dX8_readFeast_36 : decode mX8_readFeast.2.1 36 = .ok (.iaload, 1) := by decide +kernel
theorem dX8_readFeast_37 : decode mX8_readFeast.2.1 37 = .ok (.istore_n 2, 1) := by decide +kernel
theorem dX8_readFeast_38 : decode mX8_readFeast.2.1 38 = .ok (.aload_n 0, 1) := by decide +kernel
theorem dX8_readFeast_39 : decode mX8_readFeast.2.1 39 = .ok (.bipush 45, 2) := by decide +kernel
theorem dX8_readFeast_41 : decode mX8_readFeast.2.1 41 = .ok (.invokevirtual 129, 3) := by decide +kernel
theorem dX8_readFeast_44 : decode mX8_readFeast.2.1 44 = .ok (.ifCond .eq 32, 3) := by decide +kernel
theorem dX8_readFeast_47 : decode mX8_readFeast.2.1 47 = .ok (.aload_n 0, 1) := by decide +kernel
theorem dX8_readFeast_48 : decode mX8_readFeast.2.1 48 = .ok (.iconst 1, 1) := by decide +kernel
theorem dX8_readFeast_49 : decode mX8_readFeast.2.1 49 = .ok (.iconst 0, 1) := by decide +kernel
theorem dX8_readFeast_50 : decode mX8_readFeast.2.1 50 = .ok (.iload_n 2, 1) := by decide +kernel
theorem dX8_readFeast_51 : decode mX8_readFeast.2.1 51 = .ok (.invokestatic 196, 3) := by decide +kernel
theorem dX8_readFeast_54 : decode mX8_readFeast.2.1 54 = .ok (.invokevirtual 169, 3) := by decide +kernel
theorem dX8_readFeast_57 : decode mX8_readFeast.2.1 57 = .ok (.ifCond .eq 19, 3) := by decide +kernel
theorem dX8_readFeast_60 : decode mX8_readFeast.2.1 60 = .ok (.aload_n 0, 1) := by decide +kernel
theorem dX8_readFeast_61 : decode mX8_readFeast.2.1 61 = .ok (.bipush 35, 2) := by decide +kernel
theorem dX8_readFeast_63 : decode mX8_readFeast.2.1 63 = .ok (.invokevirtual 129, 3) := by decide +kernel
theorem dX8_readFeast_66 : decode mX8_readFeast.2.1 66 = .ok (.ifCond .eq 10, 3) := by decide +kernel
theorem dX8_readFeast_69 : decode mX8_readFeast.2.1 69 = .ok (.aload_n 0, 1) := by decide +kernel
theorem dX8_readFeast_70 : decode mX8_readFeast.2.1 70 = .ok (.invokevirtual 187, 3) := by decide +kernel
theorem dX8_readFeast_73 : decode mX8_readFeast.2.1 73 = .ok (.ifCond .ne 5, 3) := by decide +kernel
theorem dX8_readFeast_76 : decode mX8_readFeast.2.1 76 = .ok (.iconst 0, 1) := by decide +kernel
theorem dX8_readFeast_77 : decode mX8_readFeast.2.1 77 = .ok (.ireturn, 1) := by decide +kernel
theorem dX8_readFeast_78 : decode mX8_readFeast.2.1 78 = .ok (.aload_n 1, 1) := by decide +kernel
theorem dX8_readFeast_79 : decode mX8_readFeast.2.1 79 = .ok (.iload_n 2, 1) := by decide +kernel
theorem dX8_readFeast_80 : decode mX8_readFeast.2.1 80 = .ok (.bipush 100, 2) := by decide +kernel
theorem dX8_readFeast_82 : decode mX8_readFeast.2.1 82 = .ok (.imul, 1) := by decide +kernel
theorem dX8_readFeast_83 : decode mX8_readFeast.2.1 83 = .ok (.aload_n 0, 1) := by decide +kernel
theorem dX8_readFeast_84 : decode mX8_readFeast.2.1 84 = .ok (.getfield 17, 3) := by decide +kernel
theorem dX8_readFeast_87 : decode mX8_readFeast.2.1 87 = .ok (.iconst 3, 1) := by decide +kernel
theorem dX8_readFeast_88 : decode mX8_readFeast.2.1 88 = .ok (.iaload, 1) := by decide +kernel
theorem dX8_readFeast_89 : decode mX8_readFeast.2.1 89 = .ok (.iadd, 1) := by decide +kernel
theorem dX8_readFeast_90 : decode mX8_readFeast.2.1 90 = .ok (.aload_n 0, 1) := by decide +kernel
theorem dX8_readFeast_91 : decode mX8_readFeast.2.1 91 = .ok (.iconst 5, 1) := by decide +kernel
theorem dX8_readFeast_92 : decode mX8_readFeast.2.1 92 = .ok (.invokevirtual 163, 3) := by decide +kernel
theorem dX8_readFeast_95 : decode mX8_readFeast.2.1 95 = .ok (.invokevirtual 201, 3) := by decide +kernel
theorem dX8_readFeast_98 : decode mX8_readFeast.2.1 98 = .ok (.iconst 1, 1) := by decide +kernel
theorem dX8_readFeast_99 : decode mX8_readFeast.2.1 99 = .ok (.ireturn, 1) := by decide +kernel
theorem bX8_readFeast_0 {SC : Nat → Nat} {X : mh_X} {d : Nat} {Q : Option am_V → am_W → Prop} {bc bs : Nat} {w : am_W} {j1 : Nat}
    (h : am_M (mh_G X) SC d 0 0 mX3_hasRoomForFeast [.inr (.inr (some (10, j1)))] w (fun r w1 => am_A (mh_G X) SC (d + 1) mX8_readFeast Q 4 [(0, .inr (.inr (some (2, 0)))), (1, .inr (.inr (some (10, j1))))] (r.toList ++ []) w1 bc bs)) :
    am_A (mh_G X) SC (d + 1) mX8_readFeast Q 0 [(0, .inr (.inr (some (2, 0)))), (1, .inr (.inr (some (10, j1))))] [] w bc bs := by
  refine am_aload_n dX8_readFeast_0 (List.Mem.tail _ (List.Mem.head _)) ?_
  exact am_callv (d' := d) (kc := 0) (ks := 0) (as := []) dX8_readFeast_1 wc_X3_hasRoomForFeast wd_889 wd_890 wd_891 wd_116 ds_X3_hasRoomForFeast (by decide) (Nat.le_refl _) (Nat.le_of_ble_eq_true rfl) (Nat.zero_le _) (Nat.zero_le _) hc_4 (by decide) rfl rfl h
theorem bX8_readFeast_4 {SC : Nat → Nat} {X : mh_X} {d : Nat} {Q : Option am_V → am_W → Prop} {bc bs : Nat} {w : am_W} {j1 : Nat} {xs0 : Int}
    (h : ((¬ xs0 = 0 → am_M (mh_G X) SC d 0 0 mX8_expectNumber [.inr (.inr (some (2, 0))), .inl 1, .inl 12] ((am_up w.1 2 0 9 1), w.2) (fun r w1 => am_A (mh_G X) SC (d + 1) mX8_readFeast Q 26 [(0, .inr (.inr (some (2, 0)))), (1, .inr (.inr (some (10, j1))))] (r.toList ++ []) w1 bc bs)) ∧ (xs0 = 0 → am_M (mh_G X) SC d 0 0 mX8_fail [.inr (.inr (some (2, 0))), .inl 6] w (fun r w1 => am_A (mh_G X) SC (d + 1) mX8_readFeast Q 13 [(0, .inr (.inr (some (2, 0)))), (1, .inr (.inr (some (10, j1))))] (r.toList ++ []) w1 bc bs)))) :
    am_A (mh_G X) SC (d + 1) mX8_readFeast Q 4 [(0, .inr (.inr (some (2, 0)))), (1, .inr (.inr (some (10, j1))))] [.inl xs0] w bc bs := by
  refine am_ifne (tgt := 14) dX8_readFeast_4 (by decide) (fun c1 => ?_) (fun c1 => ?_)
  · replace h := h.1 c1
    refine am_aload_n dX8_readFeast_14 (List.Mem.head _) ?_
    refine am_iconst dX8_readFeast_15 (by unfold am_rg; omega) ?_
    refine am_putf (f := 9) dX8_readFeast_16 hc_1 (by decide) wd_163 rfl (Or.inl rfl) (Or.inl (by decide)) rfl ?_
    refine am_aload_n dX8_readFeast_19 (List.Mem.head _) ?_
    refine am_iconst dX8_readFeast_20 (by unfold am_rg; omega) ?_
    refine am_bipush dX8_readFeast_21 (by decide) (by unfold am_rg; omega) ?_
    exact am_callv (d' := d) (kc := 0) (ks := 0) (as := [.inl 1, .inl 12]) dX8_readFeast_23 wc_X8_expectNumber wd_841 wd_843 wd_13 wd_113 ds_X8_expectNumber (by decide) (Nat.le_refl _) (Nat.le_of_ble_eq_true rfl) (Nat.zero_le _) (Nat.zero_le _) hc_1 (by decide) rfl rfl h
  · replace h := h.2 c1
    refine am_aload_n dX8_readFeast_7 (List.Mem.head _) ?_
    refine am_bipush dX8_readFeast_8 (by decide) (by unfold am_rg; omega) ?_
    exact am_callv (d' := d) (kc := 0) (ks := 0) (as := [.inl 6]) dX8_readFeast_10 wc_X8_fail wd_787 wd_789 wd_6 wd_113 ds_X8_fail (by decide) (Nat.le_refl _) (Nat.le_of_ble_eq_true rfl) (Nat.zero_le _) (Nat.zero_le _) hc_1 (by decide) rfl rfl h
theorem bX8_readFeast_26 {SC : Nat → Nat} {X : mh_X} {d : Nat} {Q : Option am_V → am_W → Prop} {bc bs : Nat} {w : am_W} {j1 : Nat} {xs0 : Int}
    (h : ((¬ xs0 = 0 → am_M (mh_G X) SC d 0 0 mX8_expect [.inr (.inr (some (2, 0))), .inl 45] w (fun r w1 => am_A (mh_G X) SC (d + 1) mX8_readFeast Q 44 [(2, .inl (w.1 26 0 1)), (0, .inr (.inr (some (2, 0)))), (1, .inr (.inr (some (10, j1))))] (r.toList ++ []) w1 bc bs)) ∧ (xs0 = 0 → Q (some (.inl 0)) w))) :
    am_A (mh_G X) SC (d + 1) mX8_readFeast Q 26 [(0, .inr (.inr (some (2, 0)))), (1, .inr (.inr (some (10, j1))))] [.inl xs0] w bc bs := by
  refine am_ifne (tgt := 31) dX8_readFeast_26 (by decide) (fun c1 => ?_) (fun c1 => ?_)
  · replace h := h.1 c1
    refine am_aload_n dX8_readFeast_31 (List.Mem.head _) ?_
    refine am_getf (f := 2) (v := .inr (.inr (some (26, 0)))) dX8_readFeast_32 hc_1 (by decide) wd_152 (by decide) rfl rfl ?_
    refine am_iconst dX8_readFeast_35 (by unfold am_rg; omega) ?_
    refine am_iaload (v := (w.1 26 0 1)) dX8_readFeast_36 (by decide) rfl (by decide) (show (1 : Int) < (64 : Nat) by decide) rfl ?_
    refine am_istore_n (ls' := [(2, .inl (w.1 26 0 1)), (0, .inr (.inr (some (2, 0)))), (1, .inr (.inr (some (10, j1))))]) dX8_readFeast_37 (by decide) rfl ?_
    refine am_aload_n dX8_readFeast_38 (List.Mem.tail _ (List.Mem.head _)) ?_
    refine am_bipush dX8_readFeast_39 (by decide) (by unfold am_rg; omega) ?_
    exact am_callv (d' := d) (kc := 0) (ks := 0) (as := [.inl 45]) dX8_readFeast_41 wc_X8_expect wd_867 wd_869 wd_16 wd_113 ds_X8_expect (by decide) (Nat.le_refl _) (Nat.le_of_ble_eq_true rfl) (Nat.zero_le _) (Nat.zero_le _) hc_1 (by decide) rfl rfl h
  · replace h := h.2 c1
    refine am_iconst dX8_readFeast_29 (by unfold am_rg; omega) ?_
    exact am_ret (r := some (.inl 0)) dX8_readFeast_30 (Or.inr (Or.inl ⟨rfl, (Or.inl rfl)⟩)) rfl h
theorem bX8_readFeast_13 {SC : Nat → Nat} {X : mh_X} {d : Nat} {Q : Option am_V → am_W → Prop} {bc bs : Nat} {w : am_W} {j1 : Nat} {xs0 : Int}
    (h : ((xs0 = 0 ∨ xs0 = 1) ∧ Q (some (.inl xs0)) w)) :
    am_A (mh_G X) SC (d + 1) mX8_readFeast Q 13 [(0, .inr (.inr (some (2, 0)))), (1, .inr (.inr (some (10, j1))))] [.inl xs0] w bc bs := by
  have o1 := h.1
  replace h := h.2
  exact am_ret (r := some (.inl xs0)) dX8_readFeast_13 (Or.inr (Or.inl ⟨rfl, o1⟩)) rfl h
theorem bX8_readFeast_44 {SC : Nat → Nat} {X : mh_X} {d : Nat} {Q : Option am_V → am_W → Prop} {bc bs : Nat} {w : am_W} {x2 : Int} {j1 : Nat} {xs0 : Int}
    (h : ((xs0 = 0 → Q (some (.inl 0)) w) ∧ (¬ xs0 = 0 → am_M (mh_G X) SC d 0 0 mX0_lengthOf [.inl 0, .inl x2] w (fun r w1 => am_A (mh_G X) SC (d + 1) mX8_readFeast Q 54 [(2, .inl x2), (0, .inr (.inr (some (2, 0)))), (1, .inr (.inr (some (10, j1))))] (r.toList ++ [.inl 1, .inr (.inr (some (2, 0)))]) w1 bc bs)))) :
    am_A (mh_G X) SC (d + 1) mX8_readFeast Q 44 [(2, .inl x2), (0, .inr (.inr (some (2, 0)))), (1, .inr (.inr (some (10, j1))))] [.inl xs0] w bc bs := by
  refine am_ifeq (tgt := 76) dX8_readFeast_44 (by decide) (fun c1 => ?_) (fun c1 => ?_)
  · replace h := h.1 c1
    refine am_iconst dX8_readFeast_76 (by unfold am_rg; omega) ?_
    exact am_ret (r := some (.inl 0)) dX8_readFeast_77 (Or.inr (Or.inl ⟨rfl, (Or.inl rfl)⟩)) rfl h
  · replace h := h.2 c1
    refine am_aload_n dX8_readFeast_47 (List.Mem.tail _ (List.Mem.head _)) ?_
    refine am_iconst dX8_readFeast_48 (by unfold am_rg; omega) ?_
    refine am_iconst dX8_readFeast_49 (by unfold am_rg; omega) ?_
    refine am_iload_n dX8_readFeast_50 (List.Mem.head _) ?_
    exact am_calls (d' := d) (kc := 0) (ks := 0) (as := [.inl 0, .inl x2]) dX8_readFeast_51 wc_X0_lengthOf wd_893 wd_894 wd_129 ds_X0_lengthOf (by decide) (Nat.le_refl _) (Nat.le_of_ble_eq_true rfl) (Nat.zero_le _) (Nat.zero_le _) rfl h
theorem bX8_readFeast_54 {SC : Nat → Nat} {X : mh_X} {d : Nat} {Q : Option am_V → am_W → Prop} {bc bs : Nat} {w : am_W} {x2 : Int} {j1 : Nat} {xs0 : Int} {xs1 : Int}
    (h : am_M (mh_G X) SC d 0 0 mX8_expectNumber [.inr (.inr (some (2, 0))), .inl xs1, .inl xs0] w (fun r w1 => am_A (mh_G X) SC (d + 1) mX8_readFeast Q 57 [(2, .inl x2), (0, .inr (.inr (some (2, 0)))), (1, .inr (.inr (some (10, j1))))] (r.toList ++ []) w1 bc bs)) :
    am_A (mh_G X) SC (d + 1) mX8_readFeast Q 54 [(2, .inl x2), (0, .inr (.inr (some (2, 0)))), (1, .inr (.inr (some (10, j1))))] [.inl xs0, .inl xs1, .inr (.inr (some (2, 0)))] w bc bs := by
  exact am_callv (d' := d) (kc := 0) (ks := 0) (as := [.inl xs1, .inl xs0]) dX8_readFeast_54 wc_X8_expectNumber wd_841 wd_843 wd_13 wd_113 ds_X8_expectNumber (by decide) (Nat.le_refl _) (Nat.le_of_ble_eq_true rfl) (Nat.zero_le _) (Nat.zero_le _) hc_1 (by decide) rfl rfl h
theorem bX8_readFeast_57 {SC : Nat → Nat} {X : mh_X} {d : Nat} {Q : Option am_V → am_W → Prop} {bc bs : Nat} {w : am_W} {x2 : Int} {j1 : Nat} {xs0 : Int}
    (h : ((xs0 = 0 → Q (some (.inl 0)) w) ∧ (¬ xs0 = 0 → am_M (mh_G X) SC d 0 0 mX8_expect [.inr (.inr (some (2, 0))), .inl 35] w (fun r w1 => am_A (mh_G X) SC (d + 1) mX8_readFeast Q 66 [(2, .inl x2), (0, .inr (.inr (some (2, 0)))), (1, .inr (.inr (some (10, j1))))] (r.toList ++ []) w1 bc bs)))) :
    am_A (mh_G X) SC (d + 1) mX8_readFeast Q 57 [(2, .inl x2), (0, .inr (.inr (some (2, 0)))), (1, .inr (.inr (some (10, j1))))] [.inl xs0] w bc bs := by
  refine am_ifeq (tgt := 76) dX8_readFeast_57 (by decide) (fun c1 => ?_) (fun c1 => ?_)
  · replace h := h.1 c1
    refine am_iconst dX8_readFeast_76 (by unfold am_rg; omega) ?_
    exact am_ret (r := some (.inl 0)) dX8_readFeast_77 (Or.inr (Or.inl ⟨rfl, (Or.inl rfl)⟩)) rfl h
  · replace h := h.2 c1
    refine am_aload_n dX8_readFeast_60 (List.Mem.tail _ (List.Mem.head _)) ?_
    refine am_bipush dX8_readFeast_61 (by decide) (by unfold am_rg; omega) ?_
    exact am_callv (d' := d) (kc := 0) (ks := 0) (as := [.inl 35]) dX8_readFeast_63 wc_X8_expect wd_867 wd_869 wd_16 wd_113 ds_X8_expect (by decide) (Nat.le_refl _) (Nat.le_of_ble_eq_true rfl) (Nat.zero_le _) (Nat.zero_le _) hc_1 (by decide) rfl rfl h
theorem bX8_readFeast_66 {SC : Nat → Nat} {X : mh_X} {d : Nat} {Q : Option am_V → am_W → Prop} {bc bs : Nat} {w : am_W} {x2 : Int} {j1 : Nat} {xs0 : Int}
    (h : ((xs0 = 0 → Q (some (.inl 0)) w) ∧ (¬ xs0 = 0 → am_M (mh_G X) SC d 0 0 mX8_expectStuff [.inr (.inr (some (2, 0)))] w (fun r w1 => am_A (mh_G X) SC (d + 1) mX8_readFeast Q 73 [(2, .inl x2), (0, .inr (.inr (some (2, 0)))), (1, .inr (.inr (some (10, j1))))] (r.toList ++ []) w1 bc bs)))) :
    am_A (mh_G X) SC (d + 1) mX8_readFeast Q 66 [(2, .inl x2), (0, .inr (.inr (some (2, 0)))), (1, .inr (.inr (some (10, j1))))] [.inl xs0] w bc bs := by
  refine am_ifeq (tgt := 76) dX8_readFeast_66 (by decide) (fun c1 => ?_) (fun c1 => ?_)
  · replace h := h.1 c1
    refine am_iconst dX8_readFeast_76 (by unfold am_rg; omega) ?_
    exact am_ret (r := some (.inl 0)) dX8_readFeast_77 (Or.inr (Or.inl ⟨rfl, (Or.inl rfl)⟩)) rfl h
  · replace h := h.2 c1
    refine am_aload_n dX8_readFeast_69 (List.Mem.tail _ (List.Mem.head _)) ?_
    exact am_callv (d' := d) (kc := 0) (ks := 0) (as := []) dX8_readFeast_70 wc_X8_expectStuff wd_878 wd_880 wd_18 wd_113 ds_X8_expectStuff (by decide) (Nat.le_refl _) (Nat.le_of_ble_eq_true rfl) (Nat.zero_le _) (Nat.zero_le _) hc_1 (by decide) rfl rfl h
theorem bX8_readFeast_73 {SC : Nat → Nat} {X : mh_X} {d : Nat} {Q : Option am_V → am_W → Prop} {bc bs : Nat} {w : am_W} {x2 : Int} {j1 : Nat} {xs0 : Int}
    (h : ((¬ xs0 = 0 → am_M (mh_G X) SC d 0 0 mX8_depthAt [.inr (.inr (some (2, 0))), .inl 5] w (fun r w1 => am_A (mh_G X) SC (d + 1) mX8_readFeast Q 95 [(2, .inl x2), (0, .inr (.inr (some (2, 0)))), (1, .inr (.inr (some (10, j1))))] (r.toList ++ [.inl (am_w ((am_w (x2 * 100)) + (w.1 26 0 3))), .inr (.inr (some (10, j1)))]) w1 bc bs)) ∧ (xs0 = 0 → Q (some (.inl 0)) w))) :
    am_A (mh_G X) SC (d + 1) mX8_readFeast Q 73 [(2, .inl x2), (0, .inr (.inr (some (2, 0)))), (1, .inr (.inr (some (10, j1))))] [.inl xs0] w bc bs := by
  refine am_ifne (tgt := 78) dX8_readFeast_73 (by decide) (fun c1 => ?_) (fun c1 => ?_)
  · replace h := h.1 c1
    refine am_aload_n dX8_readFeast_78 (List.Mem.tail _ (List.Mem.tail _ (List.Mem.head _))) ?_
    refine am_iload_n dX8_readFeast_79 (List.Mem.head _) ?_
    refine am_bipush dX8_readFeast_80 (by decide) (by unfold am_rg; omega) ?_
    refine am_imul dX8_readFeast_82 ?_
    refine am_aload_n dX8_readFeast_83 (List.Mem.tail _ (List.Mem.head _)) ?_
    refine am_getf (f := 2) (v := .inr (.inr (some (26, 0)))) dX8_readFeast_84 hc_1 (by decide) wd_152 (by decide) rfl rfl ?_
    refine am_iconst dX8_readFeast_87 (by unfold am_rg; omega) ?_
    refine am_iaload (v := (w.1 26 0 3)) dX8_readFeast_88 (by decide) rfl (by decide) (show (3 : Int) < (64 : Nat) by decide) rfl ?_
    refine am_iadd dX8_readFeast_89 ?_
    refine am_aload_n dX8_readFeast_90 (List.Mem.tail _ (List.Mem.head _)) ?_
    refine am_iconst dX8_readFeast_91 (by unfold am_rg; omega) ?_
    exact am_callv (d' := d) (kc := 0) (ks := 0) (as := [.inl 5]) dX8_readFeast_92 wc_X8_depthAt wd_833 wd_835 wd_12 wd_113 ds_X8_depthAt (by decide) (Nat.le_refl _) (Nat.le_of_ble_eq_true rfl) (Nat.zero_le _) (Nat.zero_le _) hc_1 (by decide) rfl rfl h
  · replace h := h.2 c1
    refine am_iconst dX8_readFeast_76 (by unfold am_rg; omega) ?_
    exact am_ret (r := some (.inl 0)) dX8_readFeast_77 (Or.inr (Or.inl ⟨rfl, (Or.inl rfl)⟩)) rfl h
theorem bX8_readFeast_95 {SC : Nat → Nat} {X : mh_X} {d : Nat} {Q : Option am_V → am_W → Prop} {bc bs : Nat} {w : am_W} {x2 : Int} {j1 : Nat} {xs0 : Int} {xs1 : Int} {js2 : Nat}
    (h : am_M (mh_G X) SC d 0 0 mX3_addFeast [.inr (.inr (some (10, js2))), .inl xs1, .inl xs0] w (fun r w1 => am_A (mh_G X) SC (d + 1) mX8_readFeast Q 98 [(2, .inl x2), (0, .inr (.inr (some (2, 0)))), (1, .inr (.inr (some (10, j1))))] (r.toList ++ []) w1 bc bs)) :
    am_A (mh_G X) SC (d + 1) mX8_readFeast Q 95 [(2, .inl x2), (0, .inr (.inr (some (2, 0)))), (1, .inr (.inr (some (10, j1))))] [.inl xs0, .inl xs1, .inr (.inr (some (10, js2)))] w bc bs := by
  exact am_callv (d' := d) (kc := 0) (ks := 0) (as := [.inl xs1, .inl xs0]) dX8_readFeast_95 wc_X3_addFeast wd_896 wd_897 wd_898 wd_116 ds_X3_addFeast (by decide) (Nat.le_refl _) (Nat.le_of_ble_eq_true rfl) (Nat.zero_le _) (Nat.zero_le _) hc_4 (by decide) rfl rfl h
theorem bX8_readFeast_98 {SC : Nat → Nat} {X : mh_X} {d : Nat} {Q : Option am_V → am_W → Prop} {bc bs : Nat} {w : am_W} {x2 : Int} {j1 : Nat}
    (h : Q (some (.inl 1)) w) :
    am_A (mh_G X) SC (d + 1) mX8_readFeast Q 98 [(2, .inl x2), (0, .inr (.inr (some (2, 0)))), (1, .inr (.inr (some (10, j1))))] [] w bc bs := by
  refine am_iconst dX8_readFeast_98 (by unfold am_rg; omega) ?_
  exact am_ret (r := some (.inl 1)) dX8_readFeast_99 (Or.inr (Or.inl ⟨rfl, (Or.inr rfl)⟩)) rfl h
-- MourningHouse$Reader.readHeir(LMourningHouse$Law;)Z
theorem dX8_readHeir_0 : decode mX8_readHeir.2.1 0 = .ok (.aload_n 0, 1) := by decide +kernel
theorem dX8_readHeir_1 : decode mX8_readHeir.2.1 1 = .ok (.iconst 1, 1) := by decide +kernel
theorem dX8_readHeir_2 : decode mX8_readHeir.2.1 2 = .ok (.putfield 39, 3) := by decide +kernel
theorem dX8_readHeir_5 : decode mX8_readHeir.2.1 5 = .ok (.aload_n 0, 1) := by decide +kernel
theorem dX8_readHeir_6 : decode mX8_readHeir.2.1 6 = .ok (.iconst 1, 1) := by decide +kernel
theorem dX8_readHeir_7 : decode mX8_readHeir.2.1 7 = .ok (.sipush 400, 3) := by decide +kernel
theorem dX8_readHeir_10 : decode mX8_readHeir.2.1 10 = .ok (.invokevirtual 169, 3) := by decide +kernel
theorem dX8_readHeir_13 : decode mX8_readHeir.2.1 13 = .ok (.ifCond .eq 28, 3) := by decide +kernel
theorem dX8_readHeir_16 : decode mX8_readHeir.2.1 16 = .ok (.aload_n 0, 1) := by decide +kernel
theorem dX8_readHeir_17 : decode mX8_readHeir.2.1 17 = .ok (.bipush 17, 2) := by decide +kernel
theorem dX8_readHeir_19 : decode mX8_readHeir.2.1 19 = .ok (.invokevirtual 129, 3) := by decide +kernel
theorem dX8_readHeir_22 : decode mX8_readHeir.2.1 22 = .ok (.ifCond .eq 19, 3) := by decide +kernel
theorem dX8_readHeir_25 : decode mX8_readHeir.2.1 25 = .ok (.aload_n 0, 1) := by decide +kernel
theorem dX8_readHeir_26 : decode mX8_readHeir.2.1 26 = .ok (.bipush 35, 2) := by decide +kernel
theorem dX8_readHeir_28 : decode mX8_readHeir.2.1 28 = .ok (.invokevirtual 129, 3) := by decide +kernel
theorem dX8_readHeir_31 : decode mX8_readHeir.2.1 31 = .ok (.ifCond .eq 10, 3) := by decide +kernel
theorem dX8_readHeir_34 : decode mX8_readHeir.2.1 34 = .ok (.aload_n 0, 1) := by decide +kernel
theorem dX8_readHeir_35 : decode mX8_readHeir.2.1 35 = .ok (.invokevirtual 187, 3) := by decide +kernel
theorem dX8_readHeir_38 : decode mX8_readHeir.2.1 38 = .ok (.ifCond .ne 5, 3) := by decide +kernel
theorem dX8_readHeir_41 : decode mX8_readHeir.2.1 41 = .ok (.iconst 0, 1) := by decide +kernel
theorem dX8_readHeir_42 : decode mX8_readHeir.2.1 42 = .ok (.ireturn, 1) := by decide +kernel
theorem dX8_readHeir_43 : decode mX8_readHeir.2.1 43 = .ok (.aload_n 1, 1) := by decide +kernel
theorem dX8_readHeir_44 : decode mX8_readHeir.2.1 44 = .ok (.aload_n 0, 1) := by decide +kernel
theorem dX8_readHeir_45 : decode mX8_readHeir.2.1 45 = .ok (.getfield 17, 3) := by decide +kernel
theorem dX8_readHeir_48 : decode mX8_readHeir.2.1 48 = .ok (.iconst 1, 1) := by decide +kernel
theorem dX8_readHeir_49 : decode mX8_readHeir.2.1 49 = .ok (.iaload, 1) := by decide +kernel
theorem dX8_readHeir_50 : decode mX8_readHeir.2.1 50 = .ok (.putfield 205, 3) := by decide +kernel
theorem dX8_readHeir_53 : decode mX8_readHeir.2.1 53 = .ok (.aload_n 1, 1) := by decide +kernel
theorem dX8_readHeir_54 : decode mX8_readHeir.2.1 54 = .ok (.aload_n 0, 1) := by decide +kernel
theorem dX8_readHeir_55 : decode mX8_readHeir.2.1 55 = .ok (.iconst 4, 1) := by decide +kernel
theorem dX8_readHeir_56 : decode mX8_readHeir.2.1 56 = .ok (.invokevirtual 163, 3) := by decide +kernel
theorem dX8_readHeir_59 : decode mX8_readHeir.2.1 59 = .ok (.putfield 208, 3) := by decide +kernel
theorem dX8_readHeir_62 : decode mX8_readHeir.2.1 62 = .ok (.iconst 1, 1) := by decide +kernel
theorem dX8_readHeir_63 : decode mX8_readHeir.2.1 63 = .ok (.ireturn, 1) := by decide +kernel
theorem bX8_readHeir_0 {SC : Nat → Nat} {X : mh_X} {d : Nat} {Q : Option am_V → am_W → Prop} {bc bs : Nat} {w : am_W} {j1 : Nat}
    (h : am_M (mh_G X) SC d 0 0 mX8_expectNumber [.inr (.inr (some (2, 0))), .inl 1, .inl 400] ((am_up w.1 2 0 9 1), w.2) (fun r w1 => am_A (mh_G X) SC (d + 1) mX8_readHeir Q 13 [(0, .inr (.inr (some (2, 0)))), (1, .inr (.inr (some (10, j1))))] (r.toList ++ []) w1 bc bs)) :
    am_A (mh_G X) SC (d + 1) mX8_readHeir Q 0 [(0, .inr (.inr (some (2, 0)))), (1, .inr (.inr (some (10, j1))))] [] w bc bs := by
  refine am_aload_n dX8_readHeir_0 (List.Mem.head _) ?_
  refine am_iconst dX8_readHeir_1 (by unfold am_rg; omega) ?_
  refine am_putf (f := 9) dX8_readHeir_2 hc_1 (by decide) wd_163 rfl (Or.inl rfl) (Or.inl (by decide)) rfl ?_
  refine am_aload_n dX8_readHeir_5 (List.Mem.head _) ?_
  refine am_iconst dX8_readHeir_6 (by unfold am_rg; omega) ?_
  refine am_sipush dX8_readHeir_7 (by decide) (by unfold am_rg; omega) ?_
  exact am_callv (d' := d) (kc := 0) (ks := 0) (as := [.inl 1, .inl 400]) dX8_readHeir_10 wc_X8_expectNumber wd_841 wd_843 wd_13 wd_113 ds_X8_expectNumber (by decide) (Nat.le_refl _) (Nat.le_of_ble_eq_true rfl) (Nat.zero_le _) (Nat.zero_le _) hc_1 (by decide) rfl rfl h
theorem bX8_readHeir_13 {SC : Nat → Nat} {X : mh_X} {d : Nat} {Q : Option am_V → am_W → Prop} {bc bs : Nat} {w : am_W} {j1 : Nat} {xs0 : Int}
    (h : ((xs0 = 0 → Q (some (.inl 0)) w) ∧ (¬ xs0 = 0 → am_M (mh_G X) SC d 0 0 mX8_expect [.inr (.inr (some (2, 0))), .inl 17] w (fun r w1 => am_A (mh_G X) SC (d + 1) mX8_readHeir Q 22 [(0, .inr (.inr (some (2, 0)))), (1, .inr (.inr (some (10, j1))))] (r.toList ++ []) w1 bc bs)))) :
    am_A (mh_G X) SC (d + 1) mX8_readHeir Q 13 [(0, .inr (.inr (some (2, 0)))), (1, .inr (.inr (some (10, j1))))] [.inl xs0] w bc bs := by
  refine am_ifeq (tgt := 41) dX8_readHeir_13 (by decide) (fun c1 => ?_) (fun c1 => ?_)
  · replace h := h.1 c1
    refine am_iconst dX8_readHeir_41 (by unfold am_rg; omega) ?_
    exact am_ret (r := some (.inl 0)) dX8_readHeir_42 (Or.inr (Or.inl ⟨rfl, (Or.inl rfl)⟩)) rfl h
  · replace h := h.2 c1
    refine am_aload_n dX8_readHeir_16 (List.Mem.head _) ?_
    refine am_bipush dX8_readHeir_17 (by decide) (by unfold am_rg; omega) ?_
    exact am_callv (d' := d) (kc := 0) (ks := 0) (as := [.inl 17]) dX8_readHeir_19 wc_X8_expect wd_867 wd_869 wd_16 wd_113 ds_X8_expect (by decide) (Nat.le_refl _) (Nat.le_of_ble_eq_true rfl) (Nat.zero_le _) (Nat.zero_le _) hc_1 (by decide) rfl rfl h
theorem bX8_readHeir_22 {SC : Nat → Nat} {X : mh_X} {d : Nat} {Q : Option am_V → am_W → Prop} {bc bs : Nat} {w : am_W} {j1 : Nat} {xs0 : Int}
    (h : ((xs0 = 0 → Q (some (.inl 0)) w) ∧ (¬ xs0 = 0 → am_M (mh_G X) SC d 0 0 mX8_expect [.inr (.inr (some (2, 0))), .inl 35] w (fun r w1 => am_A (mh_G X) SC (d + 1) mX8_readHeir Q 31 [(0, .inr (.inr (some (2, 0)))), (1, .inr (.inr (some (10, j1))))] (r.toList ++ []) w1 bc bs)))) :
    am_A (mh_G X) SC (d + 1) mX8_readHeir Q 22 [(0, .inr (.inr (some (2, 0)))), (1, .inr (.inr (some (10, j1))))] [.inl xs0] w bc bs := by
  refine am_ifeq (tgt := 41) dX8_readHeir_22 (by decide) (fun c1 => ?_) (fun c1 => ?_)
  · replace h := h.1 c1
    refine am_iconst dX8_readHeir_41 (by unfold am_rg; omega) ?_
    exact am_ret (r := some (.inl 0)) dX8_readHeir_42 (Or.inr (Or.inl ⟨rfl, (Or.inl rfl)⟩)) rfl h
  · replace h := h.2 c1
    refine am_aload_n dX8_readHeir_25 (List.Mem.head _) ?_
    refine am_bipush dX8_readHeir_26 (by decide) (by unfold am_rg; omega) ?_
    exact am_callv (d' := d) (kc := 0) (ks := 0) (as := [.inl 35]) dX8_readHeir_28 wc_X8_expect wd_867 wd_869 wd_16 wd_113 ds_X8_expect (by decide) (Nat.le_refl _) (Nat.le_of_ble_eq_true rfl) (Nat.zero_le _) (Nat.zero_le _) hc_1 (by decide) rfl rfl h
theorem bX8_readHeir_31 {SC : Nat → Nat} {X : mh_X} {d : Nat} {Q : Option am_V → am_W → Prop} {bc bs : Nat} {w : am_W} {j1 : Nat} {xs0 : Int}
    (h : ((xs0 = 0 → Q (some (.inl 0)) w) ∧ (¬ xs0 = 0 → am_M (mh_G X) SC d 0 0 mX8_expectStuff [.inr (.inr (some (2, 0)))] w (fun r w1 => am_A (mh_G X) SC (d + 1) mX8_readHeir Q 38 [(0, .inr (.inr (some (2, 0)))), (1, .inr (.inr (some (10, j1))))] (r.toList ++ []) w1 bc bs)))) :
    am_A (mh_G X) SC (d + 1) mX8_readHeir Q 31 [(0, .inr (.inr (some (2, 0)))), (1, .inr (.inr (some (10, j1))))] [.inl xs0] w bc bs := by
  refine am_ifeq (tgt := 41) dX8_readHeir_31 (by decide) (fun c1 => ?_) (fun c1 => ?_)
  · replace h := h.1 c1
    refine am_iconst dX8_readHeir_41 (by unfold am_rg; omega) ?_
    exact am_ret (r := some (.inl 0)) dX8_readHeir_42 (Or.inr (Or.inl ⟨rfl, (Or.inl rfl)⟩)) rfl h
  · replace h := h.2 c1
    refine am_aload_n dX8_readHeir_34 (List.Mem.head _) ?_
    exact am_callv (d' := d) (kc := 0) (ks := 0) (as := []) dX8_readHeir_35 wc_X8_expectStuff wd_878 wd_880 wd_18 wd_113 ds_X8_expectStuff (by decide) (Nat.le_refl _) (Nat.le_of_ble_eq_true rfl) (Nat.zero_le _) (Nat.zero_le _) hc_1 (by decide) rfl rfl h
theorem bX8_readHeir_38 {SC : Nat → Nat} {X : mh_X} {d : Nat} {Q : Option am_V → am_W → Prop} {bc bs : Nat} {w : am_W} {j1 : Nat} {xs0 : Int}
    (h : ((¬ xs0 = 0 → am_M (mh_G X) SC d 0 0 mX8_depthAt [.inr (.inr (some (2, 0))), .inl 4] ((am_up w.1 10 j1 12 (w.1 26 0 1)), w.2) (fun r w1 => am_A (mh_G X) SC (d + 1) mX8_readHeir Q 59 [(0, .inr (.inr (some (2, 0)))), (1, .inr (.inr (some (10, j1))))] (r.toList ++ [.inr (.inr (some (10, j1)))]) w1 bc bs)) ∧ (xs0 = 0 → Q (some (.inl 0)) w))) :
    am_A (mh_G X) SC (d + 1) mX8_readHeir Q 38 [(0, .inr (.inr (some (2, 0)))), (1, .inr (.inr (some (10, j1))))] [.inl xs0] w bc bs := by
  refine am_ifne (tgt := 43) dX8_readHeir_38 (by decide) (fun c1 => ?_) (fun c1 => ?_)
  · replace h := h.1 c1
    refine am_aload_n dX8_readHeir_43 (List.Mem.tail _ (List.Mem.head _)) ?_
    refine am_aload_n dX8_readHeir_44 (List.Mem.head _) ?_
    refine am_getf (f := 2) (v := .inr (.inr (some (26, 0)))) dX8_readHeir_45 hc_1 (by decide) wd_152 (by decide) rfl rfl ?_
    refine am_iconst dX8_readHeir_48 (by unfold am_rg; omega) ?_
    refine am_iaload (v := (w.1 26 0 1)) dX8_readHeir_49 (by decide) rfl (by decide) (show (1 : Int) < (64 : Nat) by decide) rfl ?_
    refine am_putf (f := 12) dX8_readHeir_50 hc_4 (by decide) wd_233 rfl (Or.inl rfl) (Or.inl (by decide)) rfl ?_
    refine am_aload_n dX8_readHeir_53 (List.Mem.tail _ (List.Mem.head _)) ?_
    refine am_aload_n dX8_readHeir_54 (List.Mem.head _) ?_
    refine am_iconst dX8_readHeir_55 (by unfold am_rg; omega) ?_
    exact am_callv (d' := d) (kc := 0) (ks := 0) (as := [.inl 4]) dX8_readHeir_56 wc_X8_depthAt wd_833 wd_835 wd_12 wd_113 ds_X8_depthAt (by decide) (Nat.le_refl _) (Nat.le_of_ble_eq_true rfl) (Nat.zero_le _) (Nat.zero_le _) hc_1 (by decide) rfl rfl h
  · replace h := h.2 c1
    refine am_iconst dX8_readHeir_41 (by unfold am_rg; omega) ?_
    exact am_ret (r := some (.inl 0)) dX8_readHeir_42 (Or.inr (Or.inl ⟨rfl, (Or.inl rfl)⟩)) rfl h
theorem bX8_readHeir_59 {SC : Nat → Nat} {X : mh_X} {d : Nat} {Q : Option am_V → am_W → Prop} {bc bs : Nat} {w : am_W} {j1 : Nat} {xs0 : Int} {js1 : Nat}
    (h : Q (some (.inl 1)) ((am_up w.1 10 js1 13 xs0), w.2)) :
    am_A (mh_G X) SC (d + 1) mX8_readHeir Q 59 [(0, .inr (.inr (some (2, 0)))), (1, .inr (.inr (some (10, j1))))] [.inl xs0, .inr (.inr (some (10, js1)))] w bc bs := by
  refine am_putf (f := 13) dX8_readHeir_59 hc_4 (by decide) wd_236 rfl (Or.inl rfl) (Or.inl (by decide)) rfl ?_
  refine am_iconst dX8_readHeir_62 (by unfold am_rg; omega) ?_
  exact am_ret (r := some (.inl 1)) dX8_readHeir_63 (Or.inr (Or.inl ⟨rfl, (Or.inr rfl)⟩)) rfl h
-- MourningHouse$Reader.readUnder(LMourningHouse$Law;)Z
theorem dX8_readUnder_0 : decode mX8_readUnder.2.1 0 = .ok (.aload_n 0, 1) := by decide +kernel
theorem dX8_readUnder_1 : decode mX8_readUnder.2.1 1 = .ok (.iconst 1, 1) := by decide +kernel
theorem dX8_readUnder_2 : decode mX8_readUnder.2.1 2 = .ok (.putfield 39, 3) := by decide +kernel
theorem dX8_readUnder_5 : decode mX8_readUnder.2.1 5 = .ok (.aload_n 0, 1) := by decide +kernel
theorem dX8_readUnder_6 : decode mX8_readUnder.2.1 6 = .ok (.iconst 1, 1) := by decide +kernel
theorem dX8_readUnder_7 : decode mX8_readUnder.2.1 7 = .ok (.bipush 30, 2) := by decide +kernel
theorem dX8_readUnder_9 : decode mX8_readUnder.2.1 9 = .ok (.invokevirtual 169, 3) := by decide +kernel
theorem dX8_readUnder_12 : decode mX8_readUnder.2.1 12 = .ok (.ifCond .eq 19, 3) := by decide +kernel
theorem dX8_readUnder_15 : decode mX8_readUnder.2.1 15 = .ok (.aload_n 0, 1) := by decide +kernel
theorem dX8_readUnder_16 : decode mX8_readUnder.2.1 16 = .ok (.bipush 35, 2) := by decide +kernel
theorem dX8_readUnder_18 : decode mX8_readUnder.2.1 18 = .ok (.invokevirtual 129, 3) := by decide +kernel
theorem dX8_readUnder_21 : decode mX8_readUnder.2.1 21 = .ok (.ifCond .eq 10, 3) := by decide +kernel
theorem dX8_readUnder_24 : decode mX8_readUnder.2.1 24 = .ok (.aload_n 0, 1) := by decide +kernel
theorem dX8_readUnder_25 : decode mX8_readUnder.2.1 25 = .ok (.invokevirtual 187, 3) := by decide +kernel
theorem dX8_readUnder_28 : decode mX8_readUnder.2.1 28 = .ok (.ifCond .ne 5, 3) := by decide +kernel
theorem dX8_readUnder_31 : decode mX8_readUnder.2.1 31 = .ok (.iconst 0, 1) := by decide +kernel
theorem dX8_readUnder_32 : decode mX8_readUnder.2.1 32 = .ok (.ireturn, 1) := by decide +kernel
theorem dX8_readUnder_33 : decode mX8_readUnder.2.1 33 = .ok (.aload_n 1, 1) := by decide +kernel
theorem dX8_readUnder_34 : decode mX8_readUnder.2.1 34 = .ok (.aload_n 0, 1) := by decide +kernel
theorem dX8_readUnder_35 : decode mX8_readUnder.2.1 35 = .ok (.getfield 17, 3) := by decide +kernel
theorem dX8_readUnder_38 : decode mX8_readUnder.2.1 38 = .ok (.iconst 1, 1) := by decide +kernel
theorem dX8_readUnder_39 : decode mX8_readUnder.2.1 39 = .ok (.iaload, 1) := by decide +kernel
theorem dX8_readUnder_40 : decode mX8_readUnder.2.1 40 = .ok (.putfield 211, 3) := by decide +kernel
theorem dX8_readUnder_43 : decode mX8_readUnder.2.1 43 = .ok (.aload_n 1, 1) := by decide +kernel
theorem dX8_readUnder_44 : decode mX8_readUnder.2.1 44 = .ok (.aload_n 0, 1) := by decide +kernel
theorem dX8_readUnder_45 : decode mX8_readUnder.2.1 45 = .ok (.iconst 3, 1) := by decide +kernel
theorem dX8_readUnder_46 : decode mX8_readUnder.2.1 46 = .ok (.invokevirtual 163, 3) := by decide +kernel
theorem dX8_readUnder_49 : decode mX8_readUnder.2.1 49 = .ok (.putfield 214, 3) := by decide +kernel
theorem dX8_readUnder_52 : decode mX8_readUnder.2.1 52 = .ok (.iconst 1, 1) := by decide +kernel
theorem dX8_readUnder_53 : decode mX8_readUnder.2.1 53 = .ok (.ireturn, 1) := by decide +kernel
theorem bX8_readUnder_0 {SC : Nat → Nat} {X : mh_X} {d : Nat} {Q : Option am_V → am_W → Prop} {bc bs : Nat} {w : am_W} {j1 : Nat}
    (h : am_M (mh_G X) SC d 0 0 mX8_expectNumber [.inr (.inr (some (2, 0))), .inl 1, .inl 30] ((am_up w.1 2 0 9 1), w.2) (fun r w1 => am_A (mh_G X) SC (d + 1) mX8_readUnder Q 12 [(0, .inr (.inr (some (2, 0)))), (1, .inr (.inr (some (10, j1))))] (r.toList ++ []) w1 bc bs)) :
    am_A (mh_G X) SC (d + 1) mX8_readUnder Q 0 [(0, .inr (.inr (some (2, 0)))), (1, .inr (.inr (some (10, j1))))] [] w bc bs := by
  refine am_aload_n dX8_readUnder_0 (List.Mem.head _) ?_
  refine am_iconst dX8_readUnder_1 (by unfold am_rg; omega) ?_
  refine am_putf (f := 9) dX8_readUnder_2 hc_1 (by decide) wd_163 rfl (Or.inl rfl) (Or.inl (by decide)) rfl ?_
  refine am_aload_n dX8_readUnder_5 (List.Mem.head _) ?_
  refine am_iconst dX8_readUnder_6 (by unfold am_rg; omega) ?_
  refine am_bipush dX8_readUnder_7 (by decide) (by unfold am_rg; omega) ?_
  exact am_callv (d' := d) (kc := 0) (ks := 0) (as := [.inl 1, .inl 30]) dX8_readUnder_9 wc_X8_expectNumber wd_841 wd_843 wd_13 wd_113 ds_X8_expectNumber (by decide) (Nat.le_refl _) (Nat.le_of_ble_eq_true rfl) (Nat.zero_le _) (Nat.zero_le _) hc_1 (by decide) rfl rfl h
theorem bX8_readUnder_12 {SC : Nat → Nat} {X : mh_X} {d : Nat} {Q : Option am_V → am_W → Prop} {bc bs : Nat} {w : am_W} {j1 : Nat} {xs0 : Int}
    (h : ((xs0 = 0 → Q (some (.inl 0)) w) ∧ (¬ xs0 = 0 → am_M (mh_G X) SC d 0 0 mX8_expect [.inr (.inr (some (2, 0))), .inl 35] w (fun r w1 => am_A (mh_G X) SC (d + 1) mX8_readUnder Q 21 [(0, .inr (.inr (some (2, 0)))), (1, .inr (.inr (some (10, j1))))] (r.toList ++ []) w1 bc bs)))) :
    am_A (mh_G X) SC (d + 1) mX8_readUnder Q 12 [(0, .inr (.inr (some (2, 0)))), (1, .inr (.inr (some (10, j1))))] [.inl xs0] w bc bs := by
  refine am_ifeq (tgt := 31) dX8_readUnder_12 (by decide) (fun c1 => ?_) (fun c1 => ?_)
  · replace h := h.1 c1
    refine am_iconst dX8_readUnder_31 (by unfold am_rg; omega) ?_
    exact am_ret (r := some (.inl 0)) dX8_readUnder_32 (Or.inr (Or.inl ⟨rfl, (Or.inl rfl)⟩)) rfl h
  · replace h := h.2 c1
    refine am_aload_n dX8_readUnder_15 (List.Mem.head _) ?_
    refine am_bipush dX8_readUnder_16 (by decide) (by unfold am_rg; omega) ?_
    exact am_callv (d' := d) (kc := 0) (ks := 0) (as := [.inl 35]) dX8_readUnder_18 wc_X8_expect wd_867 wd_869 wd_16 wd_113 ds_X8_expect (by decide) (Nat.le_refl _) (Nat.le_of_ble_eq_true rfl) (Nat.zero_le _) (Nat.zero_le _) hc_1 (by decide) rfl rfl h
theorem bX8_readUnder_21 {SC : Nat → Nat} {X : mh_X} {d : Nat} {Q : Option am_V → am_W → Prop} {bc bs : Nat} {w : am_W} {j1 : Nat} {xs0 : Int}
    (h : ((xs0 = 0 → Q (some (.inl 0)) w) ∧ (¬ xs0 = 0 → am_M (mh_G X) SC d 0 0 mX8_expectStuff [.inr (.inr (some (2, 0)))] w (fun r w1 => am_A (mh_G X) SC (d + 1) mX8_readUnder Q 28 [(0, .inr (.inr (some (2, 0)))), (1, .inr (.inr (some (10, j1))))] (r.toList ++ []) w1 bc bs)))) :
    am_A (mh_G X) SC (d + 1) mX8_readUnder Q 21 [(0, .inr (.inr (some (2, 0)))), (1, .inr (.inr (some (10, j1))))] [.inl xs0] w bc bs := by
  refine am_ifeq (tgt := 31) dX8_readUnder_21 (by decide) (fun c1 => ?_) (fun c1 => ?_)
  · replace h := h.1 c1
    refine am_iconst dX8_readUnder_31 (by unfold am_rg; omega) ?_
    exact am_ret (r := some (.inl 0)) dX8_readUnder_32 (Or.inr (Or.inl ⟨rfl, (Or.inl rfl)⟩)) rfl h
  · replace h := h.2 c1
    refine am_aload_n dX8_readUnder_24 (List.Mem.head _) ?_
    exact am_callv (d' := d) (kc := 0) (ks := 0) (as := []) dX8_readUnder_25 wc_X8_expectStuff wd_878 wd_880 wd_18 wd_113 ds_X8_expectStuff (by decide) (Nat.le_refl _) (Nat.le_of_ble_eq_true rfl) (Nat.zero_le _) (Nat.zero_le _) hc_1 (by decide) rfl rfl h
theorem bX8_readUnder_28 {SC : Nat → Nat} {X : mh_X} {d : Nat} {Q : Option am_V → am_W → Prop} {bc bs : Nat} {w : am_W} {j1 : Nat} {xs0 : Int}
    (h : ((¬ xs0 = 0 → am_M (mh_G X) SC d 0 0 mX8_depthAt [.inr (.inr (some (2, 0))), .inl 3] ((am_up w.1 10 j1 14 (w.1 26 0 1)), w.2) (fun r w1 => am_A (mh_G X) SC (d + 1) mX8_readUnder Q 49 [(0, .inr (.inr (some (2, 0)))), (1, .inr (.inr (some (10, j1))))] (r.toList ++ [.inr (.inr (some (10, j1)))]) w1 bc bs)) ∧ (xs0 = 0 → Q (some (.inl 0)) w))) :
    am_A (mh_G X) SC (d + 1) mX8_readUnder Q 28 [(0, .inr (.inr (some (2, 0)))), (1, .inr (.inr (some (10, j1))))] [.inl xs0] w bc bs := by
  refine am_ifne (tgt := 33) dX8_readUnder_28 (by decide) (fun c1 => ?_) (fun c1 => ?_)
  · replace h := h.1 c1
    refine am_aload_n dX8_readUnder_33 (List.Mem.tail _ (List.Mem.head _)) ?_
    refine am_aload_n dX8_readUnder_34 (List.Mem.head _) ?_
    refine am_getf (f := 2) (v := .inr (.inr (some (26, 0)))) dX8_readUnder_35 hc_1 (by decide) wd_152 (by decide) rfl rfl ?_
    refine am_iconst dX8_readUnder_38 (by unfold am_rg; omega) ?_
    refine am_iaload (v := (w.1 26 0 1)) dX8_readUnder_39 (by decide) rfl (by decide) (show (1 : Int) < (64 : Nat) by decide) rfl ?_
    refine am_putf (f := 14) dX8_readUnder_40 hc_4 (by decide) wd_239 rfl (Or.inl rfl) (Or.inl (by decide)) rfl ?_
    refine am_aload_n dX8_readUnder_43 (List.Mem.tail _ (List.Mem.head _)) ?_
    refine am_aload_n dX8_readUnder_44 (List.Mem.head _) ?_
    refine am_iconst dX8_readUnder_45 (by unfold am_rg; omega) ?_
    exact am_callv (d' := d) (kc := 0) (ks := 0) (as := [.inl 3]) dX8_readUnder_46 wc_X8_depthAt wd_833 wd_835 wd_12 wd_113 ds_X8_depthAt (by decide) (Nat.le_refl _) (Nat.le_of_ble_eq_true rfl) (Nat.zero_le _) (Nat.zero_le _) hc_1 (by decide) rfl rfl h
  · replace h := h.2 c1
    refine am_iconst dX8_readUnder_31 (by unfold am_rg; omega) ?_
    exact am_ret (r := some (.inl 0)) dX8_readUnder_32 (Or.inr (Or.inl ⟨rfl, (Or.inl rfl)⟩)) rfl h
theorem bX8_readUnder_49 {SC : Nat → Nat} {X : mh_X} {d : Nat} {Q : Option am_V → am_W → Prop} {bc bs : Nat} {w : am_W} {j1 : Nat} {xs0 : Int} {js1 : Nat}
    (h : Q (some (.inl 1)) ((am_up w.1 10 js1 15 xs0), w.2)) :
    am_A (mh_G X) SC (d + 1) mX8_readUnder Q 49 [(0, .inr (.inr (some (2, 0)))), (1, .inr (.inr (some (10, j1))))] [.inl xs0, .inr (.inr (some (10, js1)))] w bc bs := by
  refine am_putf (f := 15) dX8_readUnder_49 hc_4 (by decide) wd_242 rfl (Or.inl rfl) (Or.inl (by decide)) rfl ?_
  refine am_iconst dX8_readUnder_52 (by unfold am_rg; omega) ?_
  exact am_ret (r := some (.inl 1)) dX8_readUnder_53 (Or.inr (Or.inl ⟨rfl, (Or.inr rfl)⟩)) rfl h
-- MourningHouse$Reader.readWedding(LMourningHouse$Law;)Z
theorem dX8_readWedding_0 : decode mX8_readWedding.2.1 0 = .ok (.aload_n 0, 1) := by decide +kernel
theorem dX8_readWedding_1 : decode mX8_readWedding.2.1 1 = .ok (.iconst 1, 1) := by decide +kernel
theorem dX8_readWedding_2 : decode mX8_readWedding.2.1 2 = .ok (.putfield 39, 3) := by decide +kernel
theorem dX8_readWedding_5 : decode mX8_readWedding.2.1 5 = .ok (.aload_n 0, 1) := by decide +kernel
theorem dX8_readWedding_6 : decode mX8_readWedding.2.1 6 = .ok (.bipush 39, 2) := by decide +kernel
theorem dX8_readWedding_8 : decode mX8_readWedding.2.1 8 = .ok (.invokevirtual 129, 3) := by decide +kernel
theorem dX8_readWedding_11 : decode mX8_readWedding.2.1 11 = .ok (.ifCond .eq 10, 3) := by decide +kernel
theorem dX8_readWedding_14 : decode mX8_readWedding.2.1 14 = .ok (.aload_n 0, 1) := by decide +kernel
theorem dX8_readWedding_15 : decode mX8_readWedding.2.1 15 = .ok (.invokevirtual 187, 3) := by decide +kernel
theorem dX8_readWedding_18 : decode mX8_readWedding.2.1 18 = .ok (.ifCond .ne 5, 3) := by decide +kernel
theorem dX8_readWedding_21 : decode mX8_readWedding.2.1 21 = .ok (.iconst 0, 1) := by decide +kernel
theorem dX8_readWedding_22 : decode mX8_readWedding.2.1 22 = .ok (.ireturn, 1) := by decide +kernel
theorem dX8_readWedding_23 : decode mX8_readWedding.2.1 23 = .ok (.aload_n 1, 1) := by decide +kernel
theorem dX8_readWedding_24 : decode mX8_readWedding.2.1 24 = .ok (.aload_n 0, 1) := by decide +kernel
theorem dX8_readWedding_25 : decode mX8_readWedding.2.1 25 = .ok (.iconst 2, 1) := by decide +kernel
theorem dX8_readWedding_26 : decode mX8_readWedding.2.1 26 = .ok (.invokevirtual 163, 3) := by decide +kernel
theorem dX8_readWedding_29 : decode mX8_readWedding.2.1 29 = .ok (.putfield 217, 3) := by decide +kernel
theorem dX8_readWedding_32 : decode mX8_readWedding.2.1 32 = .ok (.iconst 1, 1) := by decide +kernel
theorem dX8_readWedding_33 : decode mX8_readWedding.2.1 33 = .ok (.ireturn, 1) := by decide +kernel
theorem bX8_readWedding_0 {SC : Nat → Nat} {X : mh_X} {d : Nat} {Q : Option am_V → am_W → Prop} {bc bs : Nat} {w : am_W} {j1 : Nat}
    (h : am_M (mh_G X) SC d 0 0 mX8_expect [.inr (.inr (some (2, 0))), .inl 39] ((am_up w.1 2 0 9 1), w.2) (fun r w1 => am_A (mh_G X) SC (d + 1) mX8_readWedding Q 11 [(0, .inr (.inr (some (2, 0)))), (1, .inr (.inr (some (10, j1))))] (r.toList ++ []) w1 bc bs)) :
    am_A (mh_G X) SC (d + 1) mX8_readWedding Q 0 [(0, .inr (.inr (some (2, 0)))), (1, .inr (.inr (some (10, j1))))] [] w bc bs := by
  refine am_aload_n dX8_readWedding_0 (List.Mem.head _) ?_
  refine am_iconst dX8_readWedding_1 (by unfold am_rg; omega) ?_
  refine am_putf (f := 9) dX8_readWedding_2 hc_1 (by decide) wd_163 rfl (Or.inl rfl) (Or.inl (by decide)) rfl ?_
  refine am_aload_n dX8_readWedding_5 (List.Mem.head _) ?_
  refine am_bipush dX8_readWedding_6 (by decide) (by unfold am_rg; omega) ?_
  exact am_callv (d' := d) (kc := 0) (ks := 0) (as := [.inl 39]) dX8_readWedding_8 wc_X8_expect wd_867 wd_869 wd_16 wd_113 ds_X8_expect (by decide) (Nat.le_refl _) (Nat.le_of_ble_eq_true rfl) (Nat.zero_le _) (Nat.zero_le _) hc_1 (by decide) rfl rfl h
theorem bX8_readWedding_11 {SC : Nat → Nat} {X : mh_X} {d : Nat} {Q : Option am_V → am_W → Prop} {bc bs : Nat} {w : am_W} {j1 : Nat} {xs0 : Int}
    (h : ((xs0 = 0 → Q (some (.inl 0)) w) ∧ (¬ xs0 = 0 → am_M (mh_G X) SC d 0 0 mX8_expectStuff [.inr (.inr (some (2, 0)))] w (fun r w1 => am_A (mh_G X) SC (d + 1) mX8_readWedding Q 18 [(0, .inr (.inr (some (2, 0)))), (1, .inr (.inr (some (10, j1))))] (r.toList ++ []) w1 bc bs)))) :
    am_A (mh_G X) SC (d + 1) mX8_readWedding Q 11 [(0, .inr (.inr (some (2, 0)))), (1, .inr (.inr (some (10, j1))))] [.inl xs0] w bc bs := by
  refine am_ifeq (tgt := 21) dX8_readWedding_11 (by decide) (fun c1 => ?_) (fun c1 => ?_)
  · replace h := h.1 c1
    refine am_iconst dX8_readWedding_21 (by unfold am_rg; omega) ?_
    exact am_ret (r := some (.inl 0)) dX8_readWedding_22 (Or.inr (Or.inl ⟨rfl, (Or.inl rfl)⟩)) rfl h
  · replace h := h.2 c1
    refine am_aload_n dX8_readWedding_14 (List.Mem.head _) ?_
    exact am_callv (d' := d) (kc := 0) (ks := 0) (as := []) dX8_readWedding_15 wc_X8_expectStuff wd_878 wd_880 wd_18 wd_113 ds_X8_expectStuff (by decide) (Nat.le_refl _) (Nat.le_of_ble_eq_true rfl) (Nat.zero_le _) (Nat.zero_le _) hc_1 (by decide) rfl rfl h
theorem bX8_readWedding_18 {SC : Nat → Nat} {X : mh_X} {d : Nat} {Q : Option am_V → am_W → Prop} {bc bs : Nat} {w : am_W} {j1 : Nat} {xs0 : Int}
    (h : ((¬ xs0 = 0 → am_M (mh_G X) SC d 0 0 mX8_depthAt [.inr (.inr (some (2, 0))), .inl 2] w (fun r w1 => am_A (mh_G X) SC (d + 1) mX8_readWedding Q 29 [(0, .inr (.inr (some (2, 0)))), (1, .inr (.inr (some (10, j1))))] (r.toList ++ [.inr (.inr (some (10, j1)))]) w1 bc bs)) ∧ (xs0 = 0 → Q (some (.inl 0)) w))) :
    am_A (mh_G X) SC (d + 1) mX8_readWedding Q 18 [(0, .inr (.inr (some (2, 0)))), (1, .inr (.inr (some (10, j1))))] [.inl xs0] w bc bs := by
  refine am_ifne (tgt := 23) dX8_readWedding_18 (by decide) (fun c1 => ?_) (fun c1 => ?_)
  · replace h := h.1 c1
    refine am_aload_n dX8_readWedding_23 (List.Mem.tail _ (List.Mem.head _)) ?_
    refine am_aload_n dX8_readWedding_24 (List.Mem.head _) ?_
    refine am_iconst dX8_readWedding_25 (by unfold am_rg; omega) ?_
    exact am_callv (d' := d) (kc := 0) (ks := 0) (as := [.inl 2]) dX8_readWedding_26 wc_X8_depthAt wd_833 wd_835 wd_12 wd_113 ds_X8_depthAt (by decide) (Nat.le_refl _) (Nat.le_of_ble_eq_true rfl) (Nat.zero_le _) (Nat.zero_le _) hc_1 (by decide) rfl rfl h
  · replace h := h.2 c1
    refine am_iconst dX8_readWedding_21 (by unfold am_rg; omega) ?_
    exact am_ret (r := some (.inl 0)) dX8_readWedding_22 (Or.inr (Or.inl ⟨rfl, (Or.inl rfl)⟩)) rfl h
theorem bX8_readWedding_29 {SC : Nat → Nat} {X : mh_X} {d : Nat} {Q : Option am_V → am_W → Prop} {bc bs : Nat} {w : am_W} {j1 : Nat} {xs0 : Int} {js1 : Nat}
    (h : Q (some (.inl 1)) ((am_up w.1 10 js1 16 xs0), w.2)) :
    am_A (mh_G X) SC (d + 1) mX8_readWedding Q 29 [(0, .inr (.inr (some (2, 0)))), (1, .inr (.inr (some (10, j1))))] [.inl xs0, .inr (.inr (some (10, js1)))] w bc bs := by
  refine am_putf (f := 16) dX8_readWedding_29 hc_4 (by decide) wd_245 rfl (Or.inl rfl) (Or.inl (by decide)) rfl ?_
  refine am_iconst dX8_readWedding_32 (by unfold am_rg; omega) ?_
  exact am_ret (r := some (.inl 1)) dX8_readWedding_33 (Or.inr (Or.inl ⟨rfl, (Or.inr rfl)⟩)) rfl h
